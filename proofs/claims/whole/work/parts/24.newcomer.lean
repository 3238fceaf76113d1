/-! StreamTree$Newcomer.offer (III)V -/
section
variable {p : Program} {l : Launch} {e : Env} {R : Room} {s : State} {m : MethodId} {args : Array Value} {below : List Frame} {meth : Method} {c : Code} {Q : State → Prop} {A : Nat → Prop} {D : va_G} {T : Nat → ClassId} {a0 : Nat → Nat}
theorem in_X3_offer_X3 : ∀ w ∈ u_ws RX3 TX3 5, w ∈ wsX3_offer := fun _ h => (List.mem_cons_of_mem _ (List.mem_append_right _ h))
def f_X3_offer_J59 (S0 : Nat → Nat → Int32) (x1 : Int32) (x2 : Int32) (x3 : Int32)  : Option ((Nat → Nat → Int32)) := zlet (zst S0 3 0 1) fun S0_1 => zlet (zst S0_1 0 0 x3) fun S0_2 => zlet (zst S0_2 1 0 x1) fun S0_3 => zlet (zst S0_3 2 0 x2) fun S0_4 => some S0_4
set_option maxHeartbeats 4000000 in
set_option maxRecDepth 100000 in
theorem p_X3_offer_J59 {w0 : va_W} (C : zC p R s m args meth c cX3_offer 5 RX3 wsX3_offer D T 0 0 0 0) (hr : meth.sig.returnType = none) (S0 : Nat → Nat → Int32) (x1 : Int32) (x2 : Int32) (x3 : Int32)  (hD : va_D (zA w0) (wX3 T a0 S0)) {ex : (Nat → Nat → Int32)} (h : f_X3_offer_J59 S0 x1 x2 x3 = some ex) : zt p l e R s m args below meth c 5 (zA w0) D 0 0 (MQ below (zQV D w0 (wX3 T a0 ex)) args s 0 0 (zA w0)) (wX3 T a0 S0) [(0, .ref (a0 99)), (1, .int x1), (2, .int x2), (3, .int x3)] 59 [] := by
  unfold f_X3_offer_J59 at h
  refine z_aload_n C dX3_offer_59 rfl 0 rfl 60 rfl ?_
  refine z_iconst C 1 dX3_offer_60 (by decide) 61 rfl ?_
  refine z_put (ty := .boolean) C (fun z => wX3 T a0 z) S0 (hD.zaddr rfl) (in_X3_offer_X3) tyX3 tyX3_ok nmX3 0 rfl rfl 3 (by decide) (List.mem_of_getElem? (i := 3) rfl) rfl rfl (by decide +kernel) rfl rfl (Nat.le_of_ble_eq_true rfl) rfl dX3_offer_61 64 rfl h (fun S0_1 h => ?_)
  refine z_aload_n C dX3_offer_64 rfl 0 rfl 65 rfl ?_
  refine z_iload_n C dX3_offer_65 rfl 3 rfl 66 rfl ?_
  refine z_put (ty := .int) C (fun z => wX3 T a0 z) S0_1 (hD.zaddr rfl) (in_X3_offer_X3) tyX3 tyX3_ok nmX3 0 rfl rfl 0 (by decide) (List.mem_of_getElem? (i := 4) rfl) rfl rfl (by decide +kernel) rfl rfl (Nat.le_of_ble_eq_true rfl) rfl dX3_offer_66 69 rfl h (fun S0_2 h => ?_)
  refine z_aload_n C dX3_offer_69 rfl 0 rfl 70 rfl ?_
  refine z_iload_n C dX3_offer_70 rfl 1 rfl 71 rfl ?_
  refine z_put (ty := .int) C (fun z => wX3 T a0 z) S0_2 (hD.zaddr rfl) (in_X3_offer_X3) tyX3 tyX3_ok nmX3 0 rfl rfl 1 (by decide) (List.mem_of_getElem? (i := 1) rfl) rfl rfl (by decide +kernel) rfl rfl (Nat.le_of_ble_eq_true rfl) rfl dX3_offer_71 74 rfl h (fun S0_3 h => ?_)
  refine z_aload_n C dX3_offer_74 rfl 0 rfl 75 rfl ?_
  refine z_iload_n C dX3_offer_75 rfl 2 rfl 76 rfl ?_
  refine z_put (ty := .int) C (fun z => wX3 T a0 z) S0_3 (hD.zaddr rfl) (in_X3_offer_X3) tyX3 tyX3_ok nmX3 0 rfl rfl 2 (by decide) (List.mem_of_getElem? (i := 2) rfl) rfl rfl (by decide +kernel) rfl rfl (Nat.le_of_ble_eq_true rfl) rfl dX3_offer_76 79 rfl h (fun S0_4 h => ?_)
  exact z_vretW (x := S0_4) (ex := ex) (fun z => wX3 T a0 z) C hr dX3_offer_79 h rfl

def f_X3_offer_J29 (S0 : Nat → Nat → Int32) (x1 : Int32) (x2 : Int32) (x3 : Int32) (k0 : Int32) : Option ((Nat → Nat → Int32)) := if (S0 3 0) = 0 then (f_X3_offer_J59 S0 x1 x2 x3) else (if x3 < (S0 0 0) then (f_X3_offer_J59 S0 x1 x2 x3) else (if x3 = (S0 0 0) then (if k0 = 0 then (some S0) else (f_X3_offer_J59 S0 x1 x2 x3)) else (some S0)))
set_option maxHeartbeats 4000000 in
set_option maxRecDepth 100000 in
theorem p_X3_offer_J29 {w0 : va_W} (C : zC p R s m args meth c cX3_offer 5 RX3 wsX3_offer D T 0 0 0 0) (hr : meth.sig.returnType = none) (S0 : Nat → Nat → Int32) (x1 : Int32) (x2 : Int32) (x3 : Int32) (k0 : Int32) (hD : va_D (zA w0) (wX3 T a0 S0)) {ex : (Nat → Nat → Int32)} (h : f_X3_offer_J29 S0 x1 x2 x3 k0 = some ex) : zt p l e R s m args below meth c 5 (zA w0) D 0 0 (MQ below (zQV D w0 (wX3 T a0 ex)) args s 0 0 (zA w0)) (wX3 T a0 S0) [(0, .ref (a0 99)), (1, .int x1), (2, .int x2), (3, .int x3)] 29 [.int k0] := by
  unfold f_X3_offer_J29 at h
  refine z_istore C [(0, .ref (a0 99)), (1, .int x1), (2, .int x2), (3, .int x3), (4, .int k0)] dX3_offer_29 (Nat.le_of_ble_eq_true rfl) [1, 2, 3, 4, 0] rfl 31 rfl ?_
  refine z_aload_n C dX3_offer_31 rfl 0 rfl 32 rfl ?_
  refine z_get C (in_X3_offer_X3) 0 rfl rfl 3 (by decide) (List.mem_of_getElem? (i := 3) rfl) rfl rfl dX3_offer_32 35 rfl ?_
  refine z_if_eq C 59 dX3_offer_35 (by decide) 38 rfl h (fun h => ?_) (fun h => ?_)
  · exact z_locals (ks := [0, 1, 2, 3]) rfl (p_X3_offer_J59 C hr S0 x1 x2 x3 (hD.zaddr rfl) h)
  · refine z_iload_n C dX3_offer_38 rfl 3 rfl 39 rfl ?_
    refine z_aload_n C dX3_offer_39 rfl 0 rfl 40 rfl ?_
    refine z_get C (in_X3_offer_X3) 0 rfl rfl 0 (by decide) (List.mem_of_getElem? (i := 4) rfl) rfl rfl dX3_offer_40 43 rfl ?_
    refine z_icmp_lt C 59 dX3_offer_43 (by decide) 46 rfl h (fun h => ?_) (fun h => ?_)
    · exact z_locals (ks := [0, 1, 2, 3]) rfl (p_X3_offer_J59 C hr S0 x1 x2 x3 (hD.zaddr rfl) h)
    · refine z_iload_n C dX3_offer_46 rfl 3 rfl 47 rfl ?_
      refine z_aload_n C dX3_offer_47 rfl 0 rfl 48 rfl ?_
      refine z_get C (in_X3_offer_X3) 0 rfl rfl 0 (by decide) (List.mem_of_getElem? (i := 4) rfl) rfl rfl dX3_offer_48 51 rfl ?_
      refine z_icmp_ne C 79 dX3_offer_51 (by decide) 54 rfl h (fun h => ?_) (fun h => ?_)
      · exact z_vretW (x := S0) (ex := ex) (fun z => wX3 T a0 z) C hr dX3_offer_79 h rfl
      · refine z_iload C dX3_offer_54 4 rfl 56 rfl ?_
        refine z_if_eq C 79 dX3_offer_56 (by decide) 59 rfl h (fun h => ?_) (fun h => ?_)
        · exact z_vretW (x := S0) (ex := ex) (fun z => wX3 T a0 z) C hr dX3_offer_79 h rfl
        · exact z_locals (ks := [0, 1, 2, 3]) rfl (p_X3_offer_J59 C hr S0 x1 x2 x3 (hD.zaddr rfl) h)

def f_X3_offer_J24 (S0 : Nat → Nat → Int32) (x1 : Int32) (x2 : Int32) (x3 : Int32)  : Option ((Nat → Nat → Int32)) := f_X3_offer_J29 S0 x1 x2 x3 1
set_option maxHeartbeats 4000000 in
set_option maxRecDepth 100000 in
theorem p_X3_offer_J24 {w0 : va_W} (C : zC p R s m args meth c cX3_offer 5 RX3 wsX3_offer D T 0 0 0 0) (hr : meth.sig.returnType = none) (S0 : Nat → Nat → Int32) (x1 : Int32) (x2 : Int32) (x3 : Int32)  (hD : va_D (zA w0) (wX3 T a0 S0)) {ex : (Nat → Nat → Int32)} (h : f_X3_offer_J24 S0 x1 x2 x3 = some ex) : zt p l e R s m args below meth c 5 (zA w0) D 0 0 (MQ below (zQV D w0 (wX3 T a0 ex)) args s 0 0 (zA w0)) (wX3 T a0 S0) [(0, .ref (a0 99)), (1, .int x1), (2, .int x2), (3, .int x3)] 24 [] := by
  unfold f_X3_offer_J24 at h
  refine z_iconst C 1 dX3_offer_24 (by decide) 25 rfl ?_
  refine z_goto C 29 dX3_offer_25 (by decide) ?_
  exact z_locals (ks := [0, 1, 2, 3]) rfl (p_X3_offer_J29 C hr S0 x1 x2 x3 1 (hD.zaddr rfl) h)

def f_X3_offer_J28 (S0 : Nat → Nat → Int32) (x1 : Int32) (x2 : Int32) (x3 : Int32)  : Option ((Nat → Nat → Int32)) := f_X3_offer_J29 S0 x1 x2 x3 0
set_option maxHeartbeats 4000000 in
set_option maxRecDepth 100000 in
theorem p_X3_offer_J28 {w0 : va_W} (C : zC p R s m args meth c cX3_offer 5 RX3 wsX3_offer D T 0 0 0 0) (hr : meth.sig.returnType = none) (S0 : Nat → Nat → Int32) (x1 : Int32) (x2 : Int32) (x3 : Int32)  (hD : va_D (zA w0) (wX3 T a0 S0)) {ex : (Nat → Nat → Int32)} (h : f_X3_offer_J28 S0 x1 x2 x3 = some ex) : zt p l e R s m args below meth c 5 (zA w0) D 0 0 (MQ below (zQV D w0 (wX3 T a0 ex)) args s 0 0 (zA w0)) (wX3 T a0 S0) [(0, .ref (a0 99)), (1, .int x1), (2, .int x2), (3, .int x3)] 28 [] := by
  unfold f_X3_offer_J28 at h
  refine z_iconst C 0 dX3_offer_28 (by decide) 29 rfl ?_
  exact z_locals (ks := [0, 1, 2, 3]) rfl (p_X3_offer_J29 C hr S0 x1 x2 x3 0 (hD.zaddr rfl) h)

def f_X3_offer (S0 : Nat → Nat → Int32) (v1 : Int32) (v2 : Int32) (v3 : Int32) : Option ((Nat → Nat → Int32)) := if v1 < (S0 1 0) then (f_X3_offer_J24 S0 v1 v2 v3) else (if v1 = (S0 1 0) then (if (S0 2 0) ≤ v2 then (f_X3_offer_J28 S0 v1 v2 v3) else (f_X3_offer_J24 S0 v1 v2 v3)) else (f_X3_offer_J28 S0 v1 v2 v3))
theorem dd_X3_offer : RX3 ≠ "java/lang/invoke/MethodHandle" ∧ RX3 ≠ "java/lang/invoke/VarHandle" ∧ (parseMethodDescriptor yX3_offer.desc).map (fun d => d.parameters.length) = some 3 := by decide +kernel
set_option maxHeartbeats 4000000 in
set_option maxRecDepth 100000 in
theorem c_X3_offer (l : Launch) (D : va_G) (T : Nat → ClassId) (a0 : Nat → Nat) (S0 : Nat → Nat → Int32) (v1 : Int32) (v2 : Int32) (v3 : Int32) (ex : (Nat → Nat → Int32)) (h : f_X3_offer S0 v1 v2 v3 = some ex) : zWV l yX3_offer wsX3_offer ({ frames := 0, cells := 0, slots := 0, locals := 0 } : Room) D T [.ref (a0 99), .int v1, .int v2, .int v3] (wX3 T a0 S0) (wX3 T a0 ex) := by
  refine z_begin (cc := cX3_offer) (nL := 5) (own := RX3) (fr := 0) (lc := 0) (ret := none) (by decide) rfl (Nat.le_of_ble_eq_true rfl) (zA (wX3 T a0 S0)) rfl [(0, .ref (a0 99)), (1, .int v1), (2, .int v2), (3, .int v3)] rfl ⟨rfl, rfl⟩ rfl ?_
  intro p e s m args below meth c C hr hD
  have hD := hD.zself
  unfold f_X3_offer at h
  refine z_iload_n C dX3_offer_0 rfl 1 rfl 1 rfl ?_
  refine z_aload_n C dX3_offer_1 rfl 0 rfl 2 rfl ?_
  refine z_get C (in_X3_offer_X3) 0 rfl rfl 1 (by decide) (List.mem_of_getElem? (i := 1) rfl) rfl rfl dX3_offer_2 5 rfl ?_
  refine z_icmp_lt C 24 dX3_offer_5 (by decide) 8 rfl h (fun h => ?_) (fun h => ?_)
  · exact z_locals (ks := [0, 1, 2, 3]) rfl (p_X3_offer_J24 C hr S0 v1 v2 v3 (hD.zaddr rfl) h)
  · refine z_iload_n C dX3_offer_8 rfl 1 rfl 9 rfl ?_
    refine z_aload_n C dX3_offer_9 rfl 0 rfl 10 rfl ?_
    refine z_get C (in_X3_offer_X3) 0 rfl rfl 1 (by decide) (List.mem_of_getElem? (i := 1) rfl) rfl rfl dX3_offer_10 13 rfl ?_
    refine z_icmp_ne C 28 dX3_offer_13 (by decide) 16 rfl h (fun h => ?_) (fun h => ?_)
    · exact z_locals (ks := [0, 1, 2, 3]) rfl (p_X3_offer_J28 C hr S0 v1 v2 v3 (hD.zaddr rfl) h)
    · refine z_iload_n C dX3_offer_16 rfl 2 rfl 17 rfl ?_
      refine z_aload_n C dX3_offer_17 rfl 0 rfl 18 rfl ?_
      refine z_get C (in_X3_offer_X3) 0 rfl rfl 2 (by decide) (List.mem_of_getElem? (i := 2) rfl) rfl rfl dX3_offer_18 21 rfl ?_
      refine z_icmp_ge C 28 dX3_offer_21 (by decide) 24 rfl h (fun h => ?_) (fun h => ?_)
      · exact z_locals (ks := [0, 1, 2, 3]) rfl (p_X3_offer_J28 C hr S0 v1 v2 v3 (hD.zaddr rfl) h)
      · exact z_locals (ks := [0, 1, 2, 3]) rfl (p_X3_offer_J24 C hr S0 v1 v2 v3 (hD.zaddr rfl) h)

end
/-! StreamTree$Newcomer.goOn (LStreamTree$Chart;LStreamTree$Tree;III)V -/
section
variable {p : Program} {l : Launch} {e : Env} {R : Room} {s : State} {m : MethodId} {args : Array Value} {below : List Frame} {meth : Method} {c : Code} {Q : State → Prop} {A : Nat → Prop} {D : va_G} {T : Nat → ClassId} {a0 : Nat → Nat} {a1 : Nat → Nat} {a2 : Nat → Nat}
theorem in_X3_goOn_X1 : ∀ w ∈ u_ws RX1 TX1 10, w ∈ wsX3_goOn := fun _ h => (List.mem_cons_of_mem _ (List.mem_append_left _ (List.mem_append_right _ h)))
theorem in_X3_goOn_X5 : ∀ w ∈ u_ws RX5 TX5 5, w ∈ wsX3_goOn := fun _ h => (List.mem_cons_of_mem _ (List.mem_append_right _ h))
theorem in_X3_goOn_X3 : ∀ w ∈ u_ws RX3 TX3 5, w ∈ wsX3_goOn := fun _ h => (List.mem_cons_of_mem _ (List.mem_append_left _ (List.mem_append_left _ (List.mem_append_right _ h))))
def f_X3_goOn_J170 (rec : (Int32 × (Nat → Nat → Int32)) → Option ((Nat → Nat → Int32))) (S0 : Nat → Nat → Int32) (S1 : Nat → Nat → Int32) (S2 : Nat → Nat → Int32) (v3 : Int32) (v4 : Int32) (v5 : Int32) (v6 : Int32) (x7 : Int32)  : Option ((Nat → Nat → Int32)) := rec ((x7 + 1), S0)
set_option maxHeartbeats 4000000 in
set_option maxRecDepth 100000 in
theorem p_X3_goOn_J170 (C : zC p R s m args meth c cX3_goOn 12 RX3 wsX3_goOn D T 2 49 0 0) (S0 : Nat → Nat → Int32) (S1 : Nat → Nat → Int32) (S2 : Nat → Nat → Int32) {v3 : Int32} {v4 : Int32} {v5 : Int32} {v6 : Int32} (x7 : Int32)  (hD : va_D A (wX3 T a0 S0 ++ (wX1 T a1 S1 ++ wX5 T a2 S2))) {rec : (Int32 × (Nat → Nat → Int32)) → Option ((Nat → Nat → Int32))} (hrec : ∀ (c0 : Int32) (c1 : Nat → Nat → Int32) (b : (Nat → Nat → Int32)), rec (c0, c1) = some b → (zt p l e R s m args below meth c 12 A D 0 0 Q (wX3 T a0 b ++ (wX1 T a1 S1 ++ wX5 T a2 S2)) [] 176 []) → zt p l e R s m args below meth c 12 A D 0 0 Q (wX3 T a0 c1 ++ (wX1 T a1 S1 ++ wX5 T a2 S2)) [(0, .ref (a0 99)), (1, .ref (a1 99)), (2, .ref (a2 99)), (3, .int v3), (4, .int v4), (5, .int v5), (6, .int v6), (7, .int c0)] 41 []) {b : (Nat → Nat → Int32)} (K : zt p l e R s m args below meth c 12 A D 0 0 Q (wX3 T a0 b ++ (wX1 T a1 S1 ++ wX5 T a2 S2)) [] 176 []) (h : f_X3_goOn_J170 rec S0 S1 S2 v3 v4 v5 v6 x7 = some b) : zt p l e R s m args below meth c 12 A D 0 0 Q (wX3 T a0 S0 ++ (wX1 T a1 S1 ++ wX5 T a2 S2)) [(0, .ref (a0 99)), (1, .ref (a1 99)), (2, .ref (a2 99)), (3, .int v3), (4, .int v4), (5, .int v5), (6, .int v6), (7, .int x7)] 170 [] := by
  unfold f_X3_goOn_J170 at h
  refine z_iinc C (x7 + 1) [(0, .ref (a0 99)), (1, .ref (a1 99)), (2, .ref (a2 99)), (3, .int v3), (4, .int v4), (5, .int v5), (6, .int v6), (7, .int (x7 + 1))] dX3_goOn_170 7 rfl rfl (Nat.le_of_ble_eq_true rfl) [1, 2, 3, 4, 5, 6, 7, 0] rfl 173 rfl ?_
  refine z_goto C 41 dX3_goOn_173 (by decide) ?_
  exact z_locals (ks := [0, 1, 2, 3, 4, 5, 6, 7]) rfl (hrec _ _ _ h K)

def f_X3_goOn_J161 (rec : (Int32 × (Nat → Nat → Int32)) → Option ((Nat → Nat → Int32))) (S0 : Nat → Nat → Int32) (S1 : Nat → Nat → Int32) (S2 : Nat → Nat → Int32) (v3 : Int32) (v4 : Int32) (v5 : Int32) (v6 : Int32) (x7 : Int32) (x9 : Int32) (x10 : Int32)  : Option ((Nat → Nat → Int32)) := zix x9 240 fun j => zlet (zst S0 4 j x10) fun S0_7 => f_X3_goOn_J170 rec S0_7 S1 S2 v3 v4 v5 v6 x7
set_option maxHeartbeats 4000000 in
set_option maxRecDepth 100000 in
theorem p_X3_goOn_J161 (C : zC p R s m args meth c cX3_goOn 12 RX3 wsX3_goOn D T 2 49 0 0) (S0 : Nat → Nat → Int32) (S1 : Nat → Nat → Int32) (S2 : Nat → Nat → Int32) {v3 : Int32} {v4 : Int32} {v5 : Int32} {v6 : Int32} (x7 : Int32) (x9 : Int32) (x10 : Int32)  (hD : va_D A (wX3 T a0 S0 ++ (wX1 T a1 S1 ++ wX5 T a2 S2))) {rec : (Int32 × (Nat → Nat → Int32)) → Option ((Nat → Nat → Int32))} (hrec : ∀ (c0 : Int32) (c1 : Nat → Nat → Int32) (b : (Nat → Nat → Int32)), rec (c0, c1) = some b → (zt p l e R s m args below meth c 12 A D 0 0 Q (wX3 T a0 b ++ (wX1 T a1 S1 ++ wX5 T a2 S2)) [] 176 []) → zt p l e R s m args below meth c 12 A D 0 0 Q (wX3 T a0 c1 ++ (wX1 T a1 S1 ++ wX5 T a2 S2)) [(0, .ref (a0 99)), (1, .ref (a1 99)), (2, .ref (a2 99)), (3, .int v3), (4, .int v4), (5, .int v5), (6, .int v6), (7, .int c0)] 41 []) {b : (Nat → Nat → Int32)} (K : zt p l e R s m args below meth c 12 A D 0 0 Q (wX3 T a0 b ++ (wX1 T a1 S1 ++ wX5 T a2 S2)) [] 176 []) (h : f_X3_goOn_J161 rec S0 S1 S2 v3 v4 v5 v6 x7 x9 x10 = some b) : zt p l e R s m args below meth c 12 A D 0 0 Q (wX3 T a0 S0 ++ (wX1 T a1 S1 ++ wX5 T a2 S2)) [(0, .ref (a0 99)), (1, .ref (a1 99)), (2, .ref (a2 99)), (3, .int v3), (4, .int v4), (5, .int v5), (6, .int v6), (7, .int x7), (9, .int x9), (10, .int x10)] 161 [] := by
  unfold f_X3_goOn_J161 at h
  refine z_aload_n C dX3_goOn_161 rfl 0 rfl 162 rfl ?_
  refine z_get C (in_X3_goOn_X3) 0 rfl rfl 4 (by decide) (List.mem_of_getElem? (i := 1) rfl) rfl rfl dX3_goOn_162 165 rfl ?_
  refine z_iload C dX3_goOn_165 8 rfl 167 rfl ?_
  refine z_iload C dX3_goOn_167 9 rfl 169 rfl ?_
  refine z_iast C (fun z => wX3 T a0 z ++ (wX1 T a1 S1 ++ wX5 T a2 S2)) S0 4 (hD.zaddr rfl) 1 rfl rfl (fun _ => rfl) dX3_goOn_169 170 rfl h (fun S0_7 h => ?_)
  exact z_locals (ks := [0, 1, 2, 3, 4, 5, 6, 7]) rfl (p_X3_goOn_J170 C S0_7 S1 S2 x7 (hD.zaddr rfl) hrec K h)

def f_X3_goOn_L41b (S1 : Nat → Nat → Int32) (S2 : Nat → Nat → Int32) (v3 : Int32) (v4 : Int32) (v5 : Int32) (v6 : Int32) (rec : (Int32 × (Nat → Nat → Int32)) → Option ((Nat → Nat → Int32))) (a : Int32 × (Nat → Nat → Int32)) : Option ((Nat → Nat → Int32)) := if 2 < a.1 then (some a.2) else ((f_X1_turnBeside S1 v4 a.1).bind fun r_3 => (f_X6_cellOf (v3 - 1) r_3).bind fun r_4 => (f_X1_lengthOf S1 a.1).bind fun r_5 => zlet (v6 + r_5) fun u_6 => zix r_4 240 fun _ => if (S2 3 (Int32.toNatClampNeg r_4)) = 0 then (zix r_4 240 fun _ => if (S1 9 (Int32.toNatClampNeg r_4)) = 0 then (zix r_4 240 fun _ => if (a.2 4 (Int32.toNatClampNeg r_4)) = (-1) then (f_X3_goOn_J161 rec a.2 S1 S2 v3 v4 v5 v6 a.1 r_4 u_6) else (zix r_4 240 fun _ => if (a.2 4 (Int32.toNatClampNeg r_4)) ≤ u_6 then (f_X3_goOn_J170 rec a.2 S1 S2 v3 v4 v5 v6 a.1) else (f_X3_goOn_J161 rec a.2 S1 S2 v3 v4 v5 v6 a.1 r_4 u_6))) else (f_X3_goOn_J170 rec a.2 S1 S2 v3 v4 v5 v6 a.1)) else ((f_X5_lengthFrom S2 S1 (v3 - 1) r_3).bind fun r_8 => zlet (v5 * r_8) fun u_9 => (f_X3_offer a.2 (v3 - 1) r_3 ((u_6 * ((S1 2 0) + v5)) + u_9)).bind fun r_10 => f_X3_goOn_J170 rec r_10 S1 S2 v3 v4 v5 v6 a.1))
def f_X3_goOn_L41 (S1 : Nat → Nat → Int32) (S2 : Nat → Nat → Int32) (v3 : Int32) (v4 : Int32) (v5 : Int32) (v6 : Int32) : Nat → (Int32 × (Nat → Nat → Int32)) → Option ((Nat → Nat → Int32)) := zloop (fun rec a => f_X3_goOn_L41b S1 S2 v3 v4 v5 v6 rec a)
set_option maxHeartbeats 4000000 in
set_option maxRecDepth 100000 in
theorem p_X3_goOn_L41 (C : zC p R s m args meth c cX3_goOn 12 RX3 wsX3_goOn D T 2 49 0 0) (S0 : Nat → Nat → Int32) (S1 : Nat → Nat → Int32) (S2 : Nat → Nat → Int32) (v3 : Int32) (v4 : Int32) (v5 : Int32) (v6 : Int32) (hD : va_D A (wX3 T a0 S0 ++ (wX1 T a1 S1 ++ wX5 T a2 S2))) : ∀ (n : Nat) (c0 : Int32) (c1 : Nat → Nat → Int32) (b : (Nat → Nat → Int32)), f_X3_goOn_L41 S1 S2 v3 v4 v5 v6 n (c0, c1) = some b → (zt p l e R s m args below meth c 12 A D 0 0 Q (wX3 T a0 b ++ (wX1 T a1 S1 ++ wX5 T a2 S2)) [] 176 []) → zt p l e R s m args below meth c 12 A D 0 0 Q (wX3 T a0 c1 ++ (wX1 T a1 S1 ++ wX5 T a2 S2)) [(0, .ref (a0 99)), (1, .ref (a1 99)), (2, .ref (a2 99)), (3, .int v3), (4, .int v4), (5, .int v5), (6, .int v6), (7, .int c0)] 41 [] := by
  intro n c0 c1 b h K
  refine zloop_ind (P := fun a b => (zt p l e R s m args below meth c 12 A D 0 0 Q (wX3 T a0 b ++ (wX1 T a1 S1 ++ wX5 T a2 S2)) [] 176 []) → zt p l e R s m args below meth c 12 A D 0 0 Q (wX3 T a0 a.2 ++ (wX1 T a1 S1 ++ wX5 T a2 S2)) [(0, .ref (a0 99)), (1, .ref (a1 99)), (2, .ref (a2 99)), (3, .int v3), (4, .int v4), (5, .int v5), (6, .int v6), (7, .int a.1)] 41 []) ?_ n (c0, c1) b h K
  clear h K b c0 c1
  intro rec hrec a b h K
  have hrec : ∀ (c0 : Int32) (c1 : Nat → Nat → Int32) (b : (Nat → Nat → Int32)), rec (c0, c1) = some b → (zt p l e R s m args below meth c 12 A D 0 0 Q (wX3 T a0 b ++ (wX1 T a1 S1 ++ wX5 T a2 S2)) [] 176 []) → zt p l e R s m args below meth c 12 A D 0 0 Q (wX3 T a0 c1 ++ (wX1 T a1 S1 ++ wX5 T a2 S2)) [(0, .ref (a0 99)), (1, .ref (a1 99)), (2, .ref (a2 99)), (3, .int v3), (4, .int v4), (5, .int v5), (6, .int v6), (7, .int c0)] 41 [] := fun c0 c1 b h K => hrec (c0, c1) b h K
  unfold f_X3_goOn_L41b at h
  refine z_iload C dX3_goOn_41 7 rfl 43 rfl ?_
  refine z_iconst C 2 dX3_goOn_43 (by decide) 44 rfl ?_
  refine z_icmp_gt C 176 dX3_goOn_44 (by decide) 47 rfl h (fun h => ?_) (fun h => ?_)
  · refine z_locals (ks := []) (lv' := []) rfl ?_
    exact zex1 (F := (fun e0 => zt p l e R s m args below meth c 12 A D 0 0 Q (wX3 T a0 e0 ++ (wX1 T a1 S1 ++ wX5 T a2 S2)) [] 176 [])) h K
  · refine z_aload_n C dX3_goOn_47 rfl 1 rfl 48 rfl ?_
    refine z_iload C dX3_goOn_48 4 rfl 50 rfl ?_
    refine z_iload C dX3_goOn_50 7 rfl 52 rfl ?_
    refine z_callR C (wX1 T a1 S1) (fun v h => c_X1_turnBeside l D T a1  S1 v4 a.1 v h) ⟨rfl, rfl⟩ (z_cwV C 2 gX3_goOn_X1_turnBeside rfl rfl dd_X1_turnBeside ⟨(Nat.le_of_ble_eq_true rfl), (Nat.le_of_ble_eq_true rfl)⟩) (hD.zaddr rfl) [2, 3, 4, 5, 6] rfl rfl (fun _ => ⟨a1 99, [.int v4, .int a.1], 1, 0, _, _, rfl, rfl, rfl, rfl, rfl⟩) (fun h => absurd rfl h) rfl (Nat.le_of_ble_eq_true rfl) dX3_goOn_52 55 rfl h (fun r_3 h => ?_)
    refine z_istore C [(0, .ref (a0 99)), (1, .ref (a1 99)), (2, .ref (a2 99)), (3, .int v3), (4, .int v4), (5, .int v5), (6, .int v6), (7, .int a.1), (8, .int r_3)] dX3_goOn_55 (Nat.le_of_ble_eq_true rfl) [1, 2, 3, 4, 5, 6, 7, 8, 0] rfl 57 rfl ?_
    refine z_iload_n C dX3_goOn_57 rfl 3 rfl 58 rfl ?_
    refine z_iconst C 1 dX3_goOn_58 (by decide) 59 rfl ?_
    refine z_isub C dX3_goOn_59 60 rfl ?_
    refine z_iload C dX3_goOn_60 8 rfl 62 rfl ?_
    refine z_callR C ([]) (fun v h => c_X6_cellOf l D T    (v3 - 1) r_3 v h) ⟨rfl, rfl⟩ (z_cwN C 2 gX3_goOn_X6_cellOf_n19 rfl (List.mem_of_getElem? (i := 10) rfl) (List.mem_of_getElem? (i := 5) rfl) (List.mem_of_getElem? (i := 6) rfl) dd_X6_cellOf ⟨(Nat.le_of_ble_eq_true rfl), (Nat.le_of_ble_eq_true rfl)⟩) (hD.zaddr rfl) [] rfl rfl (fun h => absurd h (by decide)) (fun _ => rfl) rfl (Nat.le_of_ble_eq_true rfl) dX3_goOn_62 65 rfl h (fun r_4 h => ?_)
    refine z_istore C [(0, .ref (a0 99)), (1, .ref (a1 99)), (2, .ref (a2 99)), (3, .int v3), (4, .int v4), (5, .int v5), (6, .int v6), (7, .int a.1), (8, .int r_3), (9, .int r_4)] dX3_goOn_65 (Nat.le_of_ble_eq_true rfl) [1, 2, 3, 4, 5, 6, 7, 8, 9, 0] rfl 67 rfl ?_
    refine z_iload C dX3_goOn_67 6 rfl 69 rfl ?_
    refine z_aload_n C dX3_goOn_69 rfl 1 rfl 70 rfl ?_
    refine z_iload C dX3_goOn_70 7 rfl 72 rfl ?_
    refine z_callR C (wX1 T a1 S1) (fun v h => c_X1_lengthOf l D T a1  S1 a.1 v h) ⟨rfl, rfl⟩ (z_cwV C 1 gX3_goOn_X1_lengthOf rfl rfl dd_X1_lengthOf ⟨(Nat.le_of_ble_eq_true rfl), (Nat.le_of_ble_eq_true rfl)⟩) (hD.zaddr rfl) [2, 3, 4, 5, 6] rfl rfl (fun _ => ⟨a1 99, [.int a.1], 1, 0, _, _, rfl, rfl, rfl, rfl, rfl⟩) (fun h => absurd rfl h) rfl (Nat.le_of_ble_eq_true rfl) dX3_goOn_72 75 rfl h (fun r_5 h => ?_)
    refine z_iadd C dX3_goOn_75 76 rfl ?_
    refine z_top h (fun u_6 h => ?_)
    refine z_istore C [(0, .ref (a0 99)), (1, .ref (a1 99)), (2, .ref (a2 99)), (3, .int v3), (4, .int v4), (5, .int v5), (6, .int v6), (7, .int a.1), (8, .int r_3), (9, .int r_4), (10, .int u_6)] dX3_goOn_76 (Nat.le_of_ble_eq_true rfl) [1, 2, 3, 4, 5, 6, 7, 8, 9, 10, 0] rfl 78 rfl ?_
    refine z_aload_n C dX3_goOn_78 rfl 2 rfl 79 rfl ?_
    refine z_get C (in_X3_goOn_X5) 7 rfl rfl 3 (by decide) (List.mem_of_getElem? (i := 3) rfl) rfl rfl dX3_goOn_79 82 rfl ?_
    refine z_iload C dX3_goOn_82 9 rfl 84 rfl ?_
    refine z_iald C 8 rfl rfl dX3_goOn_84 85 rfl h (fun h => ?_)
    refine z_if_eq C 128 dX3_goOn_85 (by decide) 88 rfl h (fun h => ?_) (fun h => ?_)
    · refine z_aload_n C dX3_goOn_128 rfl 1 rfl 129 rfl ?_
      refine z_get C (in_X3_goOn_X1) 2 rfl rfl 9 (by decide) (List.mem_of_getElem? (i := 4) rfl) rfl rfl dX3_goOn_129 132 rfl ?_
      refine z_iload C dX3_goOn_132 9 rfl 134 rfl ?_
      refine z_zald C 6 rfl rfl dX3_goOn_134 135 rfl h (fun h => ?_)
      refine z_if_ne C 170 dX3_goOn_135 (by decide) 138 rfl h (fun h => ?_) (fun h => ?_)
      · exact z_locals (ks := [0, 1, 2, 3, 4, 5, 6, 7]) rfl (p_X3_goOn_J170 C a.2 S1 S2 a.1 (hD.zaddr rfl) hrec K h)
      · refine z_aload_n C dX3_goOn_138 rfl 0 rfl 139 rfl ?_
        refine z_get C (in_X3_goOn_X3) 0 rfl rfl 4 (by decide) (List.mem_of_getElem? (i := 1) rfl) rfl rfl dX3_goOn_139 142 rfl ?_
        refine z_iload C dX3_goOn_142 9 rfl 144 rfl ?_
        refine z_iald C 1 rfl rfl dX3_goOn_144 145 rfl h (fun h => ?_)
        refine z_iconst C (-1) dX3_goOn_145 (by decide) 146 rfl ?_
        refine z_icmp_eq C 161 dX3_goOn_146 (by decide) 149 rfl h (fun h => ?_) (fun h => ?_)
        · exact z_locals (ks := [0, 1, 2, 3, 4, 5, 6, 7, 9, 10]) rfl (p_X3_goOn_J161 C a.2 S1 S2 a.1 r_4 u_6 (hD.zaddr rfl) hrec K h)
        · refine z_iload C dX3_goOn_149 10 rfl 151 rfl ?_
          refine z_aload_n C dX3_goOn_151 rfl 0 rfl 152 rfl ?_
          refine z_get C (in_X3_goOn_X3) 0 rfl rfl 4 (by decide) (List.mem_of_getElem? (i := 1) rfl) rfl rfl dX3_goOn_152 155 rfl ?_
          refine z_iload C dX3_goOn_155 9 rfl 157 rfl ?_
          refine z_iald C 1 rfl rfl dX3_goOn_157 158 rfl h (fun h => ?_)
          refine z_icmp_ge C 170 dX3_goOn_158 (by decide) 161 rfl h (fun h => ?_) (fun h => ?_)
          · exact z_locals (ks := [0, 1, 2, 3, 4, 5, 6, 7]) rfl (p_X3_goOn_J170 C a.2 S1 S2 a.1 (hD.zaddr rfl) hrec K h)
          · exact z_locals (ks := [0, 1, 2, 3, 4, 5, 6, 7, 9, 10]) rfl (p_X3_goOn_J161 C a.2 S1 S2 a.1 r_4 u_6 (hD.zaddr rfl) hrec K h)
    · refine z_iload C dX3_goOn_88 5 rfl 90 rfl ?_
      refine z_aload_n C dX3_goOn_90 rfl 2 rfl 91 rfl ?_
      refine z_aload_n C dX3_goOn_91 rfl 1 rfl 92 rfl ?_
      refine z_iload_n C dX3_goOn_92 rfl 3 rfl 93 rfl ?_
      refine z_iconst C 1 dX3_goOn_93 (by decide) 94 rfl ?_
      refine z_isub C dX3_goOn_94 95 rfl ?_
      refine z_iload C dX3_goOn_95 8 rfl 97 rfl ?_
      refine z_callR C (wX5 T a2 S2 ++ wX1 T a1 S1) (fun v h => c_X5_lengthFrom l D T a2 a1  S2 S1 (v3 - 1) r_3 v h) ⟨rfl, rfl⟩ (z_cwV C 3 gX3_goOn_X5_lengthFrom rfl rfl dd_X5_lengthFrom ⟨(Nat.le_of_ble_eq_true rfl), (Nat.le_of_ble_eq_true rfl)⟩) (hD.zaddr rfl) [7, 8, 9, 2, 3, 4, 5, 6] rfl rfl (fun _ => ⟨a2 99, [.ref (a1 99), .int (v3 - 1), .int r_3], 4, 0, _, _, rfl, rfl, rfl, rfl, rfl⟩) (fun h => absurd rfl h) rfl (Nat.le_of_ble_eq_true rfl) dX3_goOn_97 100 rfl h (fun r_8 h => ?_)
      refine z_imul C dX3_goOn_100 101 rfl ?_
      refine z_top h (fun u_9 h => ?_)
      refine z_istore C [(0, .ref (a0 99)), (1, .ref (a1 99)), (2, .ref (a2 99)), (3, .int v3), (4, .int v4), (5, .int v5), (6, .int v6), (7, .int a.1), (8, .int r_3), (9, .int r_4), (10, .int u_6), (11, .int u_9)] dX3_goOn_101 (Nat.le_of_ble_eq_true rfl) [1, 2, 3, 4, 5, 6, 7, 8, 9, 10, 11, 0] rfl 103 rfl ?_
      refine z_aload_n C dX3_goOn_103 rfl 0 rfl 104 rfl ?_
      refine z_iload_n C dX3_goOn_104 rfl 3 rfl 105 rfl ?_
      refine z_iconst C 1 dX3_goOn_105 (by decide) 106 rfl ?_
      refine z_isub C dX3_goOn_106 107 rfl ?_
      refine z_iload C dX3_goOn_107 8 rfl 109 rfl ?_
      refine z_iload C dX3_goOn_109 10 rfl 111 rfl ?_
      refine z_aload_n C dX3_goOn_111 rfl 1 rfl 112 rfl ?_
      refine z_get C (in_X3_goOn_X1) 2 rfl rfl 2 (by decide) (List.mem_of_getElem? (i := 2) rfl) rfl rfl dX3_goOn_112 115 rfl ?_
      refine z_iload C dX3_goOn_115 5 rfl 117 rfl ?_
      refine z_iadd C dX3_goOn_117 118 rfl ?_
      refine z_imul C dX3_goOn_118 119 rfl ?_
      refine z_iload C dX3_goOn_119 11 rfl 121 rfl ?_
      refine z_iadd C dX3_goOn_121 122 rfl ?_
      refine z_callV C (wX3 T a0 a.2) (wX1 T a1 S1 ++ wX5 T a2 S2) (fun z => wX3 T a0 z) (fun z => wX3 T a0 z ++ (wX1 T a1 S1 ++ wX5 T a2 S2)) (fun z h => c_X3_offer l D T a0  a.2 (v3 - 1) r_3 ((u_6 * ((S1 2 0) + v5)) + u_9) z h) ⟨rfl, rfl⟩ (z_cwV C 3 gX3_goOn_X3_offer rfl rfl dd_X3_offer ⟨(Nat.le_of_ble_eq_true rfl), (Nat.le_of_ble_eq_true rfl)⟩) (hD.zaddr rfl) [0, 1] [2, 3, 4, 5, 6, 7, 8, 9] [8, 9, 0, 1, 2, 3, 4, 5, 6, 7] rfl rfl rfl (by decide) (fun _ => rfl) (fun _ => ⟨a0 99, [.int (v3 - 1), .int r_3, .int ((u_6 * ((S1 2 0) + v5)) + u_9)], 2, 0, _, _, rfl, rfl, rfl, rfl, rfl⟩) (fun h => absurd rfl h) rfl (Nat.le_of_ble_eq_true rfl) dX3_goOn_122 125 rfl h (fun r_10 h => ?_)
      refine z_goto C 170 dX3_goOn_125 (by decide) ?_
      exact z_locals (ks := [0, 1, 2, 3, 4, 5, 6, 7]) rfl (p_X3_goOn_J170 C r_10 S1 S2 a.1 (hD.zaddr rfl) hrec K h)

def f_X3_goOn (S0 : Nat → Nat → Int32) (S1 : Nat → Nat → Int32) (S2 : Nat → Nat → Int32) (v3 : Int32) (v4 : Int32) (v5 : Int32) : Option ((Nat → Nat → Int32)) := (f_X6_cellOf v3 v4).bind fun r_1 => zix r_1 240 fun _ => zlet (S0 4 (Int32.toNatClampNeg r_1)) fun u_2 => if v3 = 1 then ((f_X3_offer S0 0 0 ((u_2 + 10) * ((S1 2 0) + v5))).bind fun r_12 => some r_12) else ((f_X3_goOn_L41 S1 S2 v3 v4 v5 u_2 zfuel (0, S0)).bind fun y_11 => some y_11)
theorem dd_X3_goOn : RX3 ≠ "java/lang/invoke/MethodHandle" ∧ RX3 ≠ "java/lang/invoke/VarHandle" ∧ (parseMethodDescriptor yX3_goOn.desc).map (fun d => d.parameters.length) = some 5 := by decide +kernel
set_option maxHeartbeats 4000000 in
set_option maxRecDepth 100000 in
theorem c_X3_goOn (l : Launch) (D : va_G) (T : Nat → ClassId) (a0 : Nat → Nat) (a1 : Nat → Nat) (a2 : Nat → Nat) (S0 : Nat → Nat → Int32) (S1 : Nat → Nat → Int32) (S2 : Nat → Nat → Int32) (v3 : Int32) (v4 : Int32) (v5 : Int32) (ex : (Nat → Nat → Int32)) (h : f_X3_goOn S0 S1 S2 v3 v4 v5 = some ex) : zWV l yX3_goOn wsX3_goOn ({ frames := 2, cells := 0, slots := 0, locals := 49 } : Room) D T [.ref (a0 99), .ref (a1 99), .ref (a2 99), .int v3, .int v4, .int v5] (wX3 T a0 S0 ++ (wX1 T a1 S1 ++ wX5 T a2 S2)) (wX3 T a0 ex ++ (wX1 T a1 S1 ++ wX5 T a2 S2)) := by
  refine z_begin (cc := cX3_goOn) (nL := 12) (own := RX3) (fr := 2) (lc := 49) (ret := none) (by decide) rfl (Nat.le_of_ble_eq_true rfl) (zA (wX3 T a0 S0 ++ (wX1 T a1 S1 ++ wX5 T a2 S2))) rfl [(0, .ref (a0 99)), (1, .ref (a1 99)), (2, .ref (a2 99)), (3, .int v3), (4, .int v4), (5, .int v5)] rfl ⟨rfl, rfl⟩ rfl ?_
  intro p e s m args below meth c C hr hD
  have hD := hD.zself
  unfold f_X3_goOn at h
  refine z_aload_n C dX3_goOn_0 rfl 0 rfl 1 rfl ?_
  refine z_get C (in_X3_goOn_X3) 0 rfl rfl 4 (by decide) (List.mem_of_getElem? (i := 1) rfl) rfl rfl dX3_goOn_1 4 rfl ?_
  refine z_iload_n C dX3_goOn_4 rfl 3 rfl 5 rfl ?_
  refine z_iload C dX3_goOn_5 4 rfl 7 rfl ?_
  refine z_callR C ([]) (fun v h => c_X6_cellOf l D T    v3 v4 v h) ⟨rfl, rfl⟩ (z_cwN C 2 gX3_goOn_X6_cellOf_n19 rfl (List.mem_of_getElem? (i := 10) rfl) (List.mem_of_getElem? (i := 5) rfl) (List.mem_of_getElem? (i := 6) rfl) dd_X6_cellOf ⟨(Nat.le_of_ble_eq_true rfl), (Nat.le_of_ble_eq_true rfl)⟩) (hD.zaddr rfl) [] rfl rfl (fun h => absurd h (by decide)) (fun _ => rfl) rfl (Nat.le_of_ble_eq_true rfl) dX3_goOn_7 10 rfl h (fun r_1 h => ?_)
  refine z_iald C 1 rfl rfl dX3_goOn_10 11 rfl h (fun h => ?_)
  refine z_top h (fun u_2 h => ?_)
  refine z_istore C [(0, .ref (a0 99)), (1, .ref (a1 99)), (2, .ref (a2 99)), (3, .int v3), (4, .int v4), (5, .int v5), (6, .int u_2)] dX3_goOn_11 (Nat.le_of_ble_eq_true rfl) [1, 2, 3, 4, 5, 6, 0] rfl 13 rfl ?_
  refine z_iload_n C dX3_goOn_13 rfl 3 rfl 14 rfl ?_
  refine z_iconst C 1 dX3_goOn_14 (by decide) 15 rfl ?_
  refine z_icmp_ne C 38 dX3_goOn_15 (by decide) 18 rfl h (fun h => ?_) (fun h => ?_)
  · refine z_iconst C 0 dX3_goOn_38 (by decide) 39 rfl ?_
    refine z_istore C [(0, .ref (a0 99)), (1, .ref (a1 99)), (2, .ref (a2 99)), (3, .int v3), (4, .int v4), (5, .int v5), (6, .int u_2), (7, .int 0)] dX3_goOn_39 (Nat.le_of_ble_eq_true rfl) [1, 2, 3, 4, 5, 6, 7, 0] rfl 41 rfl ?_
    obtain ⟨y_11, hl_y_11, h⟩ := Option.bind_eq_some_iff.mp h
    refine z_locals (ks := [0, 1, 2, 3, 4, 5, 6, 7]) rfl (p_X3_goOn_L41 C S0 S1 S2 v3 v4 v5 u_2 (hD.zaddr rfl) _ _ _ _ hl_y_11 ?_)
    exact z_vretW (x := y_11) (ex := ex) (fun z => wX3 T a0 z ++ (wX1 T a1 S1 ++ wX5 T a2 S2)) C hr dX3_goOn_176 h rfl
  · refine z_aload_n C dX3_goOn_18 rfl 0 rfl 19 rfl ?_
    refine z_iconst C 0 dX3_goOn_19 (by decide) 20 rfl ?_
    refine z_iconst C 0 dX3_goOn_20 (by decide) 21 rfl ?_
    refine z_iload C dX3_goOn_21 6 rfl 23 rfl ?_
    refine z_bipush C 10 dX3_goOn_23 (by decide) 25 rfl ?_
    refine z_iadd C dX3_goOn_25 26 rfl ?_
    refine z_aload_n C dX3_goOn_26 rfl 1 rfl 27 rfl ?_
    refine z_get C (in_X3_goOn_X1) 2 rfl rfl 2 (by decide) (List.mem_of_getElem? (i := 2) rfl) rfl rfl dX3_goOn_27 30 rfl ?_
    refine z_iload C dX3_goOn_30 5 rfl 32 rfl ?_
    refine z_iadd C dX3_goOn_32 33 rfl ?_
    refine z_imul C dX3_goOn_33 34 rfl ?_
    refine z_callV C (wX3 T a0 S0) (wX1 T a1 S1 ++ wX5 T a2 S2) (fun z => wX3 T a0 z) (fun z => wX3 T a0 z ++ (wX1 T a1 S1 ++ wX5 T a2 S2)) (fun z h => c_X3_offer l D T a0  S0 0 0 ((u_2 + 10) * ((S1 2 0) + v5)) z h) ⟨rfl, rfl⟩ (z_cwV C 3 gX3_goOn_X3_offer rfl rfl dd_X3_offer ⟨(Nat.le_of_ble_eq_true rfl), (Nat.le_of_ble_eq_true rfl)⟩) (hD.zaddr rfl) [0, 1] [2, 3, 4, 5, 6, 7, 8, 9] [8, 9, 0, 1, 2, 3, 4, 5, 6, 7] rfl rfl rfl (by decide) (fun _ => rfl) (fun _ => ⟨a0 99, [.int 0, .int 0, .int ((u_2 + 10) * ((S1 2 0) + v5))], 2, 0, _, _, rfl, rfl, rfl, rfl, rfl⟩) (fun h => absurd rfl h) rfl (Nat.le_of_ble_eq_true rfl) dX3_goOn_34 37 rfl h (fun r_12 h => ?_)
    exact z_vretW (x := r_12) (ex := ex) (fun z => wX3 T a0 z ++ (wX1 T a1 S1 ++ wX5 T a2 S2)) C hr dX3_goOn_37 h rfl

end
/-! StreamTree$Newcomer.findWay (LStreamTree$Chart;LStreamTree$Tree;III)Z -/
section
variable {p : Program} {l : Launch} {e : Env} {R : Room} {s : State} {m : MethodId} {args : Array Value} {below : List Frame} {meth : Method} {c : Code} {Q : State → Prop} {A : Nat → Prop} {D : va_G} {T : Nat → ClassId} {a0 : Nat → Nat} {a1 : Nat → Nat} {a2 : Nat → Nat}
theorem in_X3_findWay_X1 : ∀ w ∈ u_ws RX1 TX1 10, w ∈ wsX3_findWay := fun _ h => (List.mem_cons_of_mem _ (List.mem_append_right _ h))
theorem in_X3_findWay_X5 : ∀ w ∈ u_ws RX5 TX5 5, w ∈ wsX3_findWay := fun _ h => (List.mem_cons_of_mem _ (List.mem_append_left _ (List.mem_append_right _ h)))
theorem in_X3_findWay_X3 : ∀ w ∈ u_ws RX3 TX3 5, w ∈ wsX3_findWay := fun _ h => (List.mem_cons_of_mem _ (List.mem_append_left _ (List.mem_append_left _ (List.mem_append_right _ h))))
def f_X3_findWay_J108 (rec : (Int32 × (Nat → Nat → Int32)) → Option ((Nat → Nat → Int32))) (S0 : Nat → Nat → Int32) (S1 : Nat → Nat → Int32) (S2 : Nat → Nat → Int32) (v5 : Int32) (v7 : Int32) (x8 : Int32)  : Option ((Nat → Nat → Int32)) := rec ((x8 + 1), S0)
set_option maxHeartbeats 4000000 in
set_option maxRecDepth 100000 in
theorem p_X3_findWay_J108 (C : zC p R s m args meth c cX3_findWay 9 RX3 wsX3_findWay D T 3 80 0 0) (S0 : Nat → Nat → Int32) (S1 : Nat → Nat → Int32) (S2 : Nat → Nat → Int32) {v5 : Int32} {v7 : Int32} (x8 : Int32)  (hD : va_D A (wX3 T a0 S0 ++ (wX1 T a1 S1 ++ wX5 T a2 S2))) {rec : (Int32 × (Nat → Nat → Int32)) → Option ((Nat → Nat → Int32))} (hrec : ∀ (c0 : Int32) (c1 : Nat → Nat → Int32) (b : (Nat → Nat → Int32)), rec (c0, c1) = some b → (zt p l e R s m args below meth c 9 A D 0 0 Q (wX3 T a0 b ++ (wX1 T a1 S1 ++ wX5 T a2 S2)) [(0, .ref (a0 99)), (1, .ref (a1 99)), (2, .ref (a2 99)), (5, .int v5), (7, .int v7)] 114 []) → zt p l e R s m args below meth c 9 A D 0 0 Q (wX3 T a0 c1 ++ (wX1 T a1 S1 ++ wX5 T a2 S2)) [(0, .ref (a0 99)), (1, .ref (a1 99)), (2, .ref (a2 99)), (5, .int v5), (7, .int v7), (8, .int c0)] 71 []) {b : (Nat → Nat → Int32)} (K : zt p l e R s m args below meth c 9 A D 0 0 Q (wX3 T a0 b ++ (wX1 T a1 S1 ++ wX5 T a2 S2)) [(0, .ref (a0 99)), (1, .ref (a1 99)), (2, .ref (a2 99)), (5, .int v5), (7, .int v7)] 114 []) (h : f_X3_findWay_J108 rec S0 S1 S2 v5 v7 x8 = some b) : zt p l e R s m args below meth c 9 A D 0 0 Q (wX3 T a0 S0 ++ (wX1 T a1 S1 ++ wX5 T a2 S2)) [(0, .ref (a0 99)), (1, .ref (a1 99)), (2, .ref (a2 99)), (5, .int v5), (7, .int v7), (8, .int x8)] 108 [] := by
  unfold f_X3_findWay_J108 at h
  refine z_iinc C (x8 + 1) [(0, .ref (a0 99)), (1, .ref (a1 99)), (2, .ref (a2 99)), (5, .int v5), (7, .int v7), (8, .int (x8 + 1))] dX3_findWay_108 5 rfl rfl (Nat.le_of_ble_eq_true rfl) [1, 2, 3, 4, 5, 0] rfl 111 rfl ?_
  refine z_goto C 71 dX3_findWay_111 (by decide) ?_
  exact z_locals (ks := [0, 1, 2, 3, 4, 5]) rfl (hrec _ _ _ h K)

def f_X3_findWay_L71b (S1 : Nat → Nat → Int32) (S2 : Nat → Nat → Int32) (v5 : Int32) (v7 : Int32) (rec : (Int32 × (Nat → Nat → Int32)) → Option ((Nat → Nat → Int32))) (a : Int32 × (Nat → Nat → Int32)) : Option ((Nat → Nat → Int32)) := if (S1 1 0) ≤ a.1 then (some a.2) else ((f_X6_cellOf v7 a.1).bind fun r_6 => zix r_6 240 fun _ => if (a.2 4 (Int32.toNatClampNeg r_6)) = (-1) then (f_X3_findWay_J108 rec a.2 S1 S2 v5 v7 a.1) else ((f_X3_goOn a.2 S1 S2 v7 a.1 v5).bind fun r_7 => f_X3_findWay_J108 rec r_7 S1 S2 v5 v7 a.1))
def f_X3_findWay_L71 (S1 : Nat → Nat → Int32) (S2 : Nat → Nat → Int32) (v5 : Int32) (v7 : Int32) : Nat → (Int32 × (Nat → Nat → Int32)) → Option ((Nat → Nat → Int32)) := zloop (fun rec a => f_X3_findWay_L71b S1 S2 v5 v7 rec a)
set_option maxHeartbeats 4000000 in
set_option maxRecDepth 100000 in
theorem p_X3_findWay_L71 (C : zC p R s m args meth c cX3_findWay 9 RX3 wsX3_findWay D T 3 80 0 0) (S0 : Nat → Nat → Int32) (S1 : Nat → Nat → Int32) (S2 : Nat → Nat → Int32) (v5 : Int32) (v7 : Int32) (hD : va_D A (wX3 T a0 S0 ++ (wX1 T a1 S1 ++ wX5 T a2 S2))) : ∀ (n : Nat) (c0 : Int32) (c1 : Nat → Nat → Int32) (b : (Nat → Nat → Int32)), f_X3_findWay_L71 S1 S2 v5 v7 n (c0, c1) = some b → (zt p l e R s m args below meth c 9 A D 0 0 Q (wX3 T a0 b ++ (wX1 T a1 S1 ++ wX5 T a2 S2)) [(0, .ref (a0 99)), (1, .ref (a1 99)), (2, .ref (a2 99)), (5, .int v5), (7, .int v7)] 114 []) → zt p l e R s m args below meth c 9 A D 0 0 Q (wX3 T a0 c1 ++ (wX1 T a1 S1 ++ wX5 T a2 S2)) [(0, .ref (a0 99)), (1, .ref (a1 99)), (2, .ref (a2 99)), (5, .int v5), (7, .int v7), (8, .int c0)] 71 [] := by
  intro n c0 c1 b h K
  refine zloop_ind (P := fun a b => (zt p l e R s m args below meth c 9 A D 0 0 Q (wX3 T a0 b ++ (wX1 T a1 S1 ++ wX5 T a2 S2)) [(0, .ref (a0 99)), (1, .ref (a1 99)), (2, .ref (a2 99)), (5, .int v5), (7, .int v7)] 114 []) → zt p l e R s m args below meth c 9 A D 0 0 Q (wX3 T a0 a.2 ++ (wX1 T a1 S1 ++ wX5 T a2 S2)) [(0, .ref (a0 99)), (1, .ref (a1 99)), (2, .ref (a2 99)), (5, .int v5), (7, .int v7), (8, .int a.1)] 71 []) ?_ n (c0, c1) b h K
  clear h K b c0 c1
  intro rec hrec a b h K
  have hrec : ∀ (c0 : Int32) (c1 : Nat → Nat → Int32) (b : (Nat → Nat → Int32)), rec (c0, c1) = some b → (zt p l e R s m args below meth c 9 A D 0 0 Q (wX3 T a0 b ++ (wX1 T a1 S1 ++ wX5 T a2 S2)) [(0, .ref (a0 99)), (1, .ref (a1 99)), (2, .ref (a2 99)), (5, .int v5), (7, .int v7)] 114 []) → zt p l e R s m args below meth c 9 A D 0 0 Q (wX3 T a0 c1 ++ (wX1 T a1 S1 ++ wX5 T a2 S2)) [(0, .ref (a0 99)), (1, .ref (a1 99)), (2, .ref (a2 99)), (5, .int v5), (7, .int v7), (8, .int c0)] 71 [] := fun c0 c1 b h K => hrec (c0, c1) b h K
  unfold f_X3_findWay_L71b at h
  refine z_iload C dX3_findWay_71 5 rfl 73 rfl ?_
  refine z_aload_n C dX3_findWay_73 rfl 1 rfl 74 rfl ?_
  refine z_get C (in_X3_findWay_X1) 2 rfl rfl 1 (by decide) (List.mem_of_getElem? (i := 4) rfl) rfl rfl dX3_findWay_74 77 rfl ?_
  refine z_icmp_ge C 114 dX3_findWay_77 (by decide) 80 rfl h (fun h => ?_) (fun h => ?_)
  · refine z_locals (ks := [0, 1, 2, 3, 4]) (lv' := [(0, .ref (a0 99)), (1, .ref (a1 99)), (2, .ref (a2 99)), (5, .int v5), (7, .int v7)]) rfl ?_
    exact zex1 (F := (fun e0 => zt p l e R s m args below meth c 9 A D 0 0 Q (wX3 T a0 e0 ++ (wX1 T a1 S1 ++ wX5 T a2 S2)) [(0, .ref (a0 99)), (1, .ref (a1 99)), (2, .ref (a2 99)), (5, .int v5), (7, .int v7)] 114 [])) h K
  · refine z_aload_n C dX3_findWay_80 rfl 0 rfl 81 rfl ?_
    refine z_get C (in_X3_findWay_X3) 0 rfl rfl 4 (by decide) (List.mem_of_getElem? (i := 3) rfl) rfl rfl dX3_findWay_81 84 rfl ?_
    refine z_iload C dX3_findWay_84 4 rfl 86 rfl ?_
    refine z_iload C dX3_findWay_86 5 rfl 88 rfl ?_
    refine z_callR C ([]) (fun v h => c_X6_cellOf l D T    v7 a.1 v h) ⟨rfl, rfl⟩ (z_cwN C 2 gX3_findWay_X6_cellOf_n19 rfl (List.mem_of_getElem? (i := 10) rfl) (List.mem_of_getElem? (i := 5) rfl) (List.mem_of_getElem? (i := 6) rfl) dd_X6_cellOf ⟨(Nat.le_of_ble_eq_true rfl), (Nat.le_of_ble_eq_true rfl)⟩) (hD.zaddr rfl) [] rfl rfl (fun h => absurd h (by decide)) (fun _ => rfl) rfl (Nat.le_of_ble_eq_true rfl) dX3_findWay_88 91 rfl h (fun r_6 h => ?_)
    refine z_iald C 1 rfl rfl dX3_findWay_91 92 rfl h (fun h => ?_)
    refine z_iconst C (-1) dX3_findWay_92 (by decide) 93 rfl ?_
    refine z_icmp_eq C 108 dX3_findWay_93 (by decide) 96 rfl h (fun h => ?_) (fun h => ?_)
    · exact z_locals (ks := [0, 1, 2, 3, 4, 5]) rfl (p_X3_findWay_J108 C a.2 S1 S2 a.1 (hD.zaddr rfl) hrec K h)
    · refine z_aload_n C dX3_findWay_96 rfl 0 rfl 97 rfl ?_
      refine z_aload_n C dX3_findWay_97 rfl 1 rfl 98 rfl ?_
      refine z_aload_n C dX3_findWay_98 rfl 2 rfl 99 rfl ?_
      refine z_iload C dX3_findWay_99 4 rfl 101 rfl ?_
      refine z_iload C dX3_findWay_101 5 rfl 103 rfl ?_
      refine z_iload C dX3_findWay_103 3 rfl 105 rfl ?_
      refine z_callV C (wX3 T a0 a.2 ++ (wX1 T a1 S1 ++ wX5 T a2 S2)) (([] : va_W)) (fun z => wX3 T a0 z ++ (wX1 T a1 S1 ++ wX5 T a2 S2)) (fun z => wX3 T a0 z ++ (wX1 T a1 S1 ++ wX5 T a2 S2)) (fun z h => c_X3_goOn l D T a0 a1 a2  a.2 S1 S2 v7 a.1 v5 z h) ⟨rfl, rfl⟩ (z_cwV C 5 gX3_findWay_X3_goOn rfl rfl dd_X3_goOn ⟨(Nat.le_of_ble_eq_true rfl), (Nat.le_of_ble_eq_true rfl)⟩) (hD.zaddr rfl) [0, 1, 2, 3, 4, 5, 6, 7, 8, 9] [] [0, 1, 2, 3, 4, 5, 6, 7, 8, 9] rfl rfl rfl (by decide) (fun _ => rfl) (fun _ => ⟨a0 99, [.ref (a1 99), .ref (a2 99), .int v7, .int a.1, .int v5], 2, 0, _, _, rfl, rfl, rfl, rfl, rfl⟩) (fun h => absurd rfl h) rfl (Nat.le_of_ble_eq_true rfl) dX3_findWay_105 108 rfl h (fun r_7 h => ?_)
      exact z_locals (ks := [0, 1, 2, 3, 4, 5]) rfl (p_X3_findWay_J108 C r_7 S1 S2 a.1 (hD.zaddr rfl) hrec K h)

def f_X3_findWay_L62b (S1 : Nat → Nat → Int32) (S2 : Nat → Nat → Int32) (v5 : Int32) (rec : (Int32 × (Nat → Nat → Int32)) → Option ((Nat → Nat → Int32))) (a : Int32 × (Nat → Nat → Int32)) : Option ((Nat → Nat → Int32)) := if a.1 < 1 then (some a.2) else ((f_X3_findWay_L71 S1 S2 v5 a.1 zfuel (0, a.2)).bind fun y_8 => rec ((a.1 + (-1)), y_8))
def f_X3_findWay_L62 (S1 : Nat → Nat → Int32) (S2 : Nat → Nat → Int32) (v5 : Int32) : Nat → (Int32 × (Nat → Nat → Int32)) → Option ((Nat → Nat → Int32)) := zloop (fun rec a => f_X3_findWay_L62b S1 S2 v5 rec a)
set_option maxHeartbeats 4000000 in
set_option maxRecDepth 100000 in
theorem p_X3_findWay_L62 (C : zC p R s m args meth c cX3_findWay 9 RX3 wsX3_findWay D T 3 80 0 0) (S0 : Nat → Nat → Int32) (S1 : Nat → Nat → Int32) (S2 : Nat → Nat → Int32) (v5 : Int32) (hD : va_D A (wX3 T a0 S0 ++ (wX1 T a1 S1 ++ wX5 T a2 S2))) : ∀ (n : Nat) (c0 : Int32) (c1 : Nat → Nat → Int32) (b : (Nat → Nat → Int32)), f_X3_findWay_L62 S1 S2 v5 n (c0, c1) = some b → (zt p l e R s m args below meth c 9 A D 0 0 Q (wX3 T a0 b ++ (wX1 T a1 S1 ++ wX5 T a2 S2)) [(0, .ref (a0 99))] 120 []) → zt p l e R s m args below meth c 9 A D 0 0 Q (wX3 T a0 c1 ++ (wX1 T a1 S1 ++ wX5 T a2 S2)) [(0, .ref (a0 99)), (1, .ref (a1 99)), (2, .ref (a2 99)), (5, .int v5), (7, .int c0)] 62 [] := by
  intro n c0 c1 b h K
  refine zloop_ind (P := fun a b => (zt p l e R s m args below meth c 9 A D 0 0 Q (wX3 T a0 b ++ (wX1 T a1 S1 ++ wX5 T a2 S2)) [(0, .ref (a0 99))] 120 []) → zt p l e R s m args below meth c 9 A D 0 0 Q (wX3 T a0 a.2 ++ (wX1 T a1 S1 ++ wX5 T a2 S2)) [(0, .ref (a0 99)), (1, .ref (a1 99)), (2, .ref (a2 99)), (5, .int v5), (7, .int a.1)] 62 []) ?_ n (c0, c1) b h K
  clear h K b c0 c1
  intro rec hrec a b h K
  have hrec : ∀ (c0 : Int32) (c1 : Nat → Nat → Int32) (b : (Nat → Nat → Int32)), rec (c0, c1) = some b → (zt p l e R s m args below meth c 9 A D 0 0 Q (wX3 T a0 b ++ (wX1 T a1 S1 ++ wX5 T a2 S2)) [(0, .ref (a0 99))] 120 []) → zt p l e R s m args below meth c 9 A D 0 0 Q (wX3 T a0 c1 ++ (wX1 T a1 S1 ++ wX5 T a2 S2)) [(0, .ref (a0 99)), (1, .ref (a1 99)), (2, .ref (a2 99)), (5, .int v5), (7, .int c0)] 62 [] := fun c0 c1 b h K => hrec (c0, c1) b h K
  unfold f_X3_findWay_L62b at h
  refine z_iload C dX3_findWay_62 4 rfl 64 rfl ?_
  refine z_iconst C 1 dX3_findWay_64 (by decide) 65 rfl ?_
  refine z_icmp_lt C 120 dX3_findWay_65 (by decide) 68 rfl h (fun h => ?_) (fun h => ?_)
  · refine z_locals (ks := [0]) (lv' := [(0, .ref (a0 99))]) rfl ?_
    exact zex1 (F := (fun e0 => zt p l e R s m args below meth c 9 A D 0 0 Q (wX3 T a0 e0 ++ (wX1 T a1 S1 ++ wX5 T a2 S2)) [(0, .ref (a0 99))] 120 [])) h K
  · refine z_iconst C 0 dX3_findWay_68 (by decide) 69 rfl ?_
    refine z_istore C [(0, .ref (a0 99)), (1, .ref (a1 99)), (2, .ref (a2 99)), (5, .int v5), (7, .int a.1), (8, .int 0)] dX3_findWay_69 (Nat.le_of_ble_eq_true rfl) [1, 2, 3, 4, 5, 0] rfl 71 rfl ?_
    obtain ⟨y_8, hl_y_8, h⟩ := Option.bind_eq_some_iff.mp h
    refine z_locals (ks := [0, 1, 2, 3, 4, 5]) rfl (p_X3_findWay_L71 C a.2 S1 S2 v5 a.1 (hD.zaddr rfl) _ _ _ _ hl_y_8 ?_)
    refine z_iinc C (a.1 + (-1)) [(0, .ref (a0 99)), (1, .ref (a1 99)), (2, .ref (a2 99)), (5, .int v5), (7, .int (a.1 + (-1)))] dX3_findWay_114 4 rfl rfl (Nat.le_of_ble_eq_true rfl) [1, 2, 3, 4, 0] rfl 117 rfl ?_
    refine z_goto C 62 dX3_findWay_117 (by decide) ?_
    exact z_locals (ks := [0, 1, 2, 3, 4]) rfl (hrec _ _ _ h K)

def f_X3_findWay (S0 : Nat → Nat → Int32) (S1 : Nat → Nat → Int32) (S2 : Nat → Nat → Int32) (v3 : Int32) (v4 : Int32) (v5 : Int32) : Option (Int32 × (Nat → Nat → Int32)) := zlet (zst S0 3 0 0) fun S0_1 => (f_X6_cellOf v3 v4).bind fun r_2 => zix r_2 240 fun _ => if (S2 3 (Int32.toNatClampNeg r_2)) = 0 then ((f_J7_fill_53178 240 (fun _ => S0_1 4) (-1)).bind fun r_3 => zlet (zsa S0_1 4 (r_3 0)) fun S0_4 => zix r_2 240 fun j => zlet (zst S0_4 4 j 0) fun S0_5 => (f_X3_findWay_L62 S1 S2 v5 zfuel (v3, S0_5)).bind fun y_9 => zbo (y_9 3 0) (some ((y_9 3 0), y_9))) else ((f_X5_lengthFrom S2 S1 v3 v4).bind fun r_10 => (f_X3_offer S0_1 v3 v4 (v5 * r_10)).bind fun r_11 => some (1, r_11))
theorem dd_X3_findWay : RX3 ≠ "java/lang/invoke/MethodHandle" ∧ RX3 ≠ "java/lang/invoke/VarHandle" ∧ (parseMethodDescriptor yX3_findWay.desc).map (fun d => d.parameters.length) = some 5 := by decide +kernel
set_option maxHeartbeats 4000000 in
set_option maxRecDepth 100000 in
theorem c_X3_findWay (l : Launch) (D : va_G) (T : Nat → ClassId) (a0 : Nat → Nat) (a1 : Nat → Nat) (a2 : Nat → Nat) (S0 : Nat → Nat → Int32) (S1 : Nat → Nat → Int32) (S2 : Nat → Nat → Int32) (v3 : Int32) (v4 : Int32) (v5 : Int32) (ex : Int32 × (Nat → Nat → Int32)) (h : f_X3_findWay S0 S1 S2 v3 v4 v5 = some ex) : zWI l yX3_findWay wsX3_findWay ({ frames := 3, cells := 0, slots := 0, locals := 80 } : Room) D T [.ref (a0 99), .ref (a1 99), .ref (a2 99), .int v3, .int v4, .int v5] (wX3 T a0 S0 ++ (wX1 T a1 S1 ++ wX5 T a2 S2)) ex.1 (wX3 T a0 ex.2 ++ (wX1 T a1 S1 ++ wX5 T a2 S2)) := by
  refine z_begin (cc := cX3_findWay) (nL := 9) (own := RX3) (fr := 3) (lc := 80) (ret := some .boolean) (by decide) rfl (Nat.le_of_ble_eq_true rfl) (zA (wX3 T a0 S0 ++ (wX1 T a1 S1 ++ wX5 T a2 S2))) rfl [(0, .ref (a0 99)), (1, .ref (a1 99)), (2, .ref (a2 99)), (3, .int v3), (4, .int v4), (5, .int v5)] rfl ⟨rfl, rfl⟩ rfl ?_
  intro p e s m args below meth c C hr hD
  have hD := hD.zself
  unfold f_X3_findWay at h
  refine z_aload_n C dX3_findWay_0 rfl 0 rfl 1 rfl ?_
  refine z_iconst C 0 dX3_findWay_1 (by decide) 2 rfl ?_
  refine z_put (ty := .boolean) C (fun z => wX3 T a0 z ++ (wX1 T a1 S1 ++ wX5 T a2 S2)) S0 (hD.zaddr rfl) (in_X3_findWay_X3) tyX3 tyX3_ok nmX3 0 rfl rfl 3 (by decide) (List.mem_of_getElem? (i := 1) rfl) rfl rfl (by decide +kernel) rfl rfl (Nat.le_of_ble_eq_true rfl) rfl dX3_findWay_2 5 rfl h (fun S0_1 h => ?_)
  refine z_iload_n C dX3_findWay_5 rfl 3 rfl 6 rfl ?_
  refine z_iload C dX3_findWay_6 4 rfl 8 rfl ?_
  refine z_callR C ([]) (fun v h => c_X6_cellOf l D T    v3 v4 v h) ⟨rfl, rfl⟩ (z_cwN C 2 gX3_findWay_X6_cellOf_n19 rfl (List.mem_of_getElem? (i := 10) rfl) (List.mem_of_getElem? (i := 5) rfl) (List.mem_of_getElem? (i := 6) rfl) dd_X6_cellOf ⟨(Nat.le_of_ble_eq_true rfl), (Nat.le_of_ble_eq_true rfl)⟩) (hD.zaddr rfl) [] rfl rfl (fun h => absurd h (by decide)) (fun _ => rfl) rfl (Nat.le_of_ble_eq_true rfl) dX3_findWay_8 11 rfl h (fun r_2 h => ?_)
  refine z_istore C [(0, .ref (a0 99)), (1, .ref (a1 99)), (2, .ref (a2 99)), (3, .int v3), (4, .int v4), (5, .int v5), (6, .int r_2)] dX3_findWay_11 (Nat.le_of_ble_eq_true rfl) [1, 2, 3, 4, 5, 6, 0] rfl 13 rfl ?_
  refine z_aload_n C dX3_findWay_13 rfl 2 rfl 14 rfl ?_
  refine z_get C (in_X3_findWay_X5) 7 rfl rfl 3 (by decide) (List.mem_of_getElem? (i := 2) rfl) rfl rfl dX3_findWay_14 17 rfl ?_
  refine z_iload C dX3_findWay_17 6 rfl 19 rfl ?_
  refine z_iald C 8 rfl rfl dX3_findWay_19 20 rfl h (fun h => ?_)
  refine z_if_eq C 43 dX3_findWay_20 (by decide) 23 rfl h (fun h => ?_) (fun h => ?_)
  · refine z_aload_n C dX3_findWay_43 rfl 0 rfl 44 rfl ?_
    refine z_get C (in_X3_findWay_X3) 0 rfl rfl 4 (by decide) (List.mem_of_getElem? (i := 3) rfl) rfl rfl dX3_findWay_44 47 rfl ?_
    refine z_iconst C (-1) dX3_findWay_47 (by decide) 48 rfl ?_
    refine z_callV C (wAI 240 T (fun _ => a0 4) (fun _ => S0_1 4)) ([0, 2, 3, 4, 5, 6, 7, 8, 9].filterMap (fun i => (wX3 T a0 S0_1 ++ (wX1 T a1 S1 ++ wX5 T a2 S2))[i]?)) (fun z => wAI 240 T (fun _ => a0 4) z) (fun z => wX3 T a0 (zsa S0_1 4 (z 0)) ++ (wX1 T a1 S1 ++ wX5 T a2 S2)) (fun z h => c_J7_fill_53178 l 240 D T (fun _ => a0 4) (fun _ => S0_1 4) (-1) z h) ⟨rfl, rfl⟩ (z_cwS C 2 gX3_findWay_J7_fill_53178 rfl dd_J7_fill_53178 ⟨(Nat.le_of_ble_eq_true rfl), (Nat.le_of_ble_eq_true rfl)⟩) (hD.zaddr rfl) [1] [0, 2, 3, 4, 5, 6, 7, 8, 9] [0, 9, 1, 2, 3, 4, 5, 6, 7, 8] rfl rfl rfl (by decide) (fun _ => rfl) (fun h => absurd h (by decide)) (fun _ => rfl) rfl (Nat.le_of_ble_eq_true rfl) dX3_findWay_48 51 rfl h (fun r_3 h => ?_)
    refine z_letS (fun z => wX3 T a0 z ++ (wX1 T a1 S1 ++ wX5 T a2 S2)) _ h (fun S0_4 h => ?_)
    refine z_aload_n C dX3_findWay_51 rfl 0 rfl 52 rfl ?_
    refine z_get C (in_X3_findWay_X3) 0 rfl rfl 4 (by decide) (List.mem_of_getElem? (i := 3) rfl) rfl rfl dX3_findWay_52 55 rfl ?_
    refine z_iload C dX3_findWay_55 6 rfl 57 rfl ?_
    refine z_iconst C 0 dX3_findWay_57 (by decide) 58 rfl ?_
    refine z_iast C (fun z => wX3 T a0 z ++ (wX1 T a1 S1 ++ wX5 T a2 S2)) S0_4 4 (hD.zaddr rfl) 1 rfl rfl (fun _ => rfl) dX3_findWay_58 59 rfl h (fun S0_5 h => ?_)
    refine z_iload_n C dX3_findWay_59 rfl 3 rfl 60 rfl ?_
    refine z_istore C [(0, .ref (a0 99)), (1, .ref (a1 99)), (2, .ref (a2 99)), (3, .int v3), (4, .int v4), (5, .int v5), (6, .int r_2), (7, .int v3)] dX3_findWay_60 (Nat.le_of_ble_eq_true rfl) [1, 2, 3, 4, 5, 6, 7, 0] rfl 62 rfl ?_
    obtain ⟨y_9, hl_y_9, h⟩ := Option.bind_eq_some_iff.mp h
    refine z_locals (ks := [0, 1, 2, 5, 7]) rfl (p_X3_findWay_L62 C S0_5 S1 S2 v5 (hD.zaddr rfl) _ _ _ _ hl_y_9 ?_)
    refine z_aload_n C dX3_findWay_120 rfl 0 rfl 121 rfl ?_
    refine z_get C (in_X3_findWay_X3) 0 rfl rfl 3 (by decide) (List.mem_of_getElem? (i := 1) rfl) rfl rfl dX3_findWay_121 124 rfl ?_
    exact z_zretW (x := y_9) (ex := ex) (fun z => wX3 T a0 z ++ (wX1 T a1 S1 ++ wX5 T a2 S2)) C hr dX3_findWay_124 h rfl
  · refine z_aload_n C dX3_findWay_23 rfl 0 rfl 24 rfl ?_
    refine z_iload_n C dX3_findWay_24 rfl 3 rfl 25 rfl ?_
    refine z_iload C dX3_findWay_25 4 rfl 27 rfl ?_
    refine z_iload C dX3_findWay_27 5 rfl 29 rfl ?_
    refine z_aload_n C dX3_findWay_29 rfl 2 rfl 30 rfl ?_
    refine z_aload_n C dX3_findWay_30 rfl 1 rfl 31 rfl ?_
    refine z_iload_n C dX3_findWay_31 rfl 3 rfl 32 rfl ?_
    refine z_iload C dX3_findWay_32 4 rfl 34 rfl ?_
    refine z_callR C (wX5 T a2 S2 ++ wX1 T a1 S1) (fun v h => c_X5_lengthFrom l D T a2 a1  S2 S1 v3 v4 v h) ⟨rfl, rfl⟩ (z_cwV C 3 gX3_findWay_X5_lengthFrom rfl rfl dd_X5_lengthFrom ⟨(Nat.le_of_ble_eq_true rfl), (Nat.le_of_ble_eq_true rfl)⟩) (hD.zaddr rfl) [7, 8, 9, 2, 3, 4, 5, 6] rfl rfl (fun _ => ⟨a2 99, [.ref (a1 99), .int v3, .int v4], 4, 0, _, _, rfl, rfl, rfl, rfl, rfl⟩) (fun h => absurd rfl h) rfl (Nat.le_of_ble_eq_true rfl) dX3_findWay_34 37 rfl h (fun r_10 h => ?_)
    refine z_imul C dX3_findWay_37 38 rfl ?_
    refine z_callV C (wX3 T a0 S0_1) (wX1 T a1 S1 ++ wX5 T a2 S2) (fun z => wX3 T a0 z) (fun z => wX3 T a0 z ++ (wX1 T a1 S1 ++ wX5 T a2 S2)) (fun z h => c_X3_offer l D T a0  S0_1 v3 v4 (v5 * r_10) z h) ⟨rfl, rfl⟩ (z_cwV C 3 gX3_findWay_X3_offer rfl rfl dd_X3_offer ⟨(Nat.le_of_ble_eq_true rfl), (Nat.le_of_ble_eq_true rfl)⟩) (hD.zaddr rfl) [0, 1] [2, 3, 4, 5, 6, 7, 8, 9] [8, 9, 0, 1, 2, 3, 4, 5, 6, 7] rfl rfl rfl (by decide) (fun _ => rfl) (fun _ => ⟨a0 99, [.int v3, .int v4, .int (v5 * r_10)], 2, 0, _, _, rfl, rfl, rfl, rfl, rfl⟩) (fun h => absurd rfl h) rfl (Nat.le_of_ble_eq_true rfl) dX3_findWay_38 41 rfl h (fun r_11 h => ?_)
    refine z_iconst C 1 dX3_findWay_41 (by decide) 42 rfl ?_
    exact z_zretWc (x := r_11) (ex := ex) (fun z => wX3 T a0 z ++ (wX1 T a1 S1 ++ wX5 T a2 S2)) C hr dX3_findWay_42 (Or.inr rfl) h rfl

end
