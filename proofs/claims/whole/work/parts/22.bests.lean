/-! StreamTree$Bests.comesTo (II)Z -/
section
variable {p : Program} {l : Launch} {e : Env} {R : Room} {s : State} {m : MethodId} {args : Array Value} {below : List Frame} {meth : Method} {c : Code} {Q : State → Prop} {A : Nat → Prop} {D : va_G} {T : Nat → ClassId} {a0 : Nat → Nat}
theorem in_X0_comesTo_X0 : ∀ w ∈ u_ws RX0 TX0 11, w ∈ wsX0_comesTo := fun _ h => (List.mem_cons_of_mem _ (List.mem_append_right _ h))
def f_X0_comesTo (S0 : Nat → Nat → Int32) (v1 : Int32) (v2 : Int32) : Option (Int32) := zix v1 240 fun _ => if (v2 &&& ((S0 5 (Int32.toNatClampNeg v1)) ^^^ (-1))) = 0 then (some 1) else (some 0)
theorem dd_X0_comesTo : RX0 ≠ "java/lang/invoke/MethodHandle" ∧ RX0 ≠ "java/lang/invoke/VarHandle" ∧ (parseMethodDescriptor yX0_comesTo.desc).map (fun d => d.parameters.length) = some 2 := by decide +kernel
set_option maxHeartbeats 4000000 in
set_option maxRecDepth 100000 in
theorem c_X0_comesTo (l : Launch) (D : va_G) (T : Nat → ClassId) (a0 : Nat → Nat) (S0 : Nat → Nat → Int32) (v1 : Int32) (v2 : Int32) (ex : Int32) (h : f_X0_comesTo S0 v1 v2 = some ex) : zRI l yX0_comesTo wsX0_comesTo ({ frames := 0, cells := 0, slots := 0, locals := 0 } : Room) D T [.ref (a0 99), .int v1, .int v2] (wX0 T a0 S0) ex := by
  refine z_begin (cc := cX0_comesTo) (nL := 3) (own := RX0) (fr := 0) (lc := 0) (ret := some .boolean) (by decide) rfl (Nat.le_of_ble_eq_true rfl) (fun _ => False) rfl [(0, .ref (a0 99)), (1, .int v1), (2, .int v2)] rfl ⟨rfl, rfl⟩ rfl ?_
  intro p e s m args below meth c C hr hD
  unfold f_X0_comesTo at h
  refine z_iload_n C dX0_comesTo_0 rfl 2 rfl 1 rfl ?_
  refine z_aload_n C dX0_comesTo_1 rfl 0 rfl 2 rfl ?_
  refine z_get C (in_X0_comesTo_X0) 0 rfl rfl 5 (by decide) (List.mem_of_getElem? (i := 1) rfl) rfl rfl dX0_comesTo_2 5 rfl ?_
  refine z_iload_n C dX0_comesTo_5 rfl 1 rfl 6 rfl ?_
  refine z_iald C 1 rfl rfl dX0_comesTo_6 7 rfl h (fun h => ?_)
  refine z_iconst C (-1) dX0_comesTo_7 (by decide) 8 rfl ?_
  refine z_ixor C dX0_comesTo_8 9 rfl ?_
  refine z_iand C dX0_comesTo_9 10 rfl ?_
  refine z_if_ne C 17 dX0_comesTo_10 (by decide) 13 rfl h (fun h => ?_) (fun h => ?_)
  · refine z_iconst C 0 dX0_comesTo_17 (by decide) 18 rfl ?_
    exact z_zretRc C hr dX0_comesTo_18 (Or.inl rfl) h
  · refine z_iconst C 1 dX0_comesTo_13 (by decide) 14 rfl ?_
    refine z_goto C 18 dX0_comesTo_14 (by decide) ?_
    exact z_zretRc C hr dX0_comesTo_18 (Or.inr rfl) h

end
/-! StreamTree$Bests.tryStep (III)V -/
section
variable {p : Program} {l : Launch} {e : Env} {R : Room} {s : State} {m : MethodId} {args : Array Value} {below : List Frame} {meth : Method} {c : Code} {Q : State → Prop} {A : Nat → Prop} {D : va_G} {T : Nat → ClassId} {a0 : Nat → Nat}
theorem in_X0_tryStep_X0 : ∀ w ∈ u_ws RX0 TX0 11, w ∈ wsX0_tryStep := fun _ h => (List.mem_cons_of_mem _ (List.mem_append_right _ h))
def f_X0_tryStep_J41 (S0 : Nat → Nat → Int32) (x1 : Int32) (x2 : Int32) (k0 : Int32) (k1 : Int32) : Option ((Nat → Nat → Int32)) := zlet (k0 + k1) fun u_2 => if (S0 1 0) ≤ u_2 then (some S0) else (zlet (zst S0 1 0 u_2) fun S0_3 => zlet (zst S0_3 2 0 0) fun S0_4 => zlet (zst S0_4 3 0 x1) fun S0_5 => zlet (zst S0_5 4 0 x2) fun S0_6 => some S0_6)
set_option maxHeartbeats 4000000 in
set_option maxRecDepth 100000 in
theorem p_X0_tryStep_J41 {w0 : va_W} (C : zC p R s m args meth c cX0_tryStep 5 RX0 wsX0_tryStep D T 1 22 0 0) (hr : meth.sig.returnType = none) (S0 : Nat → Nat → Int32) (x1 : Int32) (x2 : Int32) (k0 : Int32) (k1 : Int32) (hD : va_D (zA w0) (wX0 T a0 S0)) {ex : (Nat → Nat → Int32)} (h : f_X0_tryStep_J41 S0 x1 x2 k0 k1 = some ex) : zt p l e R s m args below meth c 5 (zA w0) D 0 0 (MQ below (zQV D w0 (wX0 T a0 ex)) args s 0 0 (zA w0)) (wX0 T a0 S0) [(0, .ref (a0 99)), (1, .int x1), (2, .int x2)] 41 [.int k1, .int k0] := by
  unfold f_X0_tryStep_J41 at h
  refine z_iadd C dX0_tryStep_41 42 rfl ?_
  refine z_top h (fun u_2 h => ?_)
  refine z_istore C [(0, .ref (a0 99)), (1, .int x1), (2, .int x2), (4, .int u_2)] dX0_tryStep_42 (Nat.le_of_ble_eq_true rfl) [1, 2, 3, 0] rfl 44 rfl ?_
  refine z_iload C dX0_tryStep_44 3 rfl 46 rfl ?_
  refine z_aload_n C dX0_tryStep_46 rfl 0 rfl 47 rfl ?_
  refine z_get C (in_X0_tryStep_X0) 0 rfl rfl 1 (by decide) (List.mem_of_getElem? (i := 4) rfl) rfl rfl dX0_tryStep_47 50 rfl ?_
  refine z_icmp_ge C 74 dX0_tryStep_50 (by decide) 53 rfl h (fun h => ?_) (fun h => ?_)
  · exact z_vretW (x := S0) (ex := ex) (fun z => wX0 T a0 z) C hr dX0_tryStep_74 h rfl
  · refine z_aload_n C dX0_tryStep_53 rfl 0 rfl 54 rfl ?_
    refine z_iload C dX0_tryStep_54 3 rfl 56 rfl ?_
    refine z_put (ty := .int) C (fun z => wX0 T a0 z) S0 (hD.zaddr rfl) (in_X0_tryStep_X0) tyX0 tyX0_ok nmX0 0 rfl rfl 1 (by decide) (List.mem_of_getElem? (i := 4) rfl) rfl rfl (by decide +kernel) rfl rfl (Nat.le_of_ble_eq_true rfl) rfl dX0_tryStep_56 59 rfl h (fun S0_3 h => ?_)
    refine z_aload_n C dX0_tryStep_59 rfl 0 rfl 60 rfl ?_
    refine z_iconst C 0 dX0_tryStep_60 (by decide) 61 rfl ?_
    refine z_put (ty := .int) C (fun z => wX0 T a0 z) S0_3 (hD.zaddr rfl) (in_X0_tryStep_X0) tyX0 tyX0_ok nmX0 0 rfl rfl 2 (by decide) (List.mem_of_getElem? (i := 5) rfl) rfl rfl (by decide +kernel) rfl rfl (Nat.le_of_ble_eq_true rfl) rfl dX0_tryStep_61 64 rfl h (fun S0_4 h => ?_)
    refine z_aload_n C dX0_tryStep_64 rfl 0 rfl 65 rfl ?_
    refine z_iload_n C dX0_tryStep_65 rfl 1 rfl 66 rfl ?_
    refine z_put (ty := .int) C (fun z => wX0 T a0 z) S0_4 (hD.zaddr rfl) (in_X0_tryStep_X0) tyX0 tyX0_ok nmX0 0 rfl rfl 3 (by decide) (List.mem_of_getElem? (i := 6) rfl) rfl rfl (by decide +kernel) rfl rfl (Nat.le_of_ble_eq_true rfl) rfl dX0_tryStep_66 69 rfl h (fun S0_5 h => ?_)
    refine z_aload_n C dX0_tryStep_69 rfl 0 rfl 70 rfl ?_
    refine z_iload_n C dX0_tryStep_70 rfl 2 rfl 71 rfl ?_
    refine z_put (ty := .int) C (fun z => wX0 T a0 z) S0_5 (hD.zaddr rfl) (in_X0_tryStep_X0) tyX0 tyX0_ok nmX0 0 rfl rfl 4 (by decide) (List.mem_of_getElem? (i := 7) rfl) rfl rfl (by decide +kernel) rfl rfl (Nat.le_of_ble_eq_true rfl) rfl dX0_tryStep_71 74 rfl h (fun S0_6 h => ?_)
    exact z_vretW (x := S0_6) (ex := ex) (fun z => wX0 T a0 z) C hr dX0_tryStep_74 h rfl

def f_X0_tryStep (S0 : Nat → Nat → Int32) (v1 : Int32) (v2 : Int32) (v3 : Int32) : Option ((Nat → Nat → Int32)) := (f_X0_comesTo S0 v1 v3).bind fun r_1 => if r_1 = 0 then (some S0) else (zix ((v1 * 128) + v3) 30720 fun _ => if v2 = 0 then (zix v3 128 fun _ => f_X0_tryStep_J41 S0 v1 v2 (S0 7 (Int32.toNatClampNeg ((v1 * 128) + v3))) (S0 8 (Int32.toNatClampNeg v3))) else (zix v3 128 fun _ => f_X0_tryStep_J41 S0 v1 v2 (S0 7 (Int32.toNatClampNeg ((v1 * 128) + v3))) (S0 9 (Int32.toNatClampNeg v3))))
theorem dd_X0_tryStep : RX0 ≠ "java/lang/invoke/MethodHandle" ∧ RX0 ≠ "java/lang/invoke/VarHandle" ∧ (parseMethodDescriptor yX0_tryStep.desc).map (fun d => d.parameters.length) = some 3 := by decide +kernel
set_option maxHeartbeats 4000000 in
set_option maxRecDepth 100000 in
theorem c_X0_tryStep (l : Launch) (D : va_G) (T : Nat → ClassId) (a0 : Nat → Nat) (S0 : Nat → Nat → Int32) (v1 : Int32) (v2 : Int32) (v3 : Int32) (ex : (Nat → Nat → Int32)) (h : f_X0_tryStep S0 v1 v2 v3 = some ex) : zWV l yX0_tryStep wsX0_tryStep ({ frames := 1, cells := 0, slots := 0, locals := 22 } : Room) D T [.ref (a0 99), .int v1, .int v2, .int v3] (wX0 T a0 S0) (wX0 T a0 ex) := by
  refine z_begin (cc := cX0_tryStep) (nL := 5) (own := RX0) (fr := 1) (lc := 22) (ret := none) (by decide) rfl (Nat.le_of_ble_eq_true rfl) (zA (wX0 T a0 S0)) rfl [(0, .ref (a0 99)), (1, .int v1), (2, .int v2), (3, .int v3)] rfl ⟨rfl, rfl⟩ rfl ?_
  intro p e s m args below meth c C hr hD
  have hD := hD.zself
  unfold f_X0_tryStep at h
  refine z_aload_n C dX0_tryStep_0 rfl 0 rfl 1 rfl ?_
  refine z_iload_n C dX0_tryStep_1 rfl 1 rfl 2 rfl ?_
  refine z_iload_n C dX0_tryStep_2 rfl 3 rfl 3 rfl ?_
  refine z_callR C (wX0 T a0 S0) (fun v h => c_X0_comesTo l D T a0  S0 v1 v3 v h) ⟨rfl, rfl⟩ (z_cwV C 2 gX0_tryStep_X0_comesTo rfl rfl dd_X0_comesTo ⟨(Nat.le_of_ble_eq_true rfl), (Nat.le_of_ble_eq_true rfl)⟩) (hD.zaddr rfl) [0, 1, 2, 3, 4, 5, 6] rfl rfl (fun _ => ⟨a0 99, [.int v1, .int v3], 0, 0, _, _, rfl, rfl, rfl, rfl, rfl⟩) (fun h => absurd rfl h) rfl (Nat.le_of_ble_eq_true rfl) dX0_tryStep_3 6 rfl h (fun r_1 h => ?_)
  refine z_if_ne C 10 dX0_tryStep_6 (by decide) 9 rfl h (fun h => ?_) (fun h => ?_)
  · refine z_aload_n C dX0_tryStep_10 rfl 0 rfl 11 rfl ?_
    refine z_get C (in_X0_tryStep_X0) 0 rfl rfl 7 (by decide) (List.mem_of_getElem? (i := 1) rfl) rfl rfl dX0_tryStep_11 14 rfl ?_
    refine z_iload_n C dX0_tryStep_14 rfl 1 rfl 15 rfl ?_
    refine z_sipush C 128 dX0_tryStep_15 (by decide) 18 rfl ?_
    refine z_imul C dX0_tryStep_18 19 rfl ?_
    refine z_iload_n C dX0_tryStep_19 rfl 3 rfl 20 rfl ?_
    refine z_iadd C dX0_tryStep_20 21 rfl ?_
    refine z_iald C 3 rfl rfl dX0_tryStep_21 22 rfl h (fun h => ?_)
    refine z_iload_n C dX0_tryStep_22 rfl 2 rfl 23 rfl ?_
    refine z_if_ne C 35 dX0_tryStep_23 (by decide) 26 rfl h (fun h => ?_) (fun h => ?_)
    · refine z_aload_n C dX0_tryStep_35 rfl 0 rfl 36 rfl ?_
      refine z_get C (in_X0_tryStep_X0) 0 rfl rfl 9 (by decide) (List.mem_of_getElem? (i := 3) rfl) rfl rfl dX0_tryStep_36 39 rfl ?_
      refine z_iload_n C dX0_tryStep_39 rfl 3 rfl 40 rfl ?_
      refine z_iald C 5 rfl rfl dX0_tryStep_40 41 rfl h (fun h => ?_)
      exact z_locals (ks := [0, 1, 2]) rfl (p_X0_tryStep_J41 C hr S0 v1 v2 (S0 7 (Int32.toNatClampNeg ((v1 * 128) + v3))) (S0 9 (Int32.toNatClampNeg v3)) (hD.zaddr rfl) h)
    · refine z_aload_n C dX0_tryStep_26 rfl 0 rfl 27 rfl ?_
      refine z_get C (in_X0_tryStep_X0) 0 rfl rfl 8 (by decide) (List.mem_of_getElem? (i := 2) rfl) rfl rfl dX0_tryStep_27 30 rfl ?_
      refine z_iload_n C dX0_tryStep_30 rfl 3 rfl 31 rfl ?_
      refine z_iald C 4 rfl rfl dX0_tryStep_31 32 rfl h (fun h => ?_)
      refine z_goto C 41 dX0_tryStep_32 (by decide) ?_
      exact z_locals (ks := [0, 1, 2]) rfl (p_X0_tryStep_J41 C hr S0 v1 v2 (S0 7 (Int32.toNatClampNeg ((v1 * 128) + v3))) (S0 8 (Int32.toNatClampNeg v3)) (hD.zaddr rfl) h)
  · exact z_vretW (x := S0) (ex := ex) (fun z => wX0 T a0 z) C hr dX0_tryStep_9 h rfl

end
/-! StreamTree$Bests.notePlaces (LStreamTree$Chart;)V -/
section
variable {p : Program} {l : Launch} {e : Env} {R : Room} {s : State} {m : MethodId} {args : Array Value} {below : List Frame} {meth : Method} {c : Code} {Q : State → Prop} {A : Nat → Prop} {D : va_G} {T : Nat → ClassId} {a0 : Nat → Nat} {a1 : Nat → Nat}
theorem in_X0_notePlaces_X1 : ∀ w ∈ u_ws RX1 TX1 10, w ∈ wsX0_notePlaces := fun _ h => (List.mem_cons_of_mem _ (List.mem_append_right _ h))
theorem in_X0_notePlaces_X0 : ∀ w ∈ u_ws RX0 TX0 11, w ∈ wsX0_notePlaces := fun _ h => (List.mem_cons_of_mem _ (List.mem_append_left _ (List.mem_append_right _ h)))
def f_X0_notePlaces_L10b (S1 : Nat → Nat → Int32)  (rec : (Int32 × (Nat → Nat → Int32)) → Option ((Nat → Nat → Int32))) (a : Int32 × (Nat → Nat → Int32)) : Option ((Nat → Nat → Int32)) := if (S1 5 0) ≤ a.1 then (some a.2) else (zix a.1 7 fun _ => zix a.1 7 fun _ => (f_X6_cellOf (S1 6 (Int32.toNatClampNeg a.1)) (S1 7 (Int32.toNatClampNeg a.1))).bind fun r_3 => zix r_3 240 fun j => zlet (zst a.2 6 j (1 <<< (a.1 &&& 31))) fun S0_4 => rec ((a.1 + 1), S0_4))
def f_X0_notePlaces_L10 (S1 : Nat → Nat → Int32)  : Nat → (Int32 × (Nat → Nat → Int32)) → Option ((Nat → Nat → Int32)) := zloop (fun rec a => f_X0_notePlaces_L10b S1 rec a)
set_option maxHeartbeats 4000000 in
set_option maxRecDepth 100000 in
theorem p_X0_notePlaces_L10 (C : zC p R s m args meth c cX0_notePlaces 3 RX0 wsX0_notePlaces D T 1 23 0 0) (S0 : Nat → Nat → Int32) (S1 : Nat → Nat → Int32)  (hD : va_D A (wX0 T a0 S0 ++ wX1 T a1 S1)) : ∀ (n : Nat) (c0 : Int32) (c1 : Nat → Nat → Int32) (b : (Nat → Nat → Int32)), f_X0_notePlaces_L10 S1 n (c0, c1) = some b → (zt p l e R s m args below meth c 3 A D 0 0 Q (wX0 T a0 b ++ wX1 T a1 S1) [] 47 []) → zt p l e R s m args below meth c 3 A D 0 0 Q (wX0 T a0 c1 ++ wX1 T a1 S1) [(0, .ref (a0 99)), (1, .ref (a1 99)), (2, .int c0)] 10 [] := by
  intro n c0 c1 b h K
  refine zloop_ind (P := fun a b => (zt p l e R s m args below meth c 3 A D 0 0 Q (wX0 T a0 b ++ wX1 T a1 S1) [] 47 []) → zt p l e R s m args below meth c 3 A D 0 0 Q (wX0 T a0 a.2 ++ wX1 T a1 S1) [(0, .ref (a0 99)), (1, .ref (a1 99)), (2, .int a.1)] 10 []) ?_ n (c0, c1) b h K
  clear h K b c0 c1
  intro rec hrec a b h K
  have hrec : ∀ (c0 : Int32) (c1 : Nat → Nat → Int32) (b : (Nat → Nat → Int32)), rec (c0, c1) = some b → (zt p l e R s m args below meth c 3 A D 0 0 Q (wX0 T a0 b ++ wX1 T a1 S1) [] 47 []) → zt p l e R s m args below meth c 3 A D 0 0 Q (wX0 T a0 c1 ++ wX1 T a1 S1) [(0, .ref (a0 99)), (1, .ref (a1 99)), (2, .int c0)] 10 [] := fun c0 c1 b h K => hrec (c0, c1) b h K
  unfold f_X0_notePlaces_L10b at h
  refine z_iload_n C dX0_notePlaces_10 rfl 2 rfl 11 rfl ?_
  refine z_aload_n C dX0_notePlaces_11 rfl 1 rfl 12 rfl ?_
  refine z_get C (in_X0_notePlaces_X1) 7 rfl rfl 5 (by decide) (List.mem_of_getElem? (i := 2) rfl) rfl rfl dX0_notePlaces_12 15 rfl ?_
  refine z_icmp_ge C 47 dX0_notePlaces_15 (by decide) 18 rfl h (fun h => ?_) (fun h => ?_)
  · refine z_locals (ks := []) (lv' := []) rfl ?_
    exact zex1 (F := (fun e0 => zt p l e R s m args below meth c 3 A D 0 0 Q (wX0 T a0 e0 ++ wX1 T a1 S1) [] 47 [])) h K
  · refine z_aload_n C dX0_notePlaces_18 rfl 0 rfl 19 rfl ?_
    refine z_get C (in_X0_notePlaces_X0) 0 rfl rfl 6 (by decide) (List.mem_of_getElem? (i := 1) rfl) rfl rfl dX0_notePlaces_19 22 rfl ?_
    refine z_aload_n C dX0_notePlaces_22 rfl 1 rfl 23 rfl ?_
    refine z_get C (in_X0_notePlaces_X1) 7 rfl rfl 6 (by decide) (List.mem_of_getElem? (i := 3) rfl) rfl rfl dX0_notePlaces_23 26 rfl ?_
    refine z_iload_n C dX0_notePlaces_26 rfl 2 rfl 27 rfl ?_
    refine z_iald C 8 rfl rfl dX0_notePlaces_27 28 rfl h (fun h => ?_)
    refine z_aload_n C dX0_notePlaces_28 rfl 1 rfl 29 rfl ?_
    refine z_get C (in_X0_notePlaces_X1) 7 rfl rfl 7 (by decide) (List.mem_of_getElem? (i := 4) rfl) rfl rfl dX0_notePlaces_29 32 rfl ?_
    refine z_iload_n C dX0_notePlaces_32 rfl 2 rfl 33 rfl ?_
    refine z_iald C 9 rfl rfl dX0_notePlaces_33 34 rfl h (fun h => ?_)
    refine z_callR C ([]) (fun v h => c_X6_cellOf l D T    (S1 6 (Int32.toNatClampNeg a.1)) (S1 7 (Int32.toNatClampNeg a.1)) v h) ⟨rfl, rfl⟩ (z_cwN C 2 gX0_notePlaces_X6_cellOf_n46 rfl (List.mem_of_getElem? (i := 8) rfl) (List.mem_of_getElem? (i := 9) rfl) (List.mem_of_getElem? (i := 10) rfl) dd_X6_cellOf ⟨(Nat.le_of_ble_eq_true rfl), (Nat.le_of_ble_eq_true rfl)⟩) (hD.zaddr rfl) [] rfl rfl (fun h => absurd h (by decide)) (fun _ => rfl) rfl (Nat.le_of_ble_eq_true rfl) dX0_notePlaces_34 37 rfl h (fun r_3 h => ?_)
    refine z_iconst C 1 dX0_notePlaces_37 (by decide) 38 rfl ?_
    refine z_iload_n C dX0_notePlaces_38 rfl 2 rfl 39 rfl ?_
    refine z_ishl C dX0_notePlaces_39 40 rfl ?_
    refine z_iast C (fun z => wX0 T a0 z ++ wX1 T a1 S1) a.2 6 (hD.zaddr rfl) 2 rfl rfl (fun _ => rfl) dX0_notePlaces_40 41 rfl h (fun S0_4 h => ?_)
    refine z_iinc C (a.1 + 1) [(0, .ref (a0 99)), (1, .ref (a1 99)), (2, .int (a.1 + 1))] dX0_notePlaces_41 2 rfl rfl (Nat.le_of_ble_eq_true rfl) [1, 2, 0] rfl 44 rfl ?_
    refine z_goto C 10 dX0_notePlaces_44 (by decide) ?_
    exact z_locals (ks := [0, 1, 2]) rfl (hrec _ _ _ h K)

def f_X0_notePlaces (S0 : Nat → Nat → Int32) (S1 : Nat → Nat → Int32)  : Option ((Nat → Nat → Int32)) := (f_J7_fill_53178 240 (fun _ => S0 6) 0).bind fun r_1 => zlet (zsa S0 6 (r_1 0)) fun S0_2 => (f_X0_notePlaces_L10 S1 zfuel (0, S0_2)).bind fun y_5 => some y_5
theorem dd_X0_notePlaces : RX0 ≠ "java/lang/invoke/MethodHandle" ∧ RX0 ≠ "java/lang/invoke/VarHandle" ∧ (parseMethodDescriptor yX0_notePlaces.desc).map (fun d => d.parameters.length) = some 1 := by decide +kernel
set_option maxHeartbeats 4000000 in
set_option maxRecDepth 100000 in
theorem c_X0_notePlaces (l : Launch) (D : va_G) (T : Nat → ClassId) (a0 : Nat → Nat) (a1 : Nat → Nat) (S0 : Nat → Nat → Int32) (S1 : Nat → Nat → Int32)  (ex : (Nat → Nat → Int32)) (h : f_X0_notePlaces S0 S1 = some ex) : zWV l yX0_notePlaces wsX0_notePlaces ({ frames := 1, cells := 0, slots := 0, locals := 23 } : Room) D T [.ref (a0 99), .ref (a1 99)] (wX0 T a0 S0 ++ wX1 T a1 S1) (wX0 T a0 ex ++ wX1 T a1 S1) := by
  refine z_begin (cc := cX0_notePlaces) (nL := 3) (own := RX0) (fr := 1) (lc := 23) (ret := none) (by decide) rfl (Nat.le_of_ble_eq_true rfl) (zA (wX0 T a0 S0 ++ wX1 T a1 S1)) rfl [(0, .ref (a0 99)), (1, .ref (a1 99))] rfl ⟨rfl, rfl⟩ rfl ?_
  intro p e s m args below meth c C hr hD
  have hD := hD.zself
  unfold f_X0_notePlaces at h
  refine z_aload_n C dX0_notePlaces_0 rfl 0 rfl 1 rfl ?_
  refine z_get C (in_X0_notePlaces_X0) 0 rfl rfl 6 (by decide) (List.mem_of_getElem? (i := 1) rfl) rfl rfl dX0_notePlaces_1 4 rfl ?_
  refine z_iconst C 0 dX0_notePlaces_4 (by decide) 5 rfl ?_
  refine z_callV C (wAI 240 T (fun _ => a0 6) (fun _ => S0 6)) ([0, 1, 3, 4, 5, 6, 7, 8, 9, 10, 11].filterMap (fun i => (wX0 T a0 S0 ++ wX1 T a1 S1)[i]?)) (fun z => wAI 240 T (fun _ => a0 6) z) (fun z => wX0 T a0 (zsa S0 6 (z 0)) ++ wX1 T a1 S1) (fun z h => c_J7_fill_53178 l 240 D T (fun _ => a0 6) (fun _ => S0 6) 0 z h) ⟨rfl, rfl⟩ (z_cwS C 2 gX0_notePlaces_J7_fill_53178 rfl dd_J7_fill_53178 ⟨(Nat.le_of_ble_eq_true rfl), (Nat.le_of_ble_eq_true rfl)⟩) (hD.zaddr rfl) [2] [0, 1, 3, 4, 5, 6, 7, 8, 9, 10, 11] [0, 1, 11, 2, 3, 4, 5, 6, 7, 8, 9, 10] rfl rfl rfl (by decide) (fun _ => rfl) (fun h => absurd h (by decide)) (fun _ => rfl) rfl (Nat.le_of_ble_eq_true rfl) dX0_notePlaces_5 8 rfl h (fun r_1 h => ?_)
  refine z_letS (fun z => wX0 T a0 z ++ wX1 T a1 S1) _ h (fun S0_2 h => ?_)
  refine z_iconst C 0 dX0_notePlaces_8 (by decide) 9 rfl ?_
  refine z_istore_n C [(0, .ref (a0 99)), (1, .ref (a1 99)), (2, .int 0)] dX0_notePlaces_9 rfl (Nat.le_of_ble_eq_true rfl) [1, 2, 0] rfl 10 rfl ?_
  obtain ⟨y_5, hl_y_5, h⟩ := Option.bind_eq_some_iff.mp h
  refine z_locals (ks := [0, 1, 2]) rfl (p_X0_notePlaces_L10 C S0_2 S1  (hD.zaddr rfl) _ _ _ _ hl_y_5 ?_)
  exact z_vretW (x := y_5) (ex := ex) (fun z => wX0 T a0 z ++ wX1 T a1 S1) C hr dX0_notePlaces_47 h rfl

end
/-! StreamTree$Bests.noteSteps (LStreamTree$Chart;)V -/
section
variable {p : Program} {l : Launch} {e : Env} {R : Room} {s : State} {m : MethodId} {args : Array Value} {below : List Frame} {meth : Method} {c : Code} {Q : State → Prop} {A : Nat → Prop} {D : va_G} {T : Nat → ClassId} {a0 : Nat → Nat} {a1 : Nat → Nat}
theorem in_X0_noteSteps_X0 : ∀ w ∈ u_ws RX0 TX0 11, w ∈ wsX0_noteSteps := fun _ h => (List.mem_cons_of_mem _ (List.mem_append_left _ (List.mem_append_right _ h)))
def f_X0_noteSteps_L2b (S1 : Nat → Nat → Int32)  (rec : (Int32 × (Nat → Nat → Int32)) → Option ((Nat → Nat → Int32))) (a : Int32 × (Nat → Nat → Int32)) : Option ((Nat → Nat → Int32)) := (f_X1_allPlaces S1).bind fun r_1 => if r_1 < a.1 then (some a.2) else (if 128 ≤ a.1 then (some a.2) else ((f_X1_amountOf S1 a.1).bind fun r_2 => (f_X1_inkOfStep S1 0 r_2).bind fun r_3 => zix a.1 128 fun j => zlet (zst a.2 8 j r_3) fun S0_4 => (f_X1_inkOfStep S1 1 r_2).bind fun r_5 => zix a.1 128 fun j => zlet (zst S0_4 9 j r_5) fun S0_6 => rec ((a.1 + 1), S0_6)))
def f_X0_noteSteps_L2 (S1 : Nat → Nat → Int32)  : Nat → (Int32 × (Nat → Nat → Int32)) → Option ((Nat → Nat → Int32)) := zloop (fun rec a => f_X0_noteSteps_L2b S1 rec a)
set_option maxHeartbeats 4000000 in
set_option maxRecDepth 100000 in
theorem p_X0_noteSteps_L2 (C : zC p R s m args meth c cX0_noteSteps 4 RX0 wsX0_noteSteps D T 2 43 0 0) (S0 : Nat → Nat → Int32) (S1 : Nat → Nat → Int32)  (hD : va_D A (wX0 T a0 S0 ++ wX1 T a1 S1)) : ∀ (n : Nat) (c0 : Int32) (c1 : Nat → Nat → Int32) (b : (Nat → Nat → Int32)), f_X0_noteSteps_L2 S1 n (c0, c1) = some b → (zt p l e R s m args below meth c 4 A D 0 0 Q (wX0 T a0 b ++ wX1 T a1 S1) [] 53 []) → zt p l e R s m args below meth c 4 A D 0 0 Q (wX0 T a0 c1 ++ wX1 T a1 S1) [(0, .ref (a0 99)), (1, .ref (a1 99)), (2, .int c0)] 2 [] := by
  intro n c0 c1 b h K
  refine zloop_ind (P := fun a b => (zt p l e R s m args below meth c 4 A D 0 0 Q (wX0 T a0 b ++ wX1 T a1 S1) [] 53 []) → zt p l e R s m args below meth c 4 A D 0 0 Q (wX0 T a0 a.2 ++ wX1 T a1 S1) [(0, .ref (a0 99)), (1, .ref (a1 99)), (2, .int a.1)] 2 []) ?_ n (c0, c1) b h K
  clear h K b c0 c1
  intro rec hrec a b h K
  have hrec : ∀ (c0 : Int32) (c1 : Nat → Nat → Int32) (b : (Nat → Nat → Int32)), rec (c0, c1) = some b → (zt p l e R s m args below meth c 4 A D 0 0 Q (wX0 T a0 b ++ wX1 T a1 S1) [] 53 []) → zt p l e R s m args below meth c 4 A D 0 0 Q (wX0 T a0 c1 ++ wX1 T a1 S1) [(0, .ref (a0 99)), (1, .ref (a1 99)), (2, .int c0)] 2 [] := fun c0 c1 b h K => hrec (c0, c1) b h K
  unfold f_X0_noteSteps_L2b at h
  refine z_iload_n C dX0_noteSteps_2 rfl 2 rfl 3 rfl ?_
  refine z_aload_n C dX0_noteSteps_3 rfl 1 rfl 4 rfl ?_
  refine z_callR C (wX1 T a1 S1) (fun v h => c_X1_allPlaces l D T a1  S1  v h) ⟨rfl, rfl⟩ (z_cwV C 0 gX0_noteSteps_X1_allPlaces rfl rfl dd_X1_allPlaces ⟨(Nat.le_of_ble_eq_true rfl), (Nat.le_of_ble_eq_true rfl)⟩) (hD.zaddr rfl) [7, 8, 9, 10, 11] rfl rfl (fun _ => ⟨a1 99, [], 1, 0, _, _, rfl, rfl, rfl, rfl, rfl⟩) (fun h => absurd rfl h) rfl (Nat.le_of_ble_eq_true rfl) dX0_noteSteps_4 7 rfl h (fun r_1 h => ?_)
  refine z_icmp_gt C 53 dX0_noteSteps_7 (by decide) 10 rfl h (fun h => ?_) (fun h => ?_)
  · refine z_locals (ks := []) (lv' := []) rfl ?_
    exact zex1 (F := (fun e0 => zt p l e R s m args below meth c 4 A D 0 0 Q (wX0 T a0 e0 ++ wX1 T a1 S1) [] 53 [])) h K
  · refine z_iload_n C dX0_noteSteps_10 rfl 2 rfl 11 rfl ?_
    refine z_sipush C 128 dX0_noteSteps_11 (by decide) 14 rfl ?_
    refine z_icmp_ge C 53 dX0_noteSteps_14 (by decide) 17 rfl h (fun h => ?_) (fun h => ?_)
    · refine z_locals (ks := []) (lv' := []) rfl ?_
      exact zex1 (F := (fun e0 => zt p l e R s m args below meth c 4 A D 0 0 Q (wX0 T a0 e0 ++ wX1 T a1 S1) [] 53 [])) h K
    · refine z_aload_n C dX0_noteSteps_17 rfl 1 rfl 18 rfl ?_
      refine z_iload_n C dX0_noteSteps_18 rfl 2 rfl 19 rfl ?_
      refine z_callR C (wX1 T a1 S1) (fun v h => c_X1_amountOf l D T a1  S1 a.1 v h) ⟨rfl, rfl⟩ (z_cwV C 1 gX0_noteSteps_X1_amountOf rfl rfl dd_X1_amountOf ⟨(Nat.le_of_ble_eq_true rfl), (Nat.le_of_ble_eq_true rfl)⟩) (hD.zaddr rfl) [7, 8, 9, 10, 11] rfl rfl (fun _ => ⟨a1 99, [.int a.1], 1, 0, _, _, rfl, rfl, rfl, rfl, rfl⟩) (fun h => absurd rfl h) rfl (Nat.le_of_ble_eq_true rfl) dX0_noteSteps_19 22 rfl h (fun r_2 h => ?_)
      refine z_istore_n C [(0, .ref (a0 99)), (1, .ref (a1 99)), (2, .int a.1), (3, .int r_2)] dX0_noteSteps_22 rfl (Nat.le_of_ble_eq_true rfl) [1, 2, 3, 0] rfl 23 rfl ?_
      refine z_aload_n C dX0_noteSteps_23 rfl 0 rfl 24 rfl ?_
      refine z_get C (in_X0_noteSteps_X0) 0 rfl rfl 8 (by decide) (List.mem_of_getElem? (i := 1) rfl) rfl rfl dX0_noteSteps_24 27 rfl ?_
      refine z_iload_n C dX0_noteSteps_27 rfl 2 rfl 28 rfl ?_
      refine z_aload_n C dX0_noteSteps_28 rfl 1 rfl 29 rfl ?_
      refine z_iconst C 0 dX0_noteSteps_29 (by decide) 30 rfl ?_
      refine z_iload_n C dX0_noteSteps_30 rfl 3 rfl 31 rfl ?_
      refine z_callR C (wX1 T a1 S1) (fun v h => c_X1_inkOfStep l D T a1  S1 0 r_2 v h) ⟨rfl, rfl⟩ (z_cwV C 2 gX0_noteSteps_X1_inkOfStep rfl rfl dd_X1_inkOfStep ⟨(Nat.le_of_ble_eq_true rfl), (Nat.le_of_ble_eq_true rfl)⟩) (hD.zaddr rfl) [7, 8, 9, 10, 11] rfl rfl (fun _ => ⟨a1 99, [.int 0, .int r_2], 1, 0, _, _, rfl, rfl, rfl, rfl, rfl⟩) (fun h => absurd rfl h) rfl (Nat.le_of_ble_eq_true rfl) dX0_noteSteps_31 34 rfl h (fun r_3 h => ?_)
      refine z_iast C (fun z => wX0 T a0 z ++ wX1 T a1 S1) a.2 8 (hD.zaddr rfl) 4 rfl rfl (fun _ => rfl) dX0_noteSteps_34 35 rfl h (fun S0_4 h => ?_)
      refine z_aload_n C dX0_noteSteps_35 rfl 0 rfl 36 rfl ?_
      refine z_get C (in_X0_noteSteps_X0) 0 rfl rfl 9 (by decide) (List.mem_of_getElem? (i := 2) rfl) rfl rfl dX0_noteSteps_36 39 rfl ?_
      refine z_iload_n C dX0_noteSteps_39 rfl 2 rfl 40 rfl ?_
      refine z_aload_n C dX0_noteSteps_40 rfl 1 rfl 41 rfl ?_
      refine z_iconst C 1 dX0_noteSteps_41 (by decide) 42 rfl ?_
      refine z_iload_n C dX0_noteSteps_42 rfl 3 rfl 43 rfl ?_
      refine z_callR C (wX1 T a1 S1) (fun v h => c_X1_inkOfStep l D T a1  S1 1 r_2 v h) ⟨rfl, rfl⟩ (z_cwV C 2 gX0_noteSteps_X1_inkOfStep rfl rfl dd_X1_inkOfStep ⟨(Nat.le_of_ble_eq_true rfl), (Nat.le_of_ble_eq_true rfl)⟩) (hD.zaddr rfl) [7, 8, 9, 10, 11] rfl rfl (fun _ => ⟨a1 99, [.int 1, .int r_2], 1, 0, _, _, rfl, rfl, rfl, rfl, rfl⟩) (fun h => absurd rfl h) rfl (Nat.le_of_ble_eq_true rfl) dX0_noteSteps_43 46 rfl h (fun r_5 h => ?_)
      refine z_iast C (fun z => wX0 T a0 z ++ wX1 T a1 S1) S0_4 9 (hD.zaddr rfl) 5 rfl rfl (fun _ => rfl) dX0_noteSteps_46 47 rfl h (fun S0_6 h => ?_)
      refine z_iinc C (a.1 + 1) [(0, .ref (a0 99)), (1, .ref (a1 99)), (2, .int (a.1 + 1)), (3, .int r_2)] dX0_noteSteps_47 2 rfl rfl (Nat.le_of_ble_eq_true rfl) [1, 2, 0, 3] rfl 50 rfl ?_
      refine z_goto C 2 dX0_noteSteps_50 (by decide) ?_
      exact z_locals (ks := [0, 1, 2]) rfl (hrec _ _ _ h K)

def f_X0_noteSteps (S0 : Nat → Nat → Int32) (S1 : Nat → Nat → Int32)  : Option ((Nat → Nat → Int32)) := (f_X0_noteSteps_L2 S1 zfuel (1, S0)).bind fun y_7 => some y_7
theorem dd_X0_noteSteps : RX0 ≠ "java/lang/invoke/MethodHandle" ∧ RX0 ≠ "java/lang/invoke/VarHandle" ∧ (parseMethodDescriptor yX0_noteSteps.desc).map (fun d => d.parameters.length) = some 1 := by decide +kernel
set_option maxHeartbeats 4000000 in
set_option maxRecDepth 100000 in
theorem c_X0_noteSteps (l : Launch) (D : va_G) (T : Nat → ClassId) (a0 : Nat → Nat) (a1 : Nat → Nat) (S0 : Nat → Nat → Int32) (S1 : Nat → Nat → Int32)  (ex : (Nat → Nat → Int32)) (h : f_X0_noteSteps S0 S1 = some ex) : zWV l yX0_noteSteps wsX0_noteSteps ({ frames := 2, cells := 0, slots := 0, locals := 43 } : Room) D T [.ref (a0 99), .ref (a1 99)] (wX0 T a0 S0 ++ wX1 T a1 S1) (wX0 T a0 ex ++ wX1 T a1 S1) := by
  refine z_begin (cc := cX0_noteSteps) (nL := 4) (own := RX0) (fr := 2) (lc := 43) (ret := none) (by decide) rfl (Nat.le_of_ble_eq_true rfl) (zA (wX0 T a0 S0 ++ wX1 T a1 S1)) rfl [(0, .ref (a0 99)), (1, .ref (a1 99))] rfl ⟨rfl, rfl⟩ rfl ?_
  intro p e s m args below meth c C hr hD
  have hD := hD.zself
  unfold f_X0_noteSteps at h
  refine z_iconst C 1 dX0_noteSteps_0 (by decide) 1 rfl ?_
  refine z_istore_n C [(0, .ref (a0 99)), (1, .ref (a1 99)), (2, .int 1)] dX0_noteSteps_1 rfl (Nat.le_of_ble_eq_true rfl) [1, 2, 0] rfl 2 rfl ?_
  obtain ⟨y_7, hl_y_7, h⟩ := Option.bind_eq_some_iff.mp h
  refine z_locals (ks := [0, 1, 2]) rfl (p_X0_noteSteps_L2 C S0 S1  (hD.zaddr rfl) _ _ _ _ hl_y_7 ?_)
  exact z_vretW (x := y_7) (ex := ex) (fun z => wX0 T a0 z ++ wX1 T a1 S1) C hr dX0_noteSteps_53 h rfl

end
/-! StreamTree$Bests.reachingFromOutside (LStreamTree$Chart;II)I -/
section
variable {p : Program} {l : Launch} {e : Env} {R : Room} {s : State} {m : MethodId} {args : Array Value} {below : List Frame} {meth : Method} {c : Code} {Q : State → Prop} {A : Nat → Prop} {D : va_G} {T : Nat → ClassId} {a0 : Nat → Nat} {a1 : Nat → Nat}
theorem in_X0_reachingFromOutside_X0 : ∀ w ∈ u_ws RX0 TX0 11, w ∈ wsX0_reachingFromOutside := fun _ h => (List.mem_cons_of_mem _ (List.mem_append_right _ h))
theorem in_X0_reachingFromOutside_X1 : ∀ w ∈ u_ws RX1 TX1 10, w ∈ wsX0_reachingFromOutside := fun _ h => (List.mem_cons_of_mem _ (List.mem_append_left _ (List.mem_append_right _ h)))
def f_X0_reachingFromOutside (S0 : Nat → Nat → Int32) (S1 : Nat → Nat → Int32) (v2 : Int32) (v3 : Int32) : Option (Int32) := if v2 < (S1 0 0) then ((f_X6_cellOf (v2 + 1) v3).bind fun r_1 => zix r_1 240 fun _ => (f_X1_turnBeside S1 v3 1).bind fun r_2 => (f_X6_cellOf (v2 + 1) r_2).bind fun r_3 => zix r_3 240 fun _ => (f_X1_turnBeside S1 v3 2).bind fun r_4 => (f_X6_cellOf (v2 + 1) r_4).bind fun r_5 => zix r_5 240 fun _ => some (((S0 5 (Int32.toNatClampNeg r_1)) ||| (S0 5 (Int32.toNatClampNeg r_3))) ||| (S0 5 (Int32.toNatClampNeg r_5)))) else (some 0)
theorem dd_X0_reachingFromOutside : RX0 ≠ "java/lang/invoke/MethodHandle" ∧ RX0 ≠ "java/lang/invoke/VarHandle" ∧ (parseMethodDescriptor yX0_reachingFromOutside.desc).map (fun d => d.parameters.length) = some 3 := by decide +kernel
set_option maxHeartbeats 4000000 in
set_option maxRecDepth 100000 in
theorem c_X0_reachingFromOutside (l : Launch) (D : va_G) (T : Nat → ClassId) (a0 : Nat → Nat) (a1 : Nat → Nat) (S0 : Nat → Nat → Int32) (S1 : Nat → Nat → Int32) (v2 : Int32) (v3 : Int32) (ex : Int32) (h : f_X0_reachingFromOutside S0 S1 v2 v3 = some ex) : zRI l yX0_reachingFromOutside wsX0_reachingFromOutside ({ frames := 1, cells := 0, slots := 0, locals := 22 } : Room) D T [.ref (a0 99), .ref (a1 99), .int v2, .int v3] (wX0 T a0 S0 ++ wX1 T a1 S1) ex := by
  refine z_begin (cc := cX0_reachingFromOutside) (nL := 4) (own := RX0) (fr := 1) (lc := 22) (ret := some .int) (by decide) rfl (Nat.le_of_ble_eq_true rfl) (fun _ => False) rfl [(0, .ref (a0 99)), (1, .ref (a1 99)), (2, .int v2), (3, .int v3)] rfl ⟨rfl, rfl⟩ rfl ?_
  intro p e s m args below meth c C hr hD
  unfold f_X0_reachingFromOutside at h
  refine z_iload_n C dX0_reachingFromOutside_0 rfl 2 rfl 1 rfl ?_
  refine z_aload_n C dX0_reachingFromOutside_1 rfl 1 rfl 2 rfl ?_
  refine z_get C (in_X0_reachingFromOutside_X1) 7 rfl rfl 0 (by decide) (List.mem_of_getElem? (i := 1) rfl) rfl rfl dX0_reachingFromOutside_2 5 rfl ?_
  refine z_icmp_lt C 10 dX0_reachingFromOutside_5 (by decide) 8 rfl h (fun h => ?_) (fun h => ?_)
  · refine z_aload_n C dX0_reachingFromOutside_10 rfl 0 rfl 11 rfl ?_
    refine z_get C (in_X0_reachingFromOutside_X0) 0 rfl rfl 5 (by decide) (List.mem_of_getElem? (i := 2) rfl) rfl rfl dX0_reachingFromOutside_11 14 rfl ?_
    refine z_iload_n C dX0_reachingFromOutside_14 rfl 2 rfl 15 rfl ?_
    refine z_iconst C 1 dX0_reachingFromOutside_15 (by decide) 16 rfl ?_
    refine z_iadd C dX0_reachingFromOutside_16 17 rfl ?_
    refine z_iload_n C dX0_reachingFromOutside_17 rfl 3 rfl 18 rfl ?_
    refine z_callR C ([]) (fun v h => c_X6_cellOf l D T    (v2 + 1) v3 v h) ⟨rfl, rfl⟩ (z_cwN C 2 gX0_reachingFromOutside_X6_cellOf_n46 rfl (List.mem_of_getElem? (i := 8) rfl) (List.mem_of_getElem? (i := 3) rfl) (List.mem_of_getElem? (i := 4) rfl) dd_X6_cellOf ⟨(Nat.le_of_ble_eq_true rfl), (Nat.le_of_ble_eq_true rfl)⟩) (hD.zaddr rfl) [] rfl rfl (fun h => absurd h (by decide)) (fun _ => rfl) rfl (Nat.le_of_ble_eq_true rfl) dX0_reachingFromOutside_18 21 rfl h (fun r_1 h => ?_)
    refine z_iald C 1 rfl rfl dX0_reachingFromOutside_21 22 rfl h (fun h => ?_)
    refine z_aload_n C dX0_reachingFromOutside_22 rfl 0 rfl 23 rfl ?_
    refine z_get C (in_X0_reachingFromOutside_X0) 0 rfl rfl 5 (by decide) (List.mem_of_getElem? (i := 2) rfl) rfl rfl dX0_reachingFromOutside_23 26 rfl ?_
    refine z_iload_n C dX0_reachingFromOutside_26 rfl 2 rfl 27 rfl ?_
    refine z_iconst C 1 dX0_reachingFromOutside_27 (by decide) 28 rfl ?_
    refine z_iadd C dX0_reachingFromOutside_28 29 rfl ?_
    refine z_aload_n C dX0_reachingFromOutside_29 rfl 1 rfl 30 rfl ?_
    refine z_iload_n C dX0_reachingFromOutside_30 rfl 3 rfl 31 rfl ?_
    refine z_iconst C 1 dX0_reachingFromOutside_31 (by decide) 32 rfl ?_
    refine z_callR C (wX1 T a1 S1) (fun v h => c_X1_turnBeside l D T a1  S1 v3 1 v h) ⟨rfl, rfl⟩ (z_cwV C 2 gX0_reachingFromOutside_X1_turnBeside rfl rfl dd_X1_turnBeside ⟨(Nat.le_of_ble_eq_true rfl), (Nat.le_of_ble_eq_true rfl)⟩) (hD.zaddr rfl) [7, 8, 9, 10, 11] rfl rfl (fun _ => ⟨a1 99, [.int v3, .int 1], 1, 0, _, _, rfl, rfl, rfl, rfl, rfl⟩) (fun h => absurd rfl h) rfl (Nat.le_of_ble_eq_true rfl) dX0_reachingFromOutside_32 35 rfl h (fun r_2 h => ?_)
    refine z_callR C ([]) (fun v h => c_X6_cellOf l D T    (v2 + 1) r_2 v h) ⟨rfl, rfl⟩ (z_cwN C 2 gX0_reachingFromOutside_X6_cellOf_n46 rfl (List.mem_of_getElem? (i := 8) rfl) (List.mem_of_getElem? (i := 3) rfl) (List.mem_of_getElem? (i := 4) rfl) dd_X6_cellOf ⟨(Nat.le_of_ble_eq_true rfl), (Nat.le_of_ble_eq_true rfl)⟩) (hD.zaddr rfl) [] rfl rfl (fun h => absurd h (by decide)) (fun _ => rfl) rfl (Nat.le_of_ble_eq_true rfl) dX0_reachingFromOutside_35 38 rfl h (fun r_3 h => ?_)
    refine z_iald C 1 rfl rfl dX0_reachingFromOutside_38 39 rfl h (fun h => ?_)
    refine z_ior C dX0_reachingFromOutside_39 40 rfl ?_
    refine z_aload_n C dX0_reachingFromOutside_40 rfl 0 rfl 41 rfl ?_
    refine z_get C (in_X0_reachingFromOutside_X0) 0 rfl rfl 5 (by decide) (List.mem_of_getElem? (i := 2) rfl) rfl rfl dX0_reachingFromOutside_41 44 rfl ?_
    refine z_iload_n C dX0_reachingFromOutside_44 rfl 2 rfl 45 rfl ?_
    refine z_iconst C 1 dX0_reachingFromOutside_45 (by decide) 46 rfl ?_
    refine z_iadd C dX0_reachingFromOutside_46 47 rfl ?_
    refine z_aload_n C dX0_reachingFromOutside_47 rfl 1 rfl 48 rfl ?_
    refine z_iload_n C dX0_reachingFromOutside_48 rfl 3 rfl 49 rfl ?_
    refine z_iconst C 2 dX0_reachingFromOutside_49 (by decide) 50 rfl ?_
    refine z_callR C (wX1 T a1 S1) (fun v h => c_X1_turnBeside l D T a1  S1 v3 2 v h) ⟨rfl, rfl⟩ (z_cwV C 2 gX0_reachingFromOutside_X1_turnBeside rfl rfl dd_X1_turnBeside ⟨(Nat.le_of_ble_eq_true rfl), (Nat.le_of_ble_eq_true rfl)⟩) (hD.zaddr rfl) [7, 8, 9, 10, 11] rfl rfl (fun _ => ⟨a1 99, [.int v3, .int 2], 1, 0, _, _, rfl, rfl, rfl, rfl, rfl⟩) (fun h => absurd rfl h) rfl (Nat.le_of_ble_eq_true rfl) dX0_reachingFromOutside_50 53 rfl h (fun r_4 h => ?_)
    refine z_callR C ([]) (fun v h => c_X6_cellOf l D T    (v2 + 1) r_4 v h) ⟨rfl, rfl⟩ (z_cwN C 2 gX0_reachingFromOutside_X6_cellOf_n46 rfl (List.mem_of_getElem? (i := 8) rfl) (List.mem_of_getElem? (i := 3) rfl) (List.mem_of_getElem? (i := 4) rfl) dd_X6_cellOf ⟨(Nat.le_of_ble_eq_true rfl), (Nat.le_of_ble_eq_true rfl)⟩) (hD.zaddr rfl) [] rfl rfl (fun h => absurd h (by decide)) (fun _ => rfl) rfl (Nat.le_of_ble_eq_true rfl) dX0_reachingFromOutside_53 56 rfl h (fun r_5 h => ?_)
    refine z_iald C 1 rfl rfl dX0_reachingFromOutside_56 57 rfl h (fun h => ?_)
    refine z_ior C dX0_reachingFromOutside_57 58 rfl ?_
    exact z_iretR C hr dX0_reachingFromOutside_58 h
  · refine z_iconst C 0 dX0_reachingFromOutside_8 (by decide) 9 rfl ?_
    exact z_iretR C hr dX0_reachingFromOutside_9 h

end
/-! StreamTree$Bests.reachingSource (LStreamTree$Chart;)I -/
section
variable {p : Program} {l : Launch} {e : Env} {R : Room} {s : State} {m : MethodId} {args : Array Value} {below : List Frame} {meth : Method} {c : Code} {Q : State → Prop} {A : Nat → Prop} {D : va_G} {T : Nat → ClassId} {a0 : Nat → Nat} {a1 : Nat → Nat}
theorem in_X0_reachingSource_X0 : ∀ w ∈ u_ws RX0 TX0 11, w ∈ wsX0_reachingSource := fun _ h => (List.mem_cons_of_mem _ (List.mem_append_right _ h))
theorem in_X0_reachingSource_X1 : ∀ w ∈ u_ws RX1 TX1 10, w ∈ wsX0_reachingSource := fun _ h => (List.mem_cons_of_mem _ (List.mem_append_left _ (List.mem_append_right _ h)))
def f_X0_reachingSource_L4b (S0 : Nat → Nat → Int32) (S1 : Nat → Nat → Int32)  (rec : (Int32 × Int32) → Option (Int32)) (a : Int32 × Int32) : Option (Int32) := if (S1 1 0) ≤ a.2 then (some a.1) else ((f_X6_cellOf 1 a.2).bind fun r_1 => zix r_1 240 fun _ => zlet (a.1 ||| (S0 5 (Int32.toNatClampNeg r_1))) fun u_2 => rec (u_2, (a.2 + 1)))
def f_X0_reachingSource_L4 (S0 : Nat → Nat → Int32) (S1 : Nat → Nat → Int32)  : Nat → (Int32 × Int32) → Option (Int32) := zloop (fun rec a => f_X0_reachingSource_L4b S0 S1 rec a)
set_option maxHeartbeats 4000000 in
set_option maxRecDepth 100000 in
theorem p_X0_reachingSource_L4 (C : zC p R s m args meth c cX0_reachingSource 4 RX0 wsX0_reachingSource D T 1 21 0 0) (S0 : Nat → Nat → Int32) (S1 : Nat → Nat → Int32)  (hD : va_D (fun _ => True) (wX0 T a0 S0 ++ wX1 T a1 S1)) : ∀ (n : Nat) (c0 : Int32) (c1 : Int32) (b : Int32), f_X0_reachingSource_L4 S0 S1 n (c0, c1) = some b → (zt p l e R s m args below meth c 4 A D 0 0 Q (wX0 T a0 S0 ++ wX1 T a1 S1) [(2, .int b)] 31 []) → zt p l e R s m args below meth c 4 A D 0 0 Q (wX0 T a0 S0 ++ wX1 T a1 S1) [(0, .ref (a0 99)), (1, .ref (a1 99)), (2, .int c0), (3, .int c1)] 4 [] := by
  intro n c0 c1 b h K
  refine zloop_ind (P := fun a b => (zt p l e R s m args below meth c 4 A D 0 0 Q (wX0 T a0 S0 ++ wX1 T a1 S1) [(2, .int b)] 31 []) → zt p l e R s m args below meth c 4 A D 0 0 Q (wX0 T a0 S0 ++ wX1 T a1 S1) [(0, .ref (a0 99)), (1, .ref (a1 99)), (2, .int a.1), (3, .int a.2)] 4 []) ?_ n (c0, c1) b h K
  clear h K b c0 c1
  intro rec hrec a b h K
  have hrec : ∀ (c0 : Int32) (c1 : Int32) (b : Int32), rec (c0, c1) = some b → (zt p l e R s m args below meth c 4 A D 0 0 Q (wX0 T a0 S0 ++ wX1 T a1 S1) [(2, .int b)] 31 []) → zt p l e R s m args below meth c 4 A D 0 0 Q (wX0 T a0 S0 ++ wX1 T a1 S1) [(0, .ref (a0 99)), (1, .ref (a1 99)), (2, .int c0), (3, .int c1)] 4 [] := fun c0 c1 b h K => hrec (c0, c1) b h K
  unfold f_X0_reachingSource_L4b at h
  refine z_iload_n C dX0_reachingSource_4 rfl 3 rfl 5 rfl ?_
  refine z_aload_n C dX0_reachingSource_5 rfl 1 rfl 6 rfl ?_
  refine z_get C (in_X0_reachingSource_X1) 7 rfl rfl 1 (by decide) (List.mem_of_getElem? (i := 1) rfl) rfl rfl dX0_reachingSource_6 9 rfl ?_
  refine z_icmp_ge C 31 dX0_reachingSource_9 (by decide) 12 rfl h (fun h => ?_) (fun h => ?_)
  · refine z_locals (ks := [2]) (lv' := [(2, .int a.1)]) rfl ?_
    exact zex1 (F := (fun e0 => zt p l e R s m args below meth c 4 A D 0 0 Q (wX0 T a0 S0 ++ wX1 T a1 S1) [(2, .int e0)] 31 [])) h K
  · refine z_iload_n C dX0_reachingSource_12 rfl 2 rfl 13 rfl ?_
    refine z_aload_n C dX0_reachingSource_13 rfl 0 rfl 14 rfl ?_
    refine z_get C (in_X0_reachingSource_X0) 0 rfl rfl 5 (by decide) (List.mem_of_getElem? (i := 2) rfl) rfl rfl dX0_reachingSource_14 17 rfl ?_
    refine z_iconst C 1 dX0_reachingSource_17 (by decide) 18 rfl ?_
    refine z_iload_n C dX0_reachingSource_18 rfl 3 rfl 19 rfl ?_
    refine z_callR C ([]) (fun v h => c_X6_cellOf l D T    1 a.2 v h) ⟨rfl, rfl⟩ (z_cwN C 2 gX0_reachingSource_X6_cellOf_n46 rfl (List.mem_of_getElem? (i := 8) rfl) (List.mem_of_getElem? (i := 3) rfl) (List.mem_of_getElem? (i := 4) rfl) dd_X6_cellOf ⟨(Nat.le_of_ble_eq_true rfl), (Nat.le_of_ble_eq_true rfl)⟩) (hD.zaddr rfl) [] rfl rfl (fun h => absurd h (by decide)) (fun _ => rfl) rfl (Nat.le_of_ble_eq_true rfl) dX0_reachingSource_19 22 rfl h (fun r_1 h => ?_)
    refine z_iald C 1 rfl rfl dX0_reachingSource_22 23 rfl h (fun h => ?_)
    refine z_ior C dX0_reachingSource_23 24 rfl ?_
    refine z_top h (fun u_2 h => ?_)
    refine z_istore_n C [(0, .ref (a0 99)), (1, .ref (a1 99)), (2, .int u_2), (3, .int a.2)] dX0_reachingSource_24 rfl (Nat.le_of_ble_eq_true rfl) [1, 2, 0, 3] rfl 25 rfl ?_
    refine z_iinc C (a.2 + 1) [(0, .ref (a0 99)), (1, .ref (a1 99)), (2, .int u_2), (3, .int (a.2 + 1))] dX0_reachingSource_25 3 rfl rfl (Nat.le_of_ble_eq_true rfl) [1, 2, 3, 0] rfl 28 rfl ?_
    refine z_goto C 4 dX0_reachingSource_28 (by decide) ?_
    exact z_locals (ks := [0, 1, 2, 3]) rfl (hrec _ _ _ h K)

def f_X0_reachingSource (S0 : Nat → Nat → Int32) (S1 : Nat → Nat → Int32)  : Option (Int32) := (f_X0_reachingSource_L4 S0 S1 zfuel (0, 0)).bind fun y_3 => some y_3
theorem dd_X0_reachingSource : RX0 ≠ "java/lang/invoke/MethodHandle" ∧ RX0 ≠ "java/lang/invoke/VarHandle" ∧ (parseMethodDescriptor yX0_reachingSource.desc).map (fun d => d.parameters.length) = some 1 := by decide +kernel
set_option maxHeartbeats 4000000 in
set_option maxRecDepth 100000 in
theorem c_X0_reachingSource (l : Launch) (D : va_G) (T : Nat → ClassId) (a0 : Nat → Nat) (a1 : Nat → Nat) (S0 : Nat → Nat → Int32) (S1 : Nat → Nat → Int32)  (ex : Int32) (h : f_X0_reachingSource S0 S1 = some ex) : zRI l yX0_reachingSource wsX0_reachingSource ({ frames := 1, cells := 0, slots := 0, locals := 21 } : Room) D T [.ref (a0 99), .ref (a1 99)] (wX0 T a0 S0 ++ wX1 T a1 S1) ex := by
  refine z_begin (cc := cX0_reachingSource) (nL := 4) (own := RX0) (fr := 1) (lc := 21) (ret := some .int) (by decide) rfl (Nat.le_of_ble_eq_true rfl) (fun _ => False) rfl [(0, .ref (a0 99)), (1, .ref (a1 99))] rfl ⟨rfl, rfl⟩ rfl ?_
  intro p e s m args below meth c C hr hD
  unfold f_X0_reachingSource at h
  refine z_iconst C 0 dX0_reachingSource_0 (by decide) 1 rfl ?_
  refine z_istore_n C [(0, .ref (a0 99)), (1, .ref (a1 99)), (2, .int 0)] dX0_reachingSource_1 rfl (Nat.le_of_ble_eq_true rfl) [1, 2, 0] rfl 2 rfl ?_
  refine z_iconst C 0 dX0_reachingSource_2 (by decide) 3 rfl ?_
  refine z_istore_n C [(0, .ref (a0 99)), (1, .ref (a1 99)), (2, .int 0), (3, .int 0)] dX0_reachingSource_3 rfl (Nat.le_of_ble_eq_true rfl) [1, 2, 3, 0] rfl 4 rfl ?_
  obtain ⟨y_3, hl_y_3, h⟩ := Option.bind_eq_some_iff.mp h
  refine z_locals (ks := [0, 1, 2, 3]) rfl (p_X0_reachingSource_L4 C S0 S1  (hD.zaddr rfl) _ _ _ _ hl_y_3 ?_)
  refine z_iload_n C dX0_reachingSource_31 rfl 0 rfl 32 rfl ?_
  exact z_iretR C hr dX0_reachingSource_32 h

end
/-! StreamTree$Bests.nextSubset (II)I -/
section
variable {p : Program} {l : Launch} {e : Env} {R : Room} {s : State} {m : MethodId} {args : Array Value} {below : List Frame} {meth : Method} {c : Code} {Q : State → Prop} {A : Nat → Prop} {D : va_G} {T : Nat → ClassId} 
def f_X0_nextSubset  (v0 : Int32) (v1 : Int32) : Option (Int32) := some ((v0 - v1) &&& v1)
theorem dd_X0_nextSubset : RX0 ≠ "java/lang/invoke/MethodHandle" ∧ RX0 ≠ "java/lang/invoke/VarHandle" ∧ (parseMethodDescriptor yX0_nextSubset.desc).map (fun d => d.parameters.length) = some 2 := by decide +kernel
set_option maxHeartbeats 4000000 in
set_option maxRecDepth 100000 in
theorem c_X0_nextSubset (l : Launch) (D : va_G) (T : Nat → ClassId)   (v0 : Int32) (v1 : Int32) (ex : Int32) (h : f_X0_nextSubset v0 v1 = some ex) : zRI l yX0_nextSubset wsX0_nextSubset ({ frames := 0, cells := 0, slots := 0, locals := 0 } : Room) D T [.int v0, .int v1] ([]) ex := by
  refine z_begin (cc := cX0_nextSubset) (nL := 2) (own := RX0) (fr := 0) (lc := 0) (ret := some .int) (by decide) rfl (Nat.le_of_ble_eq_true rfl) (fun _ => False) rfl [(0, .int v0), (1, .int v1)] rfl ⟨rfl, rfl⟩ rfl ?_
  intro p e s m args below meth c C hr hD
  unfold f_X0_nextSubset at h
  refine z_iload_n C dX0_nextSubset_0 rfl 0 rfl 1 rfl ?_
  refine z_iload_n C dX0_nextSubset_1 rfl 1 rfl 2 rfl ?_
  refine z_isub C dX0_nextSubset_2 3 rfl ?_
  refine z_iload_n C dX0_nextSubset_3 rfl 1 rfl 4 rfl ?_
  refine z_iand C dX0_nextSubset_4 5 rfl ?_
  exact z_iretR C hr dX0_nextSubset_5 h

end
/-! StreamTree$Bests.inkOf (II)I -/
section
variable {p : Program} {l : Launch} {e : Env} {R : Room} {s : State} {m : MethodId} {args : Array Value} {below : List Frame} {meth : Method} {c : Code} {Q : State → Prop} {A : Nat → Prop} {D : va_G} {T : Nat → ClassId} {a0 : Nat → Nat}
theorem in_X0_inkOf_X0 : ∀ w ∈ u_ws RX0 TX0 11, w ∈ wsX0_inkOf := fun _ h => (List.mem_cons_of_mem _ (List.mem_append_right _ h))
def f_X0_inkOf (S0 : Nat → Nat → Int32) (v1 : Int32) (v2 : Int32) : Option (Int32) := if v2 = 0 then (some 0) else ((f_X0_comesTo S0 v1 v2).bind fun r_1 => if r_1 = 0 then (some (-2)) else (zix ((v1 * 128) + v2) 30720 fun _ => some (S0 7 (Int32.toNatClampNeg ((v1 * 128) + v2)))))
theorem dd_X0_inkOf : RX0 ≠ "java/lang/invoke/MethodHandle" ∧ RX0 ≠ "java/lang/invoke/VarHandle" ∧ (parseMethodDescriptor yX0_inkOf.desc).map (fun d => d.parameters.length) = some 2 := by decide +kernel
set_option maxHeartbeats 4000000 in
set_option maxRecDepth 100000 in
theorem c_X0_inkOf (l : Launch) (D : va_G) (T : Nat → ClassId) (a0 : Nat → Nat) (S0 : Nat → Nat → Int32) (v1 : Int32) (v2 : Int32) (ex : Int32) (h : f_X0_inkOf S0 v1 v2 = some ex) : zRI l yX0_inkOf wsX0_inkOf ({ frames := 1, cells := 0, slots := 0, locals := 22 } : Room) D T [.ref (a0 99), .int v1, .int v2] (wX0 T a0 S0) ex := by
  refine z_begin (cc := cX0_inkOf) (nL := 3) (own := RX0) (fr := 1) (lc := 22) (ret := some .int) (by decide) rfl (Nat.le_of_ble_eq_true rfl) (fun _ => False) rfl [(0, .ref (a0 99)), (1, .int v1), (2, .int v2)] rfl ⟨rfl, rfl⟩ rfl ?_
  intro p e s m args below meth c C hr hD
  unfold f_X0_inkOf at h
  refine z_iload_n C dX0_inkOf_0 rfl 2 rfl 1 rfl ?_
  refine z_if_ne C 6 dX0_inkOf_1 (by decide) 4 rfl h (fun h => ?_) (fun h => ?_)
  · refine z_aload_n C dX0_inkOf_6 rfl 0 rfl 7 rfl ?_
    refine z_iload_n C dX0_inkOf_7 rfl 1 rfl 8 rfl ?_
    refine z_iload_n C dX0_inkOf_8 rfl 2 rfl 9 rfl ?_
    refine z_callR C (wX0 T a0 S0) (fun v h => c_X0_comesTo l D T a0  S0 v1 v2 v h) ⟨rfl, rfl⟩ (z_cwV C 2 gX0_inkOf_X0_comesTo rfl rfl dd_X0_comesTo ⟨(Nat.le_of_ble_eq_true rfl), (Nat.le_of_ble_eq_true rfl)⟩) (hD.zaddr rfl) [0, 1, 2, 3, 4, 5, 6] rfl rfl (fun _ => ⟨a0 99, [.int v1, .int v2], 0, 0, _, _, rfl, rfl, rfl, rfl, rfl⟩) (fun h => absurd rfl h) rfl (Nat.le_of_ble_eq_true rfl) dX0_inkOf_9 12 rfl h (fun r_1 h => ?_)
    refine z_if_eq C 30 dX0_inkOf_12 (by decide) 15 rfl h (fun h => ?_) (fun h => ?_)
    · refine z_bipush C (-2) dX0_inkOf_30 (by decide) 32 rfl ?_
      exact z_iretR C hr dX0_inkOf_32 h
    · refine z_aload_n C dX0_inkOf_15 rfl 0 rfl 16 rfl ?_
      refine z_get C (in_X0_inkOf_X0) 0 rfl rfl 7 (by decide) (List.mem_of_getElem? (i := 1) rfl) rfl rfl dX0_inkOf_16 19 rfl ?_
      refine z_iload_n C dX0_inkOf_19 rfl 1 rfl 20 rfl ?_
      refine z_sipush C 128 dX0_inkOf_20 (by decide) 23 rfl ?_
      refine z_imul C dX0_inkOf_23 24 rfl ?_
      refine z_iload_n C dX0_inkOf_24 rfl 2 rfl 25 rfl ?_
      refine z_iadd C dX0_inkOf_25 26 rfl ?_
      refine z_iald C 3 rfl rfl dX0_inkOf_26 27 rfl h (fun h => ?_)
      refine z_goto C 32 dX0_inkOf_27 (by decide) ?_
      exact z_iretR C hr dX0_inkOf_32 h
  · refine z_iconst C 0 dX0_inkOf_4 (by decide) 5 rfl ?_
    exact z_iretR C hr dX0_inkOf_5 h

end
/-! StreamTree$Bests.inkOfAllAlone (LStreamTree$Chart;)I -/
section
variable {p : Program} {l : Launch} {e : Env} {R : Room} {s : State} {m : MethodId} {args : Array Value} {below : List Frame} {meth : Method} {c : Code} {Q : State → Prop} {A : Nat → Prop} {D : va_G} {T : Nat → ClassId} {a0 : Nat → Nat} {a1 : Nat → Nat}
theorem in_X0_inkOfAllAlone_X1 : ∀ w ∈ u_ws RX1 TX1 10, w ∈ wsX0_inkOfAllAlone := fun _ h => (List.mem_cons_of_mem _ (List.mem_append_left _ (List.mem_append_right _ h)))
def f_X0_inkOfAllAlone_L4b (S0 : Nat → Nat → Int32) (S1 : Nat → Nat → Int32)  (rec : (Int32 × Int32) → Option (Nat × Int32)) (a : Int32 × Int32) : Option (Nat × Int32) := if (S1 5 0) ≤ a.2 then (some (1, a.1)) else ((f_X0_inkOf S0 0 (1 <<< (a.2 &&& 31))).bind fun r_1 => if r_1 = (-2) then (some (0, 0)) else (zlet (a.1 + r_1) fun u_2 => rec (u_2, (a.2 + 1))))
def f_X0_inkOfAllAlone_L4 (S0 : Nat → Nat → Int32) (S1 : Nat → Nat → Int32)  : Nat → (Int32 × Int32) → Option (Nat × Int32) := zloop (fun rec a => f_X0_inkOfAllAlone_L4b S0 S1 rec a)
set_option maxHeartbeats 4000000 in
set_option maxRecDepth 100000 in
theorem p_X0_inkOfAllAlone_L4 (C : zC p R s m args meth c cX0_inkOfAllAlone 5 RX0 wsX0_inkOfAllAlone D T 2 44 0 0) (S0 : Nat → Nat → Int32) (S1 : Nat → Nat → Int32)  (hD : va_D (fun _ => True) (wX0 T a0 S0 ++ wX1 T a1 S1)) : ∀ (n : Nat) (c0 : Int32) (c1 : Int32) (b : Nat × Int32), f_X0_inkOfAllAlone_L4 S0 S1 n (c0, c1) = some b → ((b.1 = 0 → zt p l e R s m args below meth c 5 A D 0 0 Q (wX0 T a0 S0 ++ wX1 T a1 S1) [] 29 []) ∧ (b.1 = 1 → zt p l e R s m args below meth c 5 A D 0 0 Q (wX0 T a0 S0 ++ wX1 T a1 S1) [(2, .int b.2)] 43 [])) → zt p l e R s m args below meth c 5 A D 0 0 Q (wX0 T a0 S0 ++ wX1 T a1 S1) [(0, .ref (a0 99)), (1, .ref (a1 99)), (2, .int c0), (3, .int c1)] 4 [] := by
  intro n c0 c1 b h K
  refine zloop_ind (P := fun a b => ((b.1 = 0 → zt p l e R s m args below meth c 5 A D 0 0 Q (wX0 T a0 S0 ++ wX1 T a1 S1) [] 29 []) ∧ (b.1 = 1 → zt p l e R s m args below meth c 5 A D 0 0 Q (wX0 T a0 S0 ++ wX1 T a1 S1) [(2, .int b.2)] 43 [])) → zt p l e R s m args below meth c 5 A D 0 0 Q (wX0 T a0 S0 ++ wX1 T a1 S1) [(0, .ref (a0 99)), (1, .ref (a1 99)), (2, .int a.1), (3, .int a.2)] 4 []) ?_ n (c0, c1) b h K
  clear h K b c0 c1
  intro rec hrec a b h K
  have hrec : ∀ (c0 : Int32) (c1 : Int32) (b : Nat × Int32), rec (c0, c1) = some b → ((b.1 = 0 → zt p l e R s m args below meth c 5 A D 0 0 Q (wX0 T a0 S0 ++ wX1 T a1 S1) [] 29 []) ∧ (b.1 = 1 → zt p l e R s m args below meth c 5 A D 0 0 Q (wX0 T a0 S0 ++ wX1 T a1 S1) [(2, .int b.2)] 43 [])) → zt p l e R s m args below meth c 5 A D 0 0 Q (wX0 T a0 S0 ++ wX1 T a1 S1) [(0, .ref (a0 99)), (1, .ref (a1 99)), (2, .int c0), (3, .int c1)] 4 [] := fun c0 c1 b h K => hrec (c0, c1) b h K
  unfold f_X0_inkOfAllAlone_L4b at h
  refine z_iload_n C dX0_inkOfAllAlone_4 rfl 3 rfl 5 rfl ?_
  refine z_aload_n C dX0_inkOfAllAlone_5 rfl 1 rfl 6 rfl ?_
  refine z_get C (in_X0_inkOfAllAlone_X1) 7 rfl rfl 5 (by decide) (List.mem_of_getElem? (i := 1) rfl) rfl rfl dX0_inkOfAllAlone_6 9 rfl ?_
  refine z_icmp_ge C 43 dX0_inkOfAllAlone_9 (by decide) 12 rfl h (fun h => ?_) (fun h => ?_)
  · refine z_locals (ks := [2]) (lv' := [(2, .int a.1)]) rfl ?_
    exact zexT1 (F := (fun e0 => zt p l e R s m args below meth c 5 A D 0 0 Q (wX0 T a0 S0 ++ wX1 T a1 S1) [(2, .int e0)] 43 [])) h K.2
  · refine z_aload_n C dX0_inkOfAllAlone_12 rfl 0 rfl 13 rfl ?_
    refine z_iconst C 0 dX0_inkOfAllAlone_13 (by decide) 14 rfl ?_
    refine z_iconst C 1 dX0_inkOfAllAlone_14 (by decide) 15 rfl ?_
    refine z_iload_n C dX0_inkOfAllAlone_15 rfl 3 rfl 16 rfl ?_
    refine z_ishl C dX0_inkOfAllAlone_16 17 rfl ?_
    refine z_callR C (wX0 T a0 S0) (fun v h => c_X0_inkOf l D T a0  S0 0 (1 <<< (a.2 &&& 31)) v h) ⟨rfl, rfl⟩ (z_cwV C 2 gX0_inkOfAllAlone_X0_inkOf rfl rfl dd_X0_inkOf ⟨(Nat.le_of_ble_eq_true rfl), (Nat.le_of_ble_eq_true rfl)⟩) (hD.zaddr rfl) [0, 1, 2, 3, 4, 5, 6] rfl rfl (fun _ => ⟨a0 99, [.int 0, .int (1 <<< (a.2 &&& 31))], 0, 0, _, _, rfl, rfl, rfl, rfl, rfl⟩) (fun h => absurd rfl h) rfl (Nat.le_of_ble_eq_true rfl) dX0_inkOfAllAlone_17 20 rfl h (fun r_1 h => ?_)
    refine z_istore C [(0, .ref (a0 99)), (1, .ref (a1 99)), (2, .int a.1), (3, .int a.2), (4, .int r_1)] dX0_inkOfAllAlone_20 (Nat.le_of_ble_eq_true rfl) [1, 2, 3, 4, 0] rfl 22 rfl ?_
    refine z_iload C dX0_inkOfAllAlone_22 4 rfl 24 rfl ?_
    refine z_bipush C (-2) dX0_inkOfAllAlone_24 (by decide) 26 rfl ?_
    refine z_icmp_ne C 32 dX0_inkOfAllAlone_26 (by decide) 29 rfl h (fun h => ?_) (fun h => ?_)
    · refine z_iload_n C dX0_inkOfAllAlone_32 rfl 2 rfl 33 rfl ?_
      refine z_iload C dX0_inkOfAllAlone_33 4 rfl 35 rfl ?_
      refine z_iadd C dX0_inkOfAllAlone_35 36 rfl ?_
      refine z_top h (fun u_2 h => ?_)
      refine z_istore_n C [(0, .ref (a0 99)), (1, .ref (a1 99)), (2, .int u_2), (3, .int a.2), (4, .int r_1)] dX0_inkOfAllAlone_36 rfl (Nat.le_of_ble_eq_true rfl) [1, 2, 0, 3, 4] rfl 37 rfl ?_
      refine z_iinc C (a.2 + 1) [(0, .ref (a0 99)), (1, .ref (a1 99)), (2, .int u_2), (3, .int (a.2 + 1)), (4, .int r_1)] dX0_inkOfAllAlone_37 3 rfl rfl (Nat.le_of_ble_eq_true rfl) [1, 2, 3, 0, 4] rfl 40 rfl ?_
      refine z_goto C 4 dX0_inkOfAllAlone_40 (by decide) ?_
      exact z_locals (ks := [0, 1, 2, 3]) rfl (hrec _ _ _ h K)
    · refine z_locals (ks := []) (lv' := []) rfl ?_
      exact zexT1 (F := (fun e0 => zt p l e R s m args below meth c 5 A D 0 0 Q (wX0 T a0 S0 ++ wX1 T a1 S1) [] 29 [])) h K.1

def f_X0_inkOfAllAlone (S0 : Nat → Nat → Int32) (S1 : Nat → Nat → Int32)  : Option (Int32) := (f_X0_inkOfAllAlone_L4 S0 S1 zfuel (0, 0)).bind fun y_3 => if y_3.1 = 0 then (some (-2)) else (some y_3.2)
theorem dd_X0_inkOfAllAlone : RX0 ≠ "java/lang/invoke/MethodHandle" ∧ RX0 ≠ "java/lang/invoke/VarHandle" ∧ (parseMethodDescriptor yX0_inkOfAllAlone.desc).map (fun d => d.parameters.length) = some 1 := by decide +kernel
set_option maxHeartbeats 4000000 in
set_option maxRecDepth 100000 in
theorem c_X0_inkOfAllAlone (l : Launch) (D : va_G) (T : Nat → ClassId) (a0 : Nat → Nat) (a1 : Nat → Nat) (S0 : Nat → Nat → Int32) (S1 : Nat → Nat → Int32)  (ex : Int32) (h : f_X0_inkOfAllAlone S0 S1 = some ex) : zRI l yX0_inkOfAllAlone wsX0_inkOfAllAlone ({ frames := 2, cells := 0, slots := 0, locals := 44 } : Room) D T [.ref (a0 99), .ref (a1 99)] (wX0 T a0 S0 ++ wX1 T a1 S1) ex := by
  refine z_begin (cc := cX0_inkOfAllAlone) (nL := 5) (own := RX0) (fr := 2) (lc := 44) (ret := some .int) (by decide) rfl (Nat.le_of_ble_eq_true rfl) (fun _ => False) rfl [(0, .ref (a0 99)), (1, .ref (a1 99))] rfl ⟨rfl, rfl⟩ rfl ?_
  intro p e s m args below meth c C hr hD
  unfold f_X0_inkOfAllAlone at h
  refine z_iconst C 0 dX0_inkOfAllAlone_0 (by decide) 1 rfl ?_
  refine z_istore_n C [(0, .ref (a0 99)), (1, .ref (a1 99)), (2, .int 0)] dX0_inkOfAllAlone_1 rfl (Nat.le_of_ble_eq_true rfl) [1, 2, 0] rfl 2 rfl ?_
  refine z_iconst C 0 dX0_inkOfAllAlone_2 (by decide) 3 rfl ?_
  refine z_istore_n C [(0, .ref (a0 99)), (1, .ref (a1 99)), (2, .int 0), (3, .int 0)] dX0_inkOfAllAlone_3 rfl (Nat.le_of_ble_eq_true rfl) [1, 2, 3, 0] rfl 4 rfl ?_
  obtain ⟨y_3, hl_y_3, h⟩ := Option.bind_eq_some_iff.mp h
  refine z_locals (ks := [0, 1, 2, 3]) rfl (p_X0_inkOfAllAlone_L4 C S0 S1  (hD.zaddr rfl) _ _ _ _ hl_y_3 ⟨fun ht => ?_, fun ht => ?_⟩)
  · replace h := z_pos ht h
    refine z_bipush C (-2) dX0_inkOfAllAlone_29 (by decide) 31 rfl ?_
    exact z_iretR C hr dX0_inkOfAllAlone_31 h
  · replace h := z_neg (by rw [ht]; decide) h
    refine z_iload_n C dX0_inkOfAllAlone_43 rfl 0 rfl 44 rfl ?_
    exact z_iretR C hr dX0_inkOfAllAlone_44 h

end
/-! StreamTree$Bests.inkSavedByLeast (LStreamTree$Chart;)I -/
section
variable {p : Program} {l : Launch} {e : Env} {R : Room} {s : State} {m : MethodId} {args : Array Value} {below : List Frame} {meth : Method} {c : Code} {Q : State → Prop} {A : Nat → Prop} {D : va_G} {T : Nat → ClassId} {a0 : Nat → Nat} {a1 : Nat → Nat}
def f_X0_inkSavedByLeast (S0 : Nat → Nat → Int32) (S1 : Nat → Nat → Int32)  : Option (Int32) := (f_X0_inkOfAllAlone S0 S1).bind fun r_1 => if r_1 = (-2) then (some (-2)) else ((f_X1_allPlaces S1).bind fun r_2 => (f_X0_inkOf S0 0 r_2).bind fun r_3 => some (r_1 - r_3))
theorem dd_X0_inkSavedByLeast : RX0 ≠ "java/lang/invoke/MethodHandle" ∧ RX0 ≠ "java/lang/invoke/VarHandle" ∧ (parseMethodDescriptor yX0_inkSavedByLeast.desc).map (fun d => d.parameters.length) = some 1 := by decide +kernel
set_option maxHeartbeats 4000000 in
set_option maxRecDepth 100000 in
theorem c_X0_inkSavedByLeast (l : Launch) (D : va_G) (T : Nat → ClassId) (a0 : Nat → Nat) (a1 : Nat → Nat) (S0 : Nat → Nat → Int32) (S1 : Nat → Nat → Int32)  (ex : Int32) (h : f_X0_inkSavedByLeast S0 S1 = some ex) : zRI l yX0_inkSavedByLeast wsX0_inkSavedByLeast ({ frames := 3, cells := 0, slots := 0, locals := 68 } : Room) D T [.ref (a0 99), .ref (a1 99)] (wX0 T a0 S0 ++ wX1 T a1 S1) ex := by
  refine z_begin (cc := cX0_inkSavedByLeast) (nL := 3) (own := RX0) (fr := 3) (lc := 68) (ret := some .int) (by decide) rfl (Nat.le_of_ble_eq_true rfl) (fun _ => False) rfl [(0, .ref (a0 99)), (1, .ref (a1 99))] rfl ⟨rfl, rfl⟩ rfl ?_
  intro p e s m args below meth c C hr hD
  unfold f_X0_inkSavedByLeast at h
  refine z_aload_n C dX0_inkSavedByLeast_0 rfl 0 rfl 1 rfl ?_
  refine z_aload_n C dX0_inkSavedByLeast_1 rfl 1 rfl 2 rfl ?_
  refine z_callR C (wX0 T a0 S0 ++ wX1 T a1 S1) (fun v h => c_X0_inkOfAllAlone l D T a0 a1  S0 S1  v h) ⟨rfl, rfl⟩ (z_cwV C 1 gX0_inkSavedByLeast_X0_inkOfAllAlone rfl rfl dd_X0_inkOfAllAlone ⟨(Nat.le_of_ble_eq_true rfl), (Nat.le_of_ble_eq_true rfl)⟩) (hD.zaddr rfl) [0, 1, 2, 3, 4, 5, 6, 7, 8, 9, 10, 11] rfl rfl (fun _ => ⟨a0 99, [.ref (a1 99)], 0, 0, _, _, rfl, rfl, rfl, rfl, rfl⟩) (fun h => absurd rfl h) rfl (Nat.le_of_ble_eq_true rfl) dX0_inkSavedByLeast_2 5 rfl h (fun r_1 h => ?_)
  refine z_istore_n C [(0, .ref (a0 99)), (1, .ref (a1 99)), (2, .int r_1)] dX0_inkSavedByLeast_5 rfl (Nat.le_of_ble_eq_true rfl) [1, 2, 0] rfl 6 rfl ?_
  refine z_iload_n C dX0_inkSavedByLeast_6 rfl 2 rfl 7 rfl ?_
  refine z_bipush C (-2) dX0_inkSavedByLeast_7 (by decide) 9 rfl ?_
  refine z_icmp_ne C 17 dX0_inkSavedByLeast_9 (by decide) 12 rfl h (fun h => ?_) (fun h => ?_)
  · refine z_iload_n C dX0_inkSavedByLeast_17 rfl 2 rfl 18 rfl ?_
    refine z_aload_n C dX0_inkSavedByLeast_18 rfl 0 rfl 19 rfl ?_
    refine z_iconst C 0 dX0_inkSavedByLeast_19 (by decide) 20 rfl ?_
    refine z_aload_n C dX0_inkSavedByLeast_20 rfl 1 rfl 21 rfl ?_
    refine z_callR C (wX1 T a1 S1) (fun v h => c_X1_allPlaces l D T a1  S1  v h) ⟨rfl, rfl⟩ (z_cwV C 0 gX0_inkSavedByLeast_X1_allPlaces rfl rfl dd_X1_allPlaces ⟨(Nat.le_of_ble_eq_true rfl), (Nat.le_of_ble_eq_true rfl)⟩) (hD.zaddr rfl) [7, 8, 9, 10, 11] rfl rfl (fun _ => ⟨a1 99, [], 1, 0, _, _, rfl, rfl, rfl, rfl, rfl⟩) (fun h => absurd rfl h) rfl (Nat.le_of_ble_eq_true rfl) dX0_inkSavedByLeast_21 24 rfl h (fun r_2 h => ?_)
    refine z_callR C (wX0 T a0 S0) (fun v h => c_X0_inkOf l D T a0  S0 0 r_2 v h) ⟨rfl, rfl⟩ (z_cwV C 2 gX0_inkSavedByLeast_X0_inkOf rfl rfl dd_X0_inkOf ⟨(Nat.le_of_ble_eq_true rfl), (Nat.le_of_ble_eq_true rfl)⟩) (hD.zaddr rfl) [0, 1, 2, 3, 4, 5, 6] rfl rfl (fun _ => ⟨a0 99, [.int 0, .int r_2], 0, 0, _, _, rfl, rfl, rfl, rfl, rfl⟩) (fun h => absurd rfl h) rfl (Nat.le_of_ble_eq_true rfl) dX0_inkSavedByLeast_24 27 rfl h (fun r_3 h => ?_)
    refine z_isub C dX0_inkSavedByLeast_27 28 rfl ?_
    exact z_iretR C hr dX0_inkSavedByLeast_28 h
  · refine z_bipush C (-2) dX0_inkSavedByLeast_12 (by decide) 14 rfl ?_
    refine z_goto C 28 dX0_inkSavedByLeast_14 (by decide) ?_
    exact z_iretR C hr dX0_inkSavedByLeast_28 h

end
/-! StreamTree$Bests.tryParts (II)V -/
section
variable {p : Program} {l : Launch} {e : Env} {R : Room} {s : State} {m : MethodId} {args : Array Value} {below : List Frame} {meth : Method} {c : Code} {Q : State → Prop} {A : Nat → Prop} {D : va_G} {T : Nat → ClassId} {a0 : Nat → Nat}
theorem in_X0_tryParts_X0 : ∀ w ∈ u_ws RX0 TX0 11, w ∈ wsX0_tryParts := fun _ h => (List.mem_cons_of_mem _ (List.mem_append_right _ h))
def f_X0_tryParts_J91 (rec : (Int32 × Int32 × (Nat → Nat → Int32)) → Option ((Nat → Nat → Int32))) (S0 : Nat → Nat → Int32) (v2 : Int32) (v3 : Int32) (v4 : Int32) (v5 : Int32) (v6 : Int32) (x7 : Int32) (x8 : Int32)  : Option ((Nat → Nat → Int32)) := (f_X0_nextSubset x7 v5).bind fun r_8 => rec (r_8, (x8 + 1), S0)
set_option maxHeartbeats 4000000 in
set_option maxRecDepth 100000 in
theorem p_X0_tryParts_J91 (C : zC p R s m args meth c cX0_tryParts 11 RX0 wsX0_tryParts D T 1 21 0 0) (S0 : Nat → Nat → Int32) {v2 : Int32} {v3 : Int32} {v4 : Int32} {v5 : Int32} {v6 : Int32} (x7 : Int32) (x8 : Int32)  (hD : va_D A (wX0 T a0 S0)) {rec : (Int32 × Int32 × (Nat → Nat → Int32)) → Option ((Nat → Nat → Int32))} (hrec : ∀ (c0 : Int32) (c1 : Int32) (c2 : Nat → Nat → Int32) (b : (Nat → Nat → Int32)), rec (c0, c1, c2) = some b → (zt p l e R s m args below meth c 11 A D 0 0 Q (wX0 T a0 b) [] 106 []) → zt p l e R s m args below meth c 11 A D 0 0 Q (wX0 T a0 c2) [(0, .ref (a0 99)), (2, .int v2), (3, .int v3), (4, .int v4), (5, .int v5), (6, .int v6), (7, .int c0), (8, .int c1)] 33 []) {b : (Nat → Nat → Int32)} (K : zt p l e R s m args below meth c 11 A D 0 0 Q (wX0 T a0 b) [] 106 []) (h : f_X0_tryParts_J91 rec S0 v2 v3 v4 v5 v6 x7 x8 = some b) : zt p l e R s m args below meth c 11 A D 0 0 Q (wX0 T a0 S0) [(0, .ref (a0 99)), (2, .int v2), (3, .int v3), (4, .int v4), (5, .int v5), (6, .int v6), (7, .int x7), (8, .int x8)] 91 [] := by
  unfold f_X0_tryParts_J91 at h
  refine z_iload C dX0_tryParts_91 6 rfl 93 rfl ?_
  refine z_iload C dX0_tryParts_93 4 rfl 95 rfl ?_
  refine z_callR C ([]) (fun v h => c_X0_nextSubset l D T    x7 v5 v h) ⟨rfl, rfl⟩ (z_cwS C 2 gX0_tryParts_X0_nextSubset rfl dd_X0_nextSubset ⟨(Nat.le_of_ble_eq_true rfl), (Nat.le_of_ble_eq_true rfl)⟩) (hD.zaddr rfl) [] rfl rfl (fun h => absurd h (by decide)) (fun _ => rfl) rfl (Nat.le_of_ble_eq_true rfl) dX0_tryParts_95 98 rfl h (fun r_8 h => ?_)
  refine z_istore C [(0, .ref (a0 99)), (2, .int v2), (3, .int v3), (4, .int v4), (5, .int v5), (6, .int v6), (7, .int r_8), (8, .int x8)] dX0_tryParts_98 (Nat.le_of_ble_eq_true rfl) [1, 2, 3, 4, 5, 6, 0, 7] rfl 100 rfl ?_
  refine z_iinc C (x8 + 1) [(0, .ref (a0 99)), (2, .int v2), (3, .int v3), (4, .int v4), (5, .int v5), (6, .int v6), (7, .int r_8), (8, .int (x8 + 1))] dX0_tryParts_100 7 rfl rfl (Nat.le_of_ble_eq_true rfl) [1, 2, 3, 4, 5, 6, 7, 0] rfl 103 rfl ?_
  refine z_goto C 33 dX0_tryParts_103 (by decide) ?_
  exact z_locals (ks := [0, 1, 2, 3, 4, 5, 6, 7]) rfl (hrec _ _ _ _ h K)

def f_X0_tryParts_L33b  (v2 : Int32) (v3 : Int32) (v4 : Int32) (v5 : Int32) (v6 : Int32) (rec : (Int32 × Int32 × (Nat → Nat → Int32)) → Option ((Nat → Nat → Int32))) (a : Int32 × Int32 × (Nat → Nat → Int32)) : Option ((Nat → Nat → Int32)) := if v6 ≤ a.2.1 then (some a.2.2) else (zlet (v4 ||| a.1) fun u_6 => zix (v3 + u_6) 30720 fun _ => zix (v3 + (v2 ^^^ u_6)) 30720 fun _ => zlet ((a.2.2 7 (Int32.toNatClampNeg (v3 + u_6))) + (a.2.2 7 (Int32.toNatClampNeg (v3 + (v2 ^^^ u_6))))) fun u_7 => if (a.2.2 1 0) ≤ u_7 then (f_X0_tryParts_J91 rec a.2.2 v2 v3 v4 v5 v6 a.1 a.2.1) else (zlet (zst a.2.2 1 0 u_7) fun S0_9 => zlet (zst S0_9 2 0 u_6) fun S0_10 => f_X0_tryParts_J91 rec S0_10 v2 v3 v4 v5 v6 a.1 a.2.1))
def f_X0_tryParts_L33  (v2 : Int32) (v3 : Int32) (v4 : Int32) (v5 : Int32) (v6 : Int32) : Nat → (Int32 × Int32 × (Nat → Nat → Int32)) → Option ((Nat → Nat → Int32)) := zloop (fun rec a => f_X0_tryParts_L33b v2 v3 v4 v5 v6 rec a)
set_option maxHeartbeats 4000000 in
set_option maxRecDepth 100000 in
theorem p_X0_tryParts_L33 (C : zC p R s m args meth c cX0_tryParts 11 RX0 wsX0_tryParts D T 1 21 0 0) (S0 : Nat → Nat → Int32) (v2 : Int32) (v3 : Int32) (v4 : Int32) (v5 : Int32) (v6 : Int32) (hD : va_D A (wX0 T a0 S0)) : ∀ (n : Nat) (c0 : Int32) (c1 : Int32) (c2 : Nat → Nat → Int32) (b : (Nat → Nat → Int32)), f_X0_tryParts_L33 v2 v3 v4 v5 v6 n (c0, c1, c2) = some b → (zt p l e R s m args below meth c 11 A D 0 0 Q (wX0 T a0 b) [] 106 []) → zt p l e R s m args below meth c 11 A D 0 0 Q (wX0 T a0 c2) [(0, .ref (a0 99)), (2, .int v2), (3, .int v3), (4, .int v4), (5, .int v5), (6, .int v6), (7, .int c0), (8, .int c1)] 33 [] := by
  intro n c0 c1 c2 b h K
  refine zloop_ind (P := fun a b => (zt p l e R s m args below meth c 11 A D 0 0 Q (wX0 T a0 b) [] 106 []) → zt p l e R s m args below meth c 11 A D 0 0 Q (wX0 T a0 a.2.2) [(0, .ref (a0 99)), (2, .int v2), (3, .int v3), (4, .int v4), (5, .int v5), (6, .int v6), (7, .int a.1), (8, .int a.2.1)] 33 []) ?_ n (c0, c1, c2) b h K
  clear h K b c0 c1 c2
  intro rec hrec a b h K
  have hrec : ∀ (c0 : Int32) (c1 : Int32) (c2 : Nat → Nat → Int32) (b : (Nat → Nat → Int32)), rec (c0, c1, c2) = some b → (zt p l e R s m args below meth c 11 A D 0 0 Q (wX0 T a0 b) [] 106 []) → zt p l e R s m args below meth c 11 A D 0 0 Q (wX0 T a0 c2) [(0, .ref (a0 99)), (2, .int v2), (3, .int v3), (4, .int v4), (5, .int v5), (6, .int v6), (7, .int c0), (8, .int c1)] 33 [] := fun c0 c1 c2 b h K => hrec (c0, c1, c2) b h K
  unfold f_X0_tryParts_L33b at h
  refine z_iload C dX0_tryParts_33 7 rfl 35 rfl ?_
  refine z_iload C dX0_tryParts_35 5 rfl 37 rfl ?_
  refine z_icmp_ge C 106 dX0_tryParts_37 (by decide) 40 rfl h (fun h => ?_) (fun h => ?_)
  · refine z_locals (ks := []) (lv' := []) rfl ?_
    exact zex1 (F := (fun e0 => zt p l e R s m args below meth c 11 A D 0 0 Q (wX0 T a0 e0) [] 106 [])) h K
  · refine z_iload C dX0_tryParts_40 3 rfl 42 rfl ?_
    refine z_iload C dX0_tryParts_42 6 rfl 44 rfl ?_
    refine z_ior C dX0_tryParts_44 45 rfl ?_
    refine z_top h (fun u_6 h => ?_)
    refine z_istore C [(0, .ref (a0 99)), (2, .int v2), (3, .int v3), (4, .int v4), (5, .int v5), (6, .int v6), (7, .int a.1), (8, .int a.2.1), (9, .int u_6)] dX0_tryParts_45 (Nat.le_of_ble_eq_true rfl) [1, 2, 3, 4, 5, 6, 7, 8, 0] rfl 47 rfl ?_
    refine z_aload_n C dX0_tryParts_47 rfl 0 rfl 48 rfl ?_
    refine z_get C (in_X0_tryParts_X0) 0 rfl rfl 7 (by decide) (List.mem_of_getElem? (i := 1) rfl) rfl rfl dX0_tryParts_48 51 rfl ?_
    refine z_iload_n C dX0_tryParts_51 rfl 2 rfl 52 rfl ?_
    refine z_iload C dX0_tryParts_52 8 rfl 54 rfl ?_
    refine z_iadd C dX0_tryParts_54 55 rfl ?_
    refine z_iald C 3 rfl rfl dX0_tryParts_55 56 rfl h (fun h => ?_)
    refine z_aload_n C dX0_tryParts_56 rfl 0 rfl 57 rfl ?_
    refine z_get C (in_X0_tryParts_X0) 0 rfl rfl 7 (by decide) (List.mem_of_getElem? (i := 1) rfl) rfl rfl dX0_tryParts_57 60 rfl ?_
    refine z_iload_n C dX0_tryParts_60 rfl 2 rfl 61 rfl ?_
    refine z_iload_n C dX0_tryParts_61 rfl 1 rfl 62 rfl ?_
    refine z_iload C dX0_tryParts_62 8 rfl 64 rfl ?_
    refine z_ixor C dX0_tryParts_64 65 rfl ?_
    refine z_iadd C dX0_tryParts_65 66 rfl ?_
    refine z_iald C 3 rfl rfl dX0_tryParts_66 67 rfl h (fun h => ?_)
    refine z_iadd C dX0_tryParts_67 68 rfl ?_
    refine z_top h (fun u_7 h => ?_)
    refine z_istore C [(0, .ref (a0 99)), (2, .int v2), (3, .int v3), (4, .int v4), (5, .int v5), (6, .int v6), (7, .int a.1), (8, .int a.2.1), (9, .int u_6), (10, .int u_7)] dX0_tryParts_68 (Nat.le_of_ble_eq_true rfl) [1, 2, 3, 4, 5, 6, 7, 8, 9, 0] rfl 70 rfl ?_
    refine z_iload C dX0_tryParts_70 9 rfl 72 rfl ?_
    refine z_aload_n C dX0_tryParts_72 rfl 0 rfl 73 rfl ?_
    refine z_get C (in_X0_tryParts_X0) 0 rfl rfl 1 (by decide) (List.mem_of_getElem? (i := 2) rfl) rfl rfl dX0_tryParts_73 76 rfl ?_
    refine z_icmp_ge C 91 dX0_tryParts_76 (by decide) 79 rfl h (fun h => ?_) (fun h => ?_)
    · exact z_locals (ks := [0, 1, 2, 3, 4, 5, 6, 7]) rfl (p_X0_tryParts_J91 C a.2.2 a.1 a.2.1 (hD.zaddr rfl) hrec K h)
    · refine z_aload_n C dX0_tryParts_79 rfl 0 rfl 80 rfl ?_
      refine z_iload C dX0_tryParts_80 9 rfl 82 rfl ?_
      refine z_put (ty := .int) C (fun z => wX0 T a0 z) a.2.2 (hD.zaddr rfl) (in_X0_tryParts_X0) tyX0 tyX0_ok nmX0 0 rfl rfl 1 (by decide) (List.mem_of_getElem? (i := 2) rfl) rfl rfl (by decide +kernel) rfl rfl (Nat.le_of_ble_eq_true rfl) rfl dX0_tryParts_82 85 rfl h (fun S0_9 h => ?_)
      refine z_aload_n C dX0_tryParts_85 rfl 0 rfl 86 rfl ?_
      refine z_iload C dX0_tryParts_86 8 rfl 88 rfl ?_
      refine z_put (ty := .int) C (fun z => wX0 T a0 z) S0_9 (hD.zaddr rfl) (in_X0_tryParts_X0) tyX0 tyX0_ok nmX0 0 rfl rfl 2 (by decide) (List.mem_of_getElem? (i := 3) rfl) rfl rfl (by decide +kernel) rfl rfl (Nat.le_of_ble_eq_true rfl) rfl dX0_tryParts_88 91 rfl h (fun S0_10 h => ?_)
      exact z_locals (ks := [0, 1, 2, 3, 4, 5, 6, 7]) rfl (p_X0_tryParts_J91 C S0_10 a.1 a.2.1 (hD.zaddr rfl) hrec K h)

def f_X0_tryParts (S0 : Nat → Nat → Int32) (v1 : Int32) (v2 : Int32) : Option ((Nat → Nat → Int32)) := zlet (v1 * 128) fun u_1 => zlet (v2 &&& (-v2)) fun u_2 => zlet (v2 ^^^ u_2) fun u_3 => (f_J6_bitCount_0f7a4 u_3).bind fun r_4 => zlet (1 <<< (r_4 &&& 31)) fun u_5 => (f_X0_tryParts_L33 v2 u_1 u_2 u_3 u_5 zfuel (0, 1, S0)).bind fun y_11 => some y_11
theorem dd_X0_tryParts : RX0 ≠ "java/lang/invoke/MethodHandle" ∧ RX0 ≠ "java/lang/invoke/VarHandle" ∧ (parseMethodDescriptor yX0_tryParts.desc).map (fun d => d.parameters.length) = some 2 := by decide +kernel
set_option maxHeartbeats 4000000 in
set_option maxRecDepth 100000 in
theorem c_X0_tryParts (l : Launch) (D : va_G) (T : Nat → ClassId) (a0 : Nat → Nat) (S0 : Nat → Nat → Int32) (v1 : Int32) (v2 : Int32) (ex : (Nat → Nat → Int32)) (h : f_X0_tryParts S0 v1 v2 = some ex) : zWV l yX0_tryParts wsX0_tryParts ({ frames := 1, cells := 0, slots := 0, locals := 21 } : Room) D T [.ref (a0 99), .int v1, .int v2] (wX0 T a0 S0) (wX0 T a0 ex) := by
  refine z_begin (cc := cX0_tryParts) (nL := 11) (own := RX0) (fr := 1) (lc := 21) (ret := none) (by decide) rfl (Nat.le_of_ble_eq_true rfl) (zA (wX0 T a0 S0)) rfl [(0, .ref (a0 99)), (1, .int v1), (2, .int v2)] rfl ⟨rfl, rfl⟩ rfl ?_
  intro p e s m args below meth c C hr hD
  have hD := hD.zself
  unfold f_X0_tryParts at h
  refine z_iload_n C dX0_tryParts_0 rfl 1 rfl 1 rfl ?_
  refine z_sipush C 128 dX0_tryParts_1 (by decide) 4 rfl ?_
  refine z_imul C dX0_tryParts_4 5 rfl ?_
  refine z_top h (fun u_1 h => ?_)
  refine z_istore_n C [(0, .ref (a0 99)), (1, .int v1), (2, .int v2), (3, .int u_1)] dX0_tryParts_5 rfl (Nat.le_of_ble_eq_true rfl) [1, 2, 3, 0] rfl 6 rfl ?_
  refine z_iload_n C dX0_tryParts_6 rfl 2 rfl 7 rfl ?_
  refine z_iload_n C dX0_tryParts_7 rfl 2 rfl 8 rfl ?_
  refine z_ineg C dX0_tryParts_8 9 rfl ?_
  refine z_iand C dX0_tryParts_9 10 rfl ?_
  refine z_top h (fun u_2 h => ?_)
  refine z_istore C [(0, .ref (a0 99)), (1, .int v1), (2, .int v2), (3, .int u_1), (4, .int u_2)] dX0_tryParts_10 (Nat.le_of_ble_eq_true rfl) [1, 2, 3, 4, 0] rfl 12 rfl ?_
  refine z_iload_n C dX0_tryParts_12 rfl 2 rfl 13 rfl ?_
  refine z_iload C dX0_tryParts_13 4 rfl 15 rfl ?_
  refine z_ixor C dX0_tryParts_15 16 rfl ?_
  refine z_top h (fun u_3 h => ?_)
  refine z_istore C [(0, .ref (a0 99)), (1, .int v1), (2, .int v2), (3, .int u_1), (4, .int u_2), (5, .int u_3)] dX0_tryParts_16 (Nat.le_of_ble_eq_true rfl) [1, 2, 3, 4, 5, 0] rfl 18 rfl ?_
  refine z_iconst C 1 dX0_tryParts_18 (by decide) 19 rfl ?_
  refine z_iload C dX0_tryParts_19 5 rfl 21 rfl ?_
  refine z_callR C ([]) (fun v h => c_J6_bitCount_0f7a4 l D T    u_3 v h) ⟨rfl, rfl⟩ (z_cwS C 1 gX0_tryParts_J6_bitCount_0f7a4 rfl dd_J6_bitCount_0f7a4 ⟨(Nat.le_of_ble_eq_true rfl), (Nat.le_of_ble_eq_true rfl)⟩) (hD.zaddr rfl) [] rfl rfl (fun h => absurd h (by decide)) (fun _ => rfl) rfl (Nat.le_of_ble_eq_true rfl) dX0_tryParts_21 24 rfl h (fun r_4 h => ?_)
  refine z_ishl C dX0_tryParts_24 25 rfl ?_
  refine z_top h (fun u_5 h => ?_)
  refine z_istore C [(0, .ref (a0 99)), (1, .int v1), (2, .int v2), (3, .int u_1), (4, .int u_2), (5, .int u_3), (6, .int u_5)] dX0_tryParts_25 (Nat.le_of_ble_eq_true rfl) [1, 2, 3, 4, 5, 6, 0] rfl 27 rfl ?_
  refine z_iconst C 0 dX0_tryParts_27 (by decide) 28 rfl ?_
  refine z_istore C [(0, .ref (a0 99)), (1, .int v1), (2, .int v2), (3, .int u_1), (4, .int u_2), (5, .int u_3), (6, .int u_5), (7, .int 0)] dX0_tryParts_28 (Nat.le_of_ble_eq_true rfl) [1, 2, 3, 4, 5, 6, 7, 0] rfl 30 rfl ?_
  refine z_iconst C 1 dX0_tryParts_30 (by decide) 31 rfl ?_
  refine z_istore C [(0, .ref (a0 99)), (1, .int v1), (2, .int v2), (3, .int u_1), (4, .int u_2), (5, .int u_3), (6, .int u_5), (7, .int 0), (8, .int 1)] dX0_tryParts_31 (Nat.le_of_ble_eq_true rfl) [1, 2, 3, 4, 5, 6, 7, 8, 0] rfl 33 rfl ?_
  obtain ⟨y_11, hl_y_11, h⟩ := Option.bind_eq_some_iff.mp h
  refine z_locals (ks := [0, 2, 3, 4, 5, 6, 7, 8]) rfl (p_X0_tryParts_L33 C S0 v2 u_1 u_2 u_3 u_5 (hD.zaddr rfl) _ _ _ _ _ hl_y_11 ?_)
  exact z_vretW (x := y_11) (ex := ex) (fun z => wX0 T a0 z) C hr dX0_tryParts_106 h rfl

end
/-! StreamTree$Bests.choose (LStreamTree$Chart;III)V -/
section
variable {p : Program} {l : Launch} {e : Env} {R : Room} {s : State} {m : MethodId} {args : Array Value} {below : List Frame} {meth : Method} {c : Code} {Q : State → Prop} {A : Nat → Prop} {D : va_G} {T : Nat → ClassId} {a0 : Nat → Nat} {a1 : Nat → Nat}
theorem in_X0_choose_X1 : ∀ w ∈ u_ws RX1 TX1 10, w ∈ wsX0_choose := fun _ h => (List.mem_cons_of_mem _ (List.mem_append_right _ h))
theorem in_X0_choose_X0 : ∀ w ∈ u_ws RX0 TX0 11, w ∈ wsX0_choose := fun _ h => (List.mem_cons_of_mem _ (List.mem_append_left _ (List.mem_append_right _ h)))
def f_X0_choose_L61b (S1 : Nat → Nat → Int32) (v4 : Int32) (rec : (Int32 × (Nat → Nat → Int32)) → Option ((Nat → Nat → Int32))) (a : Int32 × (Nat → Nat → Int32)) : Option ((Nat → Nat → Int32)) := if (S1 1 0) ≤ a.1 then (some a.2) else ((f_X6_cellOf 1 a.1).bind fun r_15 => (f_X0_tryStep a.2 r_15 0 v4).bind fun r_16 => rec ((a.1 + 1), r_16))
def f_X0_choose_L61 (S1 : Nat → Nat → Int32) (v4 : Int32) : Nat → (Int32 × (Nat → Nat → Int32)) → Option ((Nat → Nat → Int32)) := zloop (fun rec a => f_X0_choose_L61b S1 v4 rec a)
set_option maxHeartbeats 4000000 in
set_option maxRecDepth 100000 in
theorem p_X0_choose_L61 (C : zC p R s m args meth c cX0_choose 7 RX0 wsX0_choose D T 2 51 0 0) (S0 : Nat → Nat → Int32) (S1 : Nat → Nat → Int32) (v4 : Int32) (hD : va_D A (wX0 T a0 S0 ++ wX1 T a1 S1)) : ∀ (n : Nat) (c0 : Int32) (c1 : Nat → Nat → Int32) (b : (Nat → Nat → Int32)), f_X0_choose_L61 S1 v4 n (c0, c1) = some b → (zt p l e R s m args below meth c 7 A D 0 0 Q (wX0 T a0 b ++ wX1 T a1 S1) [] 89 []) → zt p l e R s m args below meth c 7 A D 0 0 Q (wX0 T a0 c1 ++ wX1 T a1 S1) [(0, .ref (a0 99)), (1, .ref (a1 99)), (4, .int v4), (6, .int c0)] 61 [] := by
  intro n c0 c1 b h K
  refine zloop_ind (P := fun a b => (zt p l e R s m args below meth c 7 A D 0 0 Q (wX0 T a0 b ++ wX1 T a1 S1) [] 89 []) → zt p l e R s m args below meth c 7 A D 0 0 Q (wX0 T a0 a.2 ++ wX1 T a1 S1) [(0, .ref (a0 99)), (1, .ref (a1 99)), (4, .int v4), (6, .int a.1)] 61 []) ?_ n (c0, c1) b h K
  clear h K b c0 c1
  intro rec hrec a b h K
  have hrec : ∀ (c0 : Int32) (c1 : Nat → Nat → Int32) (b : (Nat → Nat → Int32)), rec (c0, c1) = some b → (zt p l e R s m args below meth c 7 A D 0 0 Q (wX0 T a0 b ++ wX1 T a1 S1) [] 89 []) → zt p l e R s m args below meth c 7 A D 0 0 Q (wX0 T a0 c1 ++ wX1 T a1 S1) [(0, .ref (a0 99)), (1, .ref (a1 99)), (4, .int v4), (6, .int c0)] 61 [] := fun c0 c1 b h K => hrec (c0, c1) b h K
  unfold f_X0_choose_L61b at h
  refine z_iload C dX0_choose_61 3 rfl 63 rfl ?_
  refine z_aload_n C dX0_choose_63 rfl 1 rfl 64 rfl ?_
  refine z_get C (in_X0_choose_X1) 7 rfl rfl 1 (by decide) (List.mem_of_getElem? (i := 7) rfl) rfl rfl dX0_choose_64 67 rfl ?_
  refine z_icmp_ge C 89 dX0_choose_67 (by decide) 70 rfl h (fun h => ?_) (fun h => ?_)
  · refine z_locals (ks := []) (lv' := []) rfl ?_
    exact zex1 (F := (fun e0 => zt p l e R s m args below meth c 7 A D 0 0 Q (wX0 T a0 e0 ++ wX1 T a1 S1) [] 89 [])) h K
  · refine z_aload_n C dX0_choose_70 rfl 0 rfl 71 rfl ?_
    refine z_iconst C 1 dX0_choose_71 (by decide) 72 rfl ?_
    refine z_iload C dX0_choose_72 3 rfl 74 rfl ?_
    refine z_callR C ([]) (fun v h => c_X6_cellOf l D T    1 a.1 v h) ⟨rfl, rfl⟩ (z_cwN C 2 gX0_choose_X6_cellOf_n46 rfl (List.mem_of_getElem? (i := 8) rfl) (List.mem_of_getElem? (i := 9) rfl) (List.mem_of_getElem? (i := 10) rfl) dd_X6_cellOf ⟨(Nat.le_of_ble_eq_true rfl), (Nat.le_of_ble_eq_true rfl)⟩) (hD.zaddr rfl) [] rfl rfl (fun h => absurd h (by decide)) (fun _ => rfl) rfl (Nat.le_of_ble_eq_true rfl) dX0_choose_74 77 rfl h (fun r_15 h => ?_)
    refine z_iconst C 0 dX0_choose_77 (by decide) 78 rfl ?_
    refine z_iload C dX0_choose_78 2 rfl 80 rfl ?_
    refine z_callV C (wX0 T a0 a.2) (wX1 T a1 S1) (fun z => wX0 T a0 z) (fun z => wX0 T a0 z ++ wX1 T a1 S1) (fun z h => c_X0_tryStep l D T a0  a.2 r_15 0 v4 z h) ⟨rfl, rfl⟩ (z_cwV C 3 gX0_choose_X0_tryStep rfl rfl dd_X0_tryStep ⟨(Nat.le_of_ble_eq_true rfl), (Nat.le_of_ble_eq_true rfl)⟩) (hD.zaddr rfl) [0, 1, 2, 3, 4, 5, 6] [7, 8, 9, 10, 11] [5, 6, 7, 8, 9, 10, 11, 0, 1, 2, 3, 4] rfl rfl rfl (by decide) (fun _ => rfl) (fun _ => ⟨a0 99, [.int r_15, .int 0, .int v4], 0, 0, _, _, rfl, rfl, rfl, rfl, rfl⟩) (fun h => absurd rfl h) rfl (Nat.le_of_ble_eq_true rfl) dX0_choose_80 83 rfl h (fun r_16 h => ?_)
    refine z_iinc C (a.1 + 1) [(0, .ref (a0 99)), (1, .ref (a1 99)), (4, .int v4), (6, .int (a.1 + 1))] dX0_choose_83 3 rfl rfl (Nat.le_of_ble_eq_true rfl) [1, 2, 3, 0] rfl 86 rfl ?_
    refine z_goto C 61 dX0_choose_86 (by decide) ?_
    exact z_locals (ks := [0, 1, 2, 3]) rfl (hrec _ _ _ h K)

def f_X0_choose (S0 : Nat → Nat → Int32) (S1 : Nat → Nat → Int32) (v2 : Int32) (v3 : Int32) (v4 : Int32) : Option ((Nat → Nat → Int32)) := (f_X6_cellOf v2 v3).bind fun r_1 => zlet (zst S0 1 0 1073741824) fun S0_2 => zlet (zst S0_2 2 0 0) fun S0_3 => zlet (zst S0_3 3 0 (-1)) fun S0_4 => zlet (zst S0_4 4 0 (-1)) fun S0_5 => zix r_1 240 fun _ => if v4 = (S0_5 6 (Int32.toNatClampNeg r_1)) then (zlet (zst S0_5 1 0 0) fun S0_18 => some S0_18) else ((f_X0_tryParts S0_5 r_1 v4).bind fun r_6 => if v2 = 0 then ((f_X0_choose_L61 S1 v4 zfuel (0, r_6)).bind fun y_17 => some y_17) else (if (S1 0 0) ≤ v2 then (some r_6) else ((f_X6_cellOf (v2 + 1) v3).bind fun r_7 => (f_X0_tryStep r_6 r_7 0 v4).bind fun r_8 => (f_X1_turnBeside S1 v3 1).bind fun r_9 => (f_X6_cellOf (v2 + 1) r_9).bind fun r_10 => (f_X0_tryStep r_8 r_10 2 v4).bind fun r_11 => (f_X1_turnBeside S1 v3 2).bind fun r_12 => (f_X6_cellOf (v2 + 1) r_12).bind fun r_13 => (f_X0_tryStep r_11 r_13 1 v4).bind fun r_14 => some r_14)))
theorem dd_X0_choose : RX0 ≠ "java/lang/invoke/MethodHandle" ∧ RX0 ≠ "java/lang/invoke/VarHandle" ∧ (parseMethodDescriptor yX0_choose.desc).map (fun d => d.parameters.length) = some 4 := by decide +kernel
set_option maxHeartbeats 4000000 in
set_option maxRecDepth 100000 in
theorem c_X0_choose (l : Launch) (D : va_G) (T : Nat → ClassId) (a0 : Nat → Nat) (a1 : Nat → Nat) (S0 : Nat → Nat → Int32) (S1 : Nat → Nat → Int32) (v2 : Int32) (v3 : Int32) (v4 : Int32) (ex : (Nat → Nat → Int32)) (h : f_X0_choose S0 S1 v2 v3 v4 = some ex) : zWV l yX0_choose wsX0_choose ({ frames := 2, cells := 0, slots := 0, locals := 51 } : Room) D T [.ref (a0 99), .ref (a1 99), .int v2, .int v3, .int v4] (wX0 T a0 S0 ++ wX1 T a1 S1) (wX0 T a0 ex ++ wX1 T a1 S1) := by
  refine z_begin (cc := cX0_choose) (nL := 7) (own := RX0) (fr := 2) (lc := 51) (ret := none) (by decide) rfl (Nat.le_of_ble_eq_true rfl) (zA (wX0 T a0 S0 ++ wX1 T a1 S1)) rfl [(0, .ref (a0 99)), (1, .ref (a1 99)), (2, .int v2), (3, .int v3), (4, .int v4)] rfl ⟨rfl, rfl⟩ rfl ?_
  intro p e s m args below meth c C hr hD
  have hD := hD.zself
  unfold f_X0_choose at h
  refine z_iload_n C dX0_choose_0 rfl 2 rfl 1 rfl ?_
  refine z_iload_n C dX0_choose_1 rfl 3 rfl 2 rfl ?_
  refine z_callR C ([]) (fun v h => c_X6_cellOf l D T    v2 v3 v h) ⟨rfl, rfl⟩ (z_cwN C 2 gX0_choose_X6_cellOf_n46 rfl (List.mem_of_getElem? (i := 8) rfl) (List.mem_of_getElem? (i := 9) rfl) (List.mem_of_getElem? (i := 10) rfl) dd_X6_cellOf ⟨(Nat.le_of_ble_eq_true rfl), (Nat.le_of_ble_eq_true rfl)⟩) (hD.zaddr rfl) [] rfl rfl (fun h => absurd h (by decide)) (fun _ => rfl) rfl (Nat.le_of_ble_eq_true rfl) dX0_choose_2 5 rfl h (fun r_1 h => ?_)
  refine z_istore C [(0, .ref (a0 99)), (1, .ref (a1 99)), (2, .int v2), (3, .int v3), (4, .int v4), (5, .int r_1)] dX0_choose_5 (Nat.le_of_ble_eq_true rfl) [1, 2, 3, 4, 5, 0] rfl 7 rfl ?_
  refine z_aload_n C dX0_choose_7 rfl 0 rfl 8 rfl ?_
  refine z_ldc C 1073741824 (List.mem_of_getElem? (i := 1) rfl) dX0_choose_8 10 rfl ?_
  refine z_put (ty := .int) C (fun z => wX0 T a0 z ++ wX1 T a1 S1) S0 (hD.zaddr rfl) (in_X0_choose_X0) tyX0 tyX0_ok nmX0 0 rfl rfl 1 (by decide) (List.mem_of_getElem? (i := 2) rfl) rfl rfl (by decide +kernel) rfl rfl (Nat.le_of_ble_eq_true rfl) rfl dX0_choose_10 13 rfl h (fun S0_2 h => ?_)
  refine z_aload_n C dX0_choose_13 rfl 0 rfl 14 rfl ?_
  refine z_iconst C 0 dX0_choose_14 (by decide) 15 rfl ?_
  refine z_put (ty := .int) C (fun z => wX0 T a0 z ++ wX1 T a1 S1) S0_2 (hD.zaddr rfl) (in_X0_choose_X0) tyX0 tyX0_ok nmX0 0 rfl rfl 2 (by decide) (List.mem_of_getElem? (i := 3) rfl) rfl rfl (by decide +kernel) rfl rfl (Nat.le_of_ble_eq_true rfl) rfl dX0_choose_15 18 rfl h (fun S0_3 h => ?_)
  refine z_aload_n C dX0_choose_18 rfl 0 rfl 19 rfl ?_
  refine z_iconst C (-1) dX0_choose_19 (by decide) 20 rfl ?_
  refine z_put (ty := .int) C (fun z => wX0 T a0 z ++ wX1 T a1 S1) S0_3 (hD.zaddr rfl) (in_X0_choose_X0) tyX0 tyX0_ok nmX0 0 rfl rfl 3 (by decide) (List.mem_of_getElem? (i := 4) rfl) rfl rfl (by decide +kernel) rfl rfl (Nat.le_of_ble_eq_true rfl) rfl dX0_choose_20 23 rfl h (fun S0_4 h => ?_)
  refine z_aload_n C dX0_choose_23 rfl 0 rfl 24 rfl ?_
  refine z_iconst C (-1) dX0_choose_24 (by decide) 25 rfl ?_
  refine z_put (ty := .int) C (fun z => wX0 T a0 z ++ wX1 T a1 S1) S0_4 (hD.zaddr rfl) (in_X0_choose_X0) tyX0 tyX0_ok nmX0 0 rfl rfl 4 (by decide) (List.mem_of_getElem? (i := 5) rfl) rfl rfl (by decide +kernel) rfl rfl (Nat.le_of_ble_eq_true rfl) rfl dX0_choose_25 28 rfl h (fun S0_5 h => ?_)
  refine z_iload C dX0_choose_28 4 rfl 30 rfl ?_
  refine z_aload_n C dX0_choose_30 rfl 0 rfl 31 rfl ?_
  refine z_get C (in_X0_choose_X0) 0 rfl rfl 6 (by decide) (List.mem_of_getElem? (i := 6) rfl) rfl rfl dX0_choose_31 34 rfl ?_
  refine z_iload C dX0_choose_34 5 rfl 36 rfl ?_
  refine z_iald C 2 rfl rfl dX0_choose_36 37 rfl h (fun h => ?_)
  refine z_icmp_ne C 46 dX0_choose_37 (by decide) 40 rfl h (fun h => ?_) (fun h => ?_)
  · refine z_aload_n C dX0_choose_46 rfl 0 rfl 47 rfl ?_
    refine z_iload C dX0_choose_47 5 rfl 49 rfl ?_
    refine z_iload C dX0_choose_49 4 rfl 51 rfl ?_
    refine z_callV C (wX0 T a0 S0_5) (wX1 T a1 S1) (fun z => wX0 T a0 z) (fun z => wX0 T a0 z ++ wX1 T a1 S1) (fun z h => c_X0_tryParts l D T a0  S0_5 r_1 v4 z h) ⟨rfl, rfl⟩ (z_cwV C 2 gX0_choose_X0_tryParts rfl rfl dd_X0_tryParts ⟨(Nat.le_of_ble_eq_true rfl), (Nat.le_of_ble_eq_true rfl)⟩) (hD.zaddr rfl) [0, 1, 2, 3, 4, 5, 6] [7, 8, 9, 10, 11] [5, 6, 7, 8, 9, 10, 11, 0, 1, 2, 3, 4] rfl rfl rfl (by decide) (fun _ => rfl) (fun _ => ⟨a0 99, [.int r_1, .int v4], 0, 0, _, _, rfl, rfl, rfl, rfl, rfl⟩) (fun h => absurd rfl h) rfl (Nat.le_of_ble_eq_true rfl) dX0_choose_51 54 rfl h (fun r_6 h => ?_)
    refine z_iload_n C dX0_choose_54 rfl 2 rfl 55 rfl ?_
    refine z_if_ne C 92 dX0_choose_55 (by decide) 58 rfl h (fun h => ?_) (fun h => ?_)
    · refine z_iload_n C dX0_choose_92 rfl 2 rfl 93 rfl ?_
      refine z_aload_n C dX0_choose_93 rfl 1 rfl 94 rfl ?_
      refine z_get C (in_X0_choose_X1) 7 rfl rfl 0 (by decide) (List.mem_of_getElem? (i := 8) rfl) rfl rfl dX0_choose_94 97 rfl ?_
      refine z_icmp_ge C 152 dX0_choose_97 (by decide) 100 rfl h (fun h => ?_) (fun h => ?_)
      · exact z_vretW (x := r_6) (ex := ex) (fun z => wX0 T a0 z ++ wX1 T a1 S1) C hr dX0_choose_152 h rfl
      · refine z_aload_n C dX0_choose_100 rfl 0 rfl 101 rfl ?_
        refine z_iload_n C dX0_choose_101 rfl 2 rfl 102 rfl ?_
        refine z_iconst C 1 dX0_choose_102 (by decide) 103 rfl ?_
        refine z_iadd C dX0_choose_103 104 rfl ?_
        refine z_iload_n C dX0_choose_104 rfl 3 rfl 105 rfl ?_
        refine z_callR C ([]) (fun v h => c_X6_cellOf l D T    (v2 + 1) v3 v h) ⟨rfl, rfl⟩ (z_cwN C 2 gX0_choose_X6_cellOf_n46 rfl (List.mem_of_getElem? (i := 8) rfl) (List.mem_of_getElem? (i := 9) rfl) (List.mem_of_getElem? (i := 10) rfl) dd_X6_cellOf ⟨(Nat.le_of_ble_eq_true rfl), (Nat.le_of_ble_eq_true rfl)⟩) (hD.zaddr rfl) [] rfl rfl (fun h => absurd h (by decide)) (fun _ => rfl) rfl (Nat.le_of_ble_eq_true rfl) dX0_choose_105 108 rfl h (fun r_7 h => ?_)
        refine z_iconst C 0 dX0_choose_108 (by decide) 109 rfl ?_
        refine z_iload C dX0_choose_109 4 rfl 111 rfl ?_
        refine z_callV C (wX0 T a0 r_6) (wX1 T a1 S1) (fun z => wX0 T a0 z) (fun z => wX0 T a0 z ++ wX1 T a1 S1) (fun z h => c_X0_tryStep l D T a0  r_6 r_7 0 v4 z h) ⟨rfl, rfl⟩ (z_cwV C 3 gX0_choose_X0_tryStep rfl rfl dd_X0_tryStep ⟨(Nat.le_of_ble_eq_true rfl), (Nat.le_of_ble_eq_true rfl)⟩) (hD.zaddr rfl) [0, 1, 2, 3, 4, 5, 6] [7, 8, 9, 10, 11] [5, 6, 7, 8, 9, 10, 11, 0, 1, 2, 3, 4] rfl rfl rfl (by decide) (fun _ => rfl) (fun _ => ⟨a0 99, [.int r_7, .int 0, .int v4], 0, 0, _, _, rfl, rfl, rfl, rfl, rfl⟩) (fun h => absurd rfl h) rfl (Nat.le_of_ble_eq_true rfl) dX0_choose_111 114 rfl h (fun r_8 h => ?_)
        refine z_aload_n C dX0_choose_114 rfl 0 rfl 115 rfl ?_
        refine z_iload_n C dX0_choose_115 rfl 2 rfl 116 rfl ?_
        refine z_iconst C 1 dX0_choose_116 (by decide) 117 rfl ?_
        refine z_iadd C dX0_choose_117 118 rfl ?_
        refine z_aload_n C dX0_choose_118 rfl 1 rfl 119 rfl ?_
        refine z_iload_n C dX0_choose_119 rfl 3 rfl 120 rfl ?_
        refine z_iconst C 1 dX0_choose_120 (by decide) 121 rfl ?_
        refine z_callR C (wX1 T a1 S1) (fun v h => c_X1_turnBeside l D T a1  S1 v3 1 v h) ⟨rfl, rfl⟩ (z_cwV C 2 gX0_choose_X1_turnBeside rfl rfl dd_X1_turnBeside ⟨(Nat.le_of_ble_eq_true rfl), (Nat.le_of_ble_eq_true rfl)⟩) (hD.zaddr rfl) [7, 8, 9, 10, 11] rfl rfl (fun _ => ⟨a1 99, [.int v3, .int 1], 1, 0, _, _, rfl, rfl, rfl, rfl, rfl⟩) (fun h => absurd rfl h) rfl (Nat.le_of_ble_eq_true rfl) dX0_choose_121 124 rfl h (fun r_9 h => ?_)
        refine z_callR C ([]) (fun v h => c_X6_cellOf l D T    (v2 + 1) r_9 v h) ⟨rfl, rfl⟩ (z_cwN C 2 gX0_choose_X6_cellOf_n46 rfl (List.mem_of_getElem? (i := 8) rfl) (List.mem_of_getElem? (i := 9) rfl) (List.mem_of_getElem? (i := 10) rfl) dd_X6_cellOf ⟨(Nat.le_of_ble_eq_true rfl), (Nat.le_of_ble_eq_true rfl)⟩) (hD.zaddr rfl) [] rfl rfl (fun h => absurd h (by decide)) (fun _ => rfl) rfl (Nat.le_of_ble_eq_true rfl) dX0_choose_124 127 rfl h (fun r_10 h => ?_)
        refine z_iconst C 2 dX0_choose_127 (by decide) 128 rfl ?_
        refine z_iload C dX0_choose_128 4 rfl 130 rfl ?_
        refine z_callV C (wX0 T a0 r_8) (wX1 T a1 S1) (fun z => wX0 T a0 z) (fun z => wX0 T a0 z ++ wX1 T a1 S1) (fun z h => c_X0_tryStep l D T a0  r_8 r_10 2 v4 z h) ⟨rfl, rfl⟩ (z_cwV C 3 gX0_choose_X0_tryStep rfl rfl dd_X0_tryStep ⟨(Nat.le_of_ble_eq_true rfl), (Nat.le_of_ble_eq_true rfl)⟩) (hD.zaddr rfl) [0, 1, 2, 3, 4, 5, 6] [7, 8, 9, 10, 11] [5, 6, 7, 8, 9, 10, 11, 0, 1, 2, 3, 4] rfl rfl rfl (by decide) (fun _ => rfl) (fun _ => ⟨a0 99, [.int r_10, .int 2, .int v4], 0, 0, _, _, rfl, rfl, rfl, rfl, rfl⟩) (fun h => absurd rfl h) rfl (Nat.le_of_ble_eq_true rfl) dX0_choose_130 133 rfl h (fun r_11 h => ?_)
        refine z_aload_n C dX0_choose_133 rfl 0 rfl 134 rfl ?_
        refine z_iload_n C dX0_choose_134 rfl 2 rfl 135 rfl ?_
        refine z_iconst C 1 dX0_choose_135 (by decide) 136 rfl ?_
        refine z_iadd C dX0_choose_136 137 rfl ?_
        refine z_aload_n C dX0_choose_137 rfl 1 rfl 138 rfl ?_
        refine z_iload_n C dX0_choose_138 rfl 3 rfl 139 rfl ?_
        refine z_iconst C 2 dX0_choose_139 (by decide) 140 rfl ?_
        refine z_callR C (wX1 T a1 S1) (fun v h => c_X1_turnBeside l D T a1  S1 v3 2 v h) ⟨rfl, rfl⟩ (z_cwV C 2 gX0_choose_X1_turnBeside rfl rfl dd_X1_turnBeside ⟨(Nat.le_of_ble_eq_true rfl), (Nat.le_of_ble_eq_true rfl)⟩) (hD.zaddr rfl) [7, 8, 9, 10, 11] rfl rfl (fun _ => ⟨a1 99, [.int v3, .int 2], 1, 0, _, _, rfl, rfl, rfl, rfl, rfl⟩) (fun h => absurd rfl h) rfl (Nat.le_of_ble_eq_true rfl) dX0_choose_140 143 rfl h (fun r_12 h => ?_)
        refine z_callR C ([]) (fun v h => c_X6_cellOf l D T    (v2 + 1) r_12 v h) ⟨rfl, rfl⟩ (z_cwN C 2 gX0_choose_X6_cellOf_n46 rfl (List.mem_of_getElem? (i := 8) rfl) (List.mem_of_getElem? (i := 9) rfl) (List.mem_of_getElem? (i := 10) rfl) dd_X6_cellOf ⟨(Nat.le_of_ble_eq_true rfl), (Nat.le_of_ble_eq_true rfl)⟩) (hD.zaddr rfl) [] rfl rfl (fun h => absurd h (by decide)) (fun _ => rfl) rfl (Nat.le_of_ble_eq_true rfl) dX0_choose_143 146 rfl h (fun r_13 h => ?_)
        refine z_iconst C 1 dX0_choose_146 (by decide) 147 rfl ?_
        refine z_iload C dX0_choose_147 4 rfl 149 rfl ?_
        refine z_callV C (wX0 T a0 r_11) (wX1 T a1 S1) (fun z => wX0 T a0 z) (fun z => wX0 T a0 z ++ wX1 T a1 S1) (fun z h => c_X0_tryStep l D T a0  r_11 r_13 1 v4 z h) ⟨rfl, rfl⟩ (z_cwV C 3 gX0_choose_X0_tryStep rfl rfl dd_X0_tryStep ⟨(Nat.le_of_ble_eq_true rfl), (Nat.le_of_ble_eq_true rfl)⟩) (hD.zaddr rfl) [0, 1, 2, 3, 4, 5, 6] [7, 8, 9, 10, 11] [5, 6, 7, 8, 9, 10, 11, 0, 1, 2, 3, 4] rfl rfl rfl (by decide) (fun _ => rfl) (fun _ => ⟨a0 99, [.int r_13, .int 1, .int v4], 0, 0, _, _, rfl, rfl, rfl, rfl, rfl⟩) (fun h => absurd rfl h) rfl (Nat.le_of_ble_eq_true rfl) dX0_choose_149 152 rfl h (fun r_14 h => ?_)
        exact z_vretW (x := r_14) (ex := ex) (fun z => wX0 T a0 z ++ wX1 T a1 S1) C hr dX0_choose_152 h rfl
    · refine z_iconst C 0 dX0_choose_58 (by decide) 59 rfl ?_
      refine z_istore C [(0, .ref (a0 99)), (1, .ref (a1 99)), (2, .int v2), (3, .int v3), (4, .int v4), (5, .int r_1), (6, .int 0)] dX0_choose_59 (Nat.le_of_ble_eq_true rfl) [1, 2, 3, 4, 5, 6, 0] rfl 61 rfl ?_
      obtain ⟨y_17, hl_y_17, h⟩ := Option.bind_eq_some_iff.mp h
      refine z_locals (ks := [0, 1, 4, 6]) rfl (p_X0_choose_L61 C r_6 S1 v4 (hD.zaddr rfl) _ _ _ _ hl_y_17 ?_)
      refine z_goto C 152 dX0_choose_89 (by decide) ?_
      exact z_vretW (x := y_17) (ex := ex) (fun z => wX0 T a0 z ++ wX1 T a1 S1) C hr dX0_choose_152 h rfl
  · refine z_aload_n C dX0_choose_40 rfl 0 rfl 41 rfl ?_
    refine z_iconst C 0 dX0_choose_41 (by decide) 42 rfl ?_
    refine z_put (ty := .int) C (fun z => wX0 T a0 z ++ wX1 T a1 S1) S0_5 (hD.zaddr rfl) (in_X0_choose_X0) tyX0 tyX0_ok nmX0 0 rfl rfl 1 (by decide) (List.mem_of_getElem? (i := 2) rfl) rfl rfl (by decide +kernel) rfl rfl (Nat.le_of_ble_eq_true rfl) rfl dX0_choose_42 45 rfl h (fun S0_18 h => ?_)
    exact z_vretW (x := S0_18) (ex := ex) (fun z => wX0 T a0 z ++ wX1 T a1 S1) C hr dX0_choose_45 h rfl

end
/-! StreamTree$Bests.fillCell (LStreamTree$Chart;II)V -/
section
variable {p : Program} {l : Launch} {e : Env} {R : Room} {s : State} {m : MethodId} {args : Array Value} {below : List Frame} {meth : Method} {c : Code} {Q : State → Prop} {A : Nat → Prop} {D : va_G} {T : Nat → ClassId} {a0 : Nat → Nat} {a1 : Nat → Nat}
theorem in_X0_fillCell_X0 : ∀ w ∈ u_ws RX0 TX0 11, w ∈ wsX0_fillCell := fun _ h => (List.mem_cons_of_mem _ (List.mem_append_left _ (List.mem_append_right _ h)))
def f_X0_fillCell_L27b (S1 : Nat → Nat → Int32) (v2 : Int32) (v3 : Int32) (v4 : Int32) (v5 : Int32) (rec : (Int32 × Int32 × (Nat → Nat → Int32)) → Option ((Nat → Nat → Int32))) (a : Int32 × Int32 × (Nat → Nat → Int32)) : Option ((Nat → Nat → Int32)) := if v5 ≤ a.2.1 then (some a.2.2) else (zix v4 240 fun _ => (f_X0_nextSubset a.1 (a.2.2 5 (Int32.toNatClampNeg v4))).bind fun r_4 => (f_X0_choose a.2.2 S1 v2 v3 r_4).bind fun r_5 => zix ((v4 * 128) + r_4) 30720 fun j => zlet (zst r_5 7 j (r_5 1 0)) fun S0_6 => rec (r_4, (a.2.1 + 1), S0_6))
def f_X0_fillCell_L27 (S1 : Nat → Nat → Int32) (v2 : Int32) (v3 : Int32) (v4 : Int32) (v5 : Int32) : Nat → (Int32 × Int32 × (Nat → Nat → Int32)) → Option ((Nat → Nat → Int32)) := zloop (fun rec a => f_X0_fillCell_L27b S1 v2 v3 v4 v5 rec a)
set_option maxHeartbeats 4000000 in
set_option maxRecDepth 100000 in
theorem p_X0_fillCell_L27 (C : zC p R s m args meth c cX0_fillCell 8 RX0 wsX0_fillCell D T 3 77 0 0) (S0 : Nat → Nat → Int32) (S1 : Nat → Nat → Int32) (v2 : Int32) (v3 : Int32) (v4 : Int32) (v5 : Int32) (hD : va_D A (wX0 T a0 S0 ++ wX1 T a1 S1)) : ∀ (n : Nat) (c0 : Int32) (c1 : Int32) (c2 : Nat → Nat → Int32) (b : (Nat → Nat → Int32)), f_X0_fillCell_L27 S1 v2 v3 v4 v5 n (c0, c1, c2) = some b → (zt p l e R s m args below meth c 8 A D 0 0 Q (wX0 T a0 b ++ wX1 T a1 S1) [] 81 []) → zt p l e R s m args below meth c 8 A D 0 0 Q (wX0 T a0 c2 ++ wX1 T a1 S1) [(0, .ref (a0 99)), (1, .ref (a1 99)), (2, .int v2), (3, .int v3), (4, .int v4), (5, .int v5), (6, .int c0), (7, .int c1)] 27 [] := by
  intro n c0 c1 c2 b h K
  refine zloop_ind (P := fun a b => (zt p l e R s m args below meth c 8 A D 0 0 Q (wX0 T a0 b ++ wX1 T a1 S1) [] 81 []) → zt p l e R s m args below meth c 8 A D 0 0 Q (wX0 T a0 a.2.2 ++ wX1 T a1 S1) [(0, .ref (a0 99)), (1, .ref (a1 99)), (2, .int v2), (3, .int v3), (4, .int v4), (5, .int v5), (6, .int a.1), (7, .int a.2.1)] 27 []) ?_ n (c0, c1, c2) b h K
  clear h K b c0 c1 c2
  intro rec hrec a b h K
  have hrec : ∀ (c0 : Int32) (c1 : Int32) (c2 : Nat → Nat → Int32) (b : (Nat → Nat → Int32)), rec (c0, c1, c2) = some b → (zt p l e R s m args below meth c 8 A D 0 0 Q (wX0 T a0 b ++ wX1 T a1 S1) [] 81 []) → zt p l e R s m args below meth c 8 A D 0 0 Q (wX0 T a0 c2 ++ wX1 T a1 S1) [(0, .ref (a0 99)), (1, .ref (a1 99)), (2, .int v2), (3, .int v3), (4, .int v4), (5, .int v5), (6, .int c0), (7, .int c1)] 27 [] := fun c0 c1 c2 b h K => hrec (c0, c1, c2) b h K
  unfold f_X0_fillCell_L27b at h
  refine z_iload C dX0_fillCell_27 7 rfl 29 rfl ?_
  refine z_iload C dX0_fillCell_29 5 rfl 31 rfl ?_
  refine z_icmp_ge C 81 dX0_fillCell_31 (by decide) 34 rfl h (fun h => ?_) (fun h => ?_)
  · refine z_locals (ks := []) (lv' := []) rfl ?_
    exact zex1 (F := (fun e0 => zt p l e R s m args below meth c 8 A D 0 0 Q (wX0 T a0 e0 ++ wX1 T a1 S1) [] 81 [])) h K
  · refine z_iload C dX0_fillCell_34 6 rfl 36 rfl ?_
    refine z_aload_n C dX0_fillCell_36 rfl 0 rfl 37 rfl ?_
    refine z_get C (in_X0_fillCell_X0) 0 rfl rfl 5 (by decide) (List.mem_of_getElem? (i := 1) rfl) rfl rfl dX0_fillCell_37 40 rfl ?_
    refine z_iload C dX0_fillCell_40 4 rfl 42 rfl ?_
    refine z_iald C 1 rfl rfl dX0_fillCell_42 43 rfl h (fun h => ?_)
    refine z_callR C ([]) (fun v h => c_X0_nextSubset l D T    a.1 (a.2.2 5 (Int32.toNatClampNeg v4)) v h) ⟨rfl, rfl⟩ (z_cwS C 2 gX0_fillCell_X0_nextSubset rfl dd_X0_nextSubset ⟨(Nat.le_of_ble_eq_true rfl), (Nat.le_of_ble_eq_true rfl)⟩) (hD.zaddr rfl) [] rfl rfl (fun h => absurd h (by decide)) (fun _ => rfl) rfl (Nat.le_of_ble_eq_true rfl) dX0_fillCell_43 46 rfl h (fun r_4 h => ?_)
    refine z_istore C [(0, .ref (a0 99)), (1, .ref (a1 99)), (2, .int v2), (3, .int v3), (4, .int v4), (5, .int v5), (6, .int r_4), (7, .int a.2.1)] dX0_fillCell_46 (Nat.le_of_ble_eq_true rfl) [1, 2, 3, 4, 5, 6, 0, 7] rfl 48 rfl ?_
    refine z_aload_n C dX0_fillCell_48 rfl 0 rfl 49 rfl ?_
    refine z_aload_n C dX0_fillCell_49 rfl 1 rfl 50 rfl ?_
    refine z_iload_n C dX0_fillCell_50 rfl 2 rfl 51 rfl ?_
    refine z_iload_n C dX0_fillCell_51 rfl 3 rfl 52 rfl ?_
    refine z_iload C dX0_fillCell_52 6 rfl 54 rfl ?_
    refine z_callV C (wX0 T a0 a.2.2 ++ wX1 T a1 S1) (([] : va_W)) (fun z => wX0 T a0 z ++ wX1 T a1 S1) (fun z => wX0 T a0 z ++ wX1 T a1 S1) (fun z h => c_X0_choose l D T a0 a1  a.2.2 S1 v2 v3 r_4 z h) ⟨rfl, rfl⟩ (z_cwV C 4 gX0_fillCell_X0_choose rfl rfl dd_X0_choose ⟨(Nat.le_of_ble_eq_true rfl), (Nat.le_of_ble_eq_true rfl)⟩) (hD.zaddr rfl) [0, 1, 2, 3, 4, 5, 6, 7, 8, 9, 10, 11] [] [0, 1, 2, 3, 4, 5, 6, 7, 8, 9, 10, 11] rfl rfl rfl (by decide) (fun _ => rfl) (fun _ => ⟨a0 99, [.ref (a1 99), .int v2, .int v3, .int r_4], 0, 0, _, _, rfl, rfl, rfl, rfl, rfl⟩) (fun h => absurd rfl h) rfl (Nat.le_of_ble_eq_true rfl) dX0_fillCell_54 57 rfl h (fun r_5 h => ?_)
    refine z_aload_n C dX0_fillCell_57 rfl 0 rfl 58 rfl ?_
    refine z_get C (in_X0_fillCell_X0) 0 rfl rfl 7 (by decide) (List.mem_of_getElem? (i := 2) rfl) rfl rfl dX0_fillCell_58 61 rfl ?_
    refine z_iload C dX0_fillCell_61 4 rfl 63 rfl ?_
    refine z_sipush C 128 dX0_fillCell_63 (by decide) 66 rfl ?_
    refine z_imul C dX0_fillCell_66 67 rfl ?_
    refine z_iload C dX0_fillCell_67 6 rfl 69 rfl ?_
    refine z_iadd C dX0_fillCell_69 70 rfl ?_
    refine z_aload_n C dX0_fillCell_70 rfl 0 rfl 71 rfl ?_
    refine z_get C (in_X0_fillCell_X0) 0 rfl rfl 1 (by decide) (List.mem_of_getElem? (i := 3) rfl) rfl rfl dX0_fillCell_71 74 rfl ?_
    refine z_iast C (fun z => wX0 T a0 z ++ wX1 T a1 S1) r_5 7 (hD.zaddr rfl) 3 rfl rfl (fun _ => rfl) dX0_fillCell_74 75 rfl h (fun S0_6 h => ?_)
    refine z_iinc C (a.2.1 + 1) [(0, .ref (a0 99)), (1, .ref (a1 99)), (2, .int v2), (3, .int v3), (4, .int v4), (5, .int v5), (6, .int r_4), (7, .int (a.2.1 + 1))] dX0_fillCell_75 7 rfl rfl (Nat.le_of_ble_eq_true rfl) [1, 2, 3, 4, 5, 6, 7, 0] rfl 78 rfl ?_
    refine z_goto C 27 dX0_fillCell_78 (by decide) ?_
    exact z_locals (ks := [0, 1, 2, 3, 4, 5, 6, 7]) rfl (hrec _ _ _ _ h K)

def f_X0_fillCell (S0 : Nat → Nat → Int32) (S1 : Nat → Nat → Int32) (v2 : Int32) (v3 : Int32) : Option ((Nat → Nat → Int32)) := (f_X6_cellOf v2 v3).bind fun r_1 => zix r_1 240 fun _ => (f_J6_bitCount_0f7a4 (S0 5 (Int32.toNatClampNeg r_1))).bind fun r_2 => zlet (1 <<< (r_2 &&& 31)) fun u_3 => (f_X0_fillCell_L27 S1 v2 v3 r_1 u_3 zfuel (0, 1, S0)).bind fun y_7 => some y_7
theorem dd_X0_fillCell : RX0 ≠ "java/lang/invoke/MethodHandle" ∧ RX0 ≠ "java/lang/invoke/VarHandle" ∧ (parseMethodDescriptor yX0_fillCell.desc).map (fun d => d.parameters.length) = some 3 := by decide +kernel
set_option maxHeartbeats 4000000 in
set_option maxRecDepth 100000 in
theorem c_X0_fillCell (l : Launch) (D : va_G) (T : Nat → ClassId) (a0 : Nat → Nat) (a1 : Nat → Nat) (S0 : Nat → Nat → Int32) (S1 : Nat → Nat → Int32) (v2 : Int32) (v3 : Int32) (ex : (Nat → Nat → Int32)) (h : f_X0_fillCell S0 S1 v2 v3 = some ex) : zWV l yX0_fillCell wsX0_fillCell ({ frames := 3, cells := 0, slots := 0, locals := 77 } : Room) D T [.ref (a0 99), .ref (a1 99), .int v2, .int v3] (wX0 T a0 S0 ++ wX1 T a1 S1) (wX0 T a0 ex ++ wX1 T a1 S1) := by
  refine z_begin (cc := cX0_fillCell) (nL := 8) (own := RX0) (fr := 3) (lc := 77) (ret := none) (by decide) rfl (Nat.le_of_ble_eq_true rfl) (zA (wX0 T a0 S0 ++ wX1 T a1 S1)) rfl [(0, .ref (a0 99)), (1, .ref (a1 99)), (2, .int v2), (3, .int v3)] rfl ⟨rfl, rfl⟩ rfl ?_
  intro p e s m args below meth c C hr hD
  have hD := hD.zself
  unfold f_X0_fillCell at h
  refine z_iload_n C dX0_fillCell_0 rfl 2 rfl 1 rfl ?_
  refine z_iload_n C dX0_fillCell_1 rfl 3 rfl 2 rfl ?_
  refine z_callR C ([]) (fun v h => c_X6_cellOf l D T    v2 v3 v h) ⟨rfl, rfl⟩ (z_cwN C 2 gX0_fillCell_X6_cellOf_n46 rfl (List.mem_of_getElem? (i := 8) rfl) (List.mem_of_getElem? (i := 4) rfl) (List.mem_of_getElem? (i := 5) rfl) dd_X6_cellOf ⟨(Nat.le_of_ble_eq_true rfl), (Nat.le_of_ble_eq_true rfl)⟩) (hD.zaddr rfl) [] rfl rfl (fun h => absurd h (by decide)) (fun _ => rfl) rfl (Nat.le_of_ble_eq_true rfl) dX0_fillCell_2 5 rfl h (fun r_1 h => ?_)
  refine z_istore C [(0, .ref (a0 99)), (1, .ref (a1 99)), (2, .int v2), (3, .int v3), (4, .int r_1)] dX0_fillCell_5 (Nat.le_of_ble_eq_true rfl) [1, 2, 3, 4, 0] rfl 7 rfl ?_
  refine z_iconst C 1 dX0_fillCell_7 (by decide) 8 rfl ?_
  refine z_aload_n C dX0_fillCell_8 rfl 0 rfl 9 rfl ?_
  refine z_get C (in_X0_fillCell_X0) 0 rfl rfl 5 (by decide) (List.mem_of_getElem? (i := 1) rfl) rfl rfl dX0_fillCell_9 12 rfl ?_
  refine z_iload C dX0_fillCell_12 4 rfl 14 rfl ?_
  refine z_iald C 1 rfl rfl dX0_fillCell_14 15 rfl h (fun h => ?_)
  refine z_callR C ([]) (fun v h => c_J6_bitCount_0f7a4 l D T    (S0 5 (Int32.toNatClampNeg r_1)) v h) ⟨rfl, rfl⟩ (z_cwS C 1 gX0_fillCell_J6_bitCount_0f7a4 rfl dd_J6_bitCount_0f7a4 ⟨(Nat.le_of_ble_eq_true rfl), (Nat.le_of_ble_eq_true rfl)⟩) (hD.zaddr rfl) [] rfl rfl (fun h => absurd h (by decide)) (fun _ => rfl) rfl (Nat.le_of_ble_eq_true rfl) dX0_fillCell_15 18 rfl h (fun r_2 h => ?_)
  refine z_ishl C dX0_fillCell_18 19 rfl ?_
  refine z_top h (fun u_3 h => ?_)
  refine z_istore C [(0, .ref (a0 99)), (1, .ref (a1 99)), (2, .int v2), (3, .int v3), (4, .int r_1), (5, .int u_3)] dX0_fillCell_19 (Nat.le_of_ble_eq_true rfl) [1, 2, 3, 4, 5, 0] rfl 21 rfl ?_
  refine z_iconst C 0 dX0_fillCell_21 (by decide) 22 rfl ?_
  refine z_istore C [(0, .ref (a0 99)), (1, .ref (a1 99)), (2, .int v2), (3, .int v3), (4, .int r_1), (5, .int u_3), (6, .int 0)] dX0_fillCell_22 (Nat.le_of_ble_eq_true rfl) [1, 2, 3, 4, 5, 6, 0] rfl 24 rfl ?_
  refine z_iconst C 1 dX0_fillCell_24 (by decide) 25 rfl ?_
  refine z_istore C [(0, .ref (a0 99)), (1, .ref (a1 99)), (2, .int v2), (3, .int v3), (4, .int r_1), (5, .int u_3), (6, .int 0), (7, .int 1)] dX0_fillCell_25 (Nat.le_of_ble_eq_true rfl) [1, 2, 3, 4, 5, 6, 7, 0] rfl 27 rfl ?_
  obtain ⟨y_7, hl_y_7, h⟩ := Option.bind_eq_some_iff.mp h
  refine z_locals (ks := [0, 1, 2, 3, 4, 5, 6, 7]) rfl (p_X0_fillCell_L27 C S0 S1 v2 v3 r_1 u_3 (hD.zaddr rfl) _ _ _ _ _ hl_y_7 ?_)
  exact z_vretW (x := y_7) (ex := ex) (fun z => wX0 T a0 z ++ wX1 T a1 S1) C hr dX0_fillCell_81 h rfl

end
/-! StreamTree$Bests.unfold (LStreamTree$Chart;LStreamTree$Tree;II)V -/
section
variable {p : Program} {l : Launch} {e : Env} {R : Room} {s : State} {m : MethodId} {args : Array Value} {below : List Frame} {meth : Method} {c : Code} {Q : State → Prop} {A : Nat → Prop} {D : va_G} {T : Nat → ClassId} {a0 : Nat → Nat} {a1 : Nat → Nat} {a2 : Nat → Nat}
theorem in_X0_unfold_X5 : ∀ w ∈ u_ws RX5 TX5 5, w ∈ wsX0_unfold := fun _ h => (List.mem_cons_of_mem _ (List.mem_append_left _ (List.mem_append_right _ h)))
theorem in_X0_unfold_X0 : ∀ w ∈ u_ws RX0 TX0 11, w ∈ wsX0_unfold := fun _ h => (List.mem_cons_of_mem _ (List.mem_append_left _ (List.mem_append_left _ (List.mem_append_right _ h))))
def f_X0_unfold_J154 (rec : (Int32 × Int32 × (Nat → Nat → Int32) × (Nat → Nat → Int32)) → Option ((Nat → Nat → Int32) × (Nat → Nat → Int32))) (S0 : Nat → Nat → Int32) (S1 : Nat → Nat → Int32) (S2 : Nat → Nat → Int32) (v3 : Int32) (v4 : Int32) (x5 : Int32) (x6 : Int32)  : Option ((Nat → Nat → Int32) × (Nat → Nat → Int32)) := rec (x5, (x6 + 1), S0, S2)
set_option maxHeartbeats 4000000 in
set_option maxRecDepth 100000 in
theorem p_X0_unfold_J154 (C : zC p R s m args meth c cX0_unfold 8 RX0 wsX0_unfold D T 3 77 0 0) (S0 : Nat → Nat → Int32) (S1 : Nat → Nat → Int32) (S2 : Nat → Nat → Int32) {v3 : Int32} {v4 : Int32} (x5 : Int32) (x6 : Int32)  (hD : va_D A (wX0 T a0 S0 ++ (wX1 T a1 S1 ++ wX5 T a2 S2))) {rec : (Int32 × Int32 × (Nat → Nat → Int32) × (Nat → Nat → Int32)) → Option ((Nat → Nat → Int32) × (Nat → Nat → Int32))} (hrec : ∀ (c0 : Int32) (c1 : Int32) (c2 : Nat → Nat → Int32) (c3 : Nat → Nat → Int32) (b : (Nat → Nat → Int32) × (Nat → Nat → Int32)), rec (c0, c1, c2, c3) = some b → (zt p l e R s m args below meth c 8 A D 0 0 Q (wX0 T a0 b.1 ++ (wX1 T a1 S1 ++ wX5 T a2 b.2)) [] 160 []) → zt p l e R s m args below meth c 8 A D 0 0 Q (wX0 T a0 c2 ++ (wX1 T a1 S1 ++ wX5 T a2 c3)) [(0, .ref (a0 99)), (1, .ref (a1 99)), (2, .ref (a2 99)), (3, .int v3), (4, .int v4), (5, .int c0), (6, .int c1)] 36 []) {b : (Nat → Nat → Int32) × (Nat → Nat → Int32)} (K : zt p l e R s m args below meth c 8 A D 0 0 Q (wX0 T a0 b.1 ++ (wX1 T a1 S1 ++ wX5 T a2 b.2)) [] 160 []) (h : f_X0_unfold_J154 rec S0 S1 S2 v3 v4 x5 x6 = some b) : zt p l e R s m args below meth c 8 A D 0 0 Q (wX0 T a0 S0 ++ (wX1 T a1 S1 ++ wX5 T a2 S2)) [(0, .ref (a0 99)), (1, .ref (a1 99)), (2, .ref (a2 99)), (3, .int v3), (4, .int v4), (5, .int x5), (6, .int x6)] 154 [] := by
  unfold f_X0_unfold_J154 at h
  refine z_iinc C (x6 + 1) [(0, .ref (a0 99)), (1, .ref (a1 99)), (2, .ref (a2 99)), (3, .int v3), (4, .int v4), (5, .int x5), (6, .int (x6 + 1))] dX0_unfold_154 6 rfl rfl (Nat.le_of_ble_eq_true rfl) [1, 2, 3, 4, 5, 6, 0] rfl 157 rfl ?_
  refine z_goto C 36 dX0_unfold_157 (by decide) ?_
  exact z_locals (ks := [0, 1, 2, 3, 4, 5, 6]) rfl (hrec _ _ _ _ _ h K)

def f_X0_unfold_J122 (rec : (Int32 × Int32 × (Nat → Nat → Int32) × (Nat → Nat → Int32)) → Option ((Nat → Nat → Int32) × (Nat → Nat → Int32))) (S0 : Nat → Nat → Int32) (S1 : Nat → Nat → Int32) (S2 : Nat → Nat → Int32) (v3 : Int32) (v4 : Int32) (x5 : Int32) (x6 : Int32) (x7 : Int32)  : Option ((Nat → Nat → Int32) × (Nat → Nat → Int32)) := if (S0 3 0) = (-1) then (f_X0_unfold_J154 rec S0 S1 S2 v3 v4 x5 x6) else (zix (S0 3 0) 240 fun j => zlet (zst S2 3 j x7) fun S2_5 => zix (S0 3 0) 240 fun j => zlet (zst S2_5 4 j (S0 4 0)) fun S2_6 => f_X0_unfold_J154 rec S0 S1 S2_6 v3 v4 x5 x6)
set_option maxHeartbeats 4000000 in
set_option maxRecDepth 100000 in
theorem p_X0_unfold_J122 (C : zC p R s m args meth c cX0_unfold 8 RX0 wsX0_unfold D T 3 77 0 0) (S0 : Nat → Nat → Int32) (S1 : Nat → Nat → Int32) (S2 : Nat → Nat → Int32) {v3 : Int32} {v4 : Int32} (x5 : Int32) (x6 : Int32) (x7 : Int32)  (hD : va_D A (wX0 T a0 S0 ++ (wX1 T a1 S1 ++ wX5 T a2 S2))) {rec : (Int32 × Int32 × (Nat → Nat → Int32) × (Nat → Nat → Int32)) → Option ((Nat → Nat → Int32) × (Nat → Nat → Int32))} (hrec : ∀ (c0 : Int32) (c1 : Int32) (c2 : Nat → Nat → Int32) (c3 : Nat → Nat → Int32) (b : (Nat → Nat → Int32) × (Nat → Nat → Int32)), rec (c0, c1, c2, c3) = some b → (zt p l e R s m args below meth c 8 A D 0 0 Q (wX0 T a0 b.1 ++ (wX1 T a1 S1 ++ wX5 T a2 b.2)) [] 160 []) → zt p l e R s m args below meth c 8 A D 0 0 Q (wX0 T a0 c2 ++ (wX1 T a1 S1 ++ wX5 T a2 c3)) [(0, .ref (a0 99)), (1, .ref (a1 99)), (2, .ref (a2 99)), (3, .int v3), (4, .int v4), (5, .int c0), (6, .int c1)] 36 []) {b : (Nat → Nat → Int32) × (Nat → Nat → Int32)} (K : zt p l e R s m args below meth c 8 A D 0 0 Q (wX0 T a0 b.1 ++ (wX1 T a1 S1 ++ wX5 T a2 b.2)) [] 160 []) (h : f_X0_unfold_J122 rec S0 S1 S2 v3 v4 x5 x6 x7 = some b) : zt p l e R s m args below meth c 8 A D 0 0 Q (wX0 T a0 S0 ++ (wX1 T a1 S1 ++ wX5 T a2 S2)) [(0, .ref (a0 99)), (1, .ref (a1 99)), (2, .ref (a2 99)), (3, .int v3), (4, .int v4), (5, .int x5), (6, .int x6), (7, .int x7)] 122 [] := by
  unfold f_X0_unfold_J122 at h
  refine z_aload_n C dX0_unfold_122 rfl 0 rfl 123 rfl ?_
  refine z_get C (in_X0_unfold_X0) 0 rfl rfl 3 (by decide) (List.mem_of_getElem? (i := 4) rfl) rfl rfl dX0_unfold_123 126 rfl ?_
  refine z_iconst C (-1) dX0_unfold_126 (by decide) 127 rfl ?_
  refine z_icmp_eq C 154 dX0_unfold_127 (by decide) 130 rfl h (fun h => ?_) (fun h => ?_)
  · exact z_locals (ks := [0, 1, 2, 3, 4, 5, 6]) rfl (p_X0_unfold_J154 C S0 S1 S2 x5 x6 (hD.zaddr rfl) hrec K h)
  · refine z_aload_n C dX0_unfold_130 rfl 2 rfl 131 rfl ?_
    refine z_get C (in_X0_unfold_X5) 12 rfl rfl 3 (by decide) (List.mem_of_getElem? (i := 2) rfl) rfl rfl dX0_unfold_131 134 rfl ?_
    refine z_aload_n C dX0_unfold_134 rfl 0 rfl 135 rfl ?_
    refine z_get C (in_X0_unfold_X0) 0 rfl rfl 3 (by decide) (List.mem_of_getElem? (i := 4) rfl) rfl rfl dX0_unfold_135 138 rfl ?_
    refine z_iload C dX0_unfold_138 7 rfl 140 rfl ?_
    refine z_iast C (fun z => wX0 T a0 S0 ++ (wX1 T a1 S1 ++ wX5 T a2 z)) S2 3 (hD.zaddr rfl) 13 rfl rfl (fun _ => rfl) dX0_unfold_140 141 rfl h (fun S2_5 h => ?_)
    refine z_aload_n C dX0_unfold_141 rfl 2 rfl 142 rfl ?_
    refine z_get C (in_X0_unfold_X5) 12 rfl rfl 4 (by decide) (List.mem_of_getElem? (i := 5) rfl) rfl rfl dX0_unfold_142 145 rfl ?_
    refine z_aload_n C dX0_unfold_145 rfl 0 rfl 146 rfl ?_
    refine z_get C (in_X0_unfold_X0) 0 rfl rfl 3 (by decide) (List.mem_of_getElem? (i := 4) rfl) rfl rfl dX0_unfold_146 149 rfl ?_
    refine z_aload_n C dX0_unfold_149 rfl 0 rfl 150 rfl ?_
    refine z_get C (in_X0_unfold_X0) 0 rfl rfl 4 (by decide) (List.mem_of_getElem? (i := 6) rfl) rfl rfl dX0_unfold_150 153 rfl ?_
    refine z_iast C (fun z => wX0 T a0 S0 ++ (wX1 T a1 S1 ++ wX5 T a2 z)) S2_5 4 (hD.zaddr rfl) 14 rfl rfl (fun _ => rfl) dX0_unfold_153 154 rfl h (fun S2_6 h => ?_)
    exact z_locals (ks := [0, 1, 2, 3, 4, 5, 6]) rfl (p_X0_unfold_J154 C S0 S1 S2_6 x5 x6 (hD.zaddr rfl) hrec K h)

def f_X0_unfold_L36b (S1 : Nat → Nat → Int32) (v3 : Int32) (v4 : Int32) (rec : (Int32 × Int32 × (Nat → Nat → Int32) × (Nat → Nat → Int32)) → Option ((Nat → Nat → Int32) × (Nat → Nat → Int32))) (a : Int32 × Int32 × (Nat → Nat → Int32) × (Nat → Nat → Int32)) : Option ((Nat → Nat → Int32) × (Nat → Nat → Int32)) := if 14 ≤ a.2.1 then (some (a.2.2.1, a.2.2.2)) else (if a.1 ≤ 0 then (some (a.2.2.1, a.2.2.2)) else (zix (a.1 + (-1)) 14 fun _ => zlet (a.2.2.1 10 (Int32.toNatClampNeg (a.1 + (-1)))) fun u_3 => (f_X0_choose a.2.2.1 S1 v3 v4 u_3).bind fun r_4 => if (r_4 2 0) = 0 then (f_X0_unfold_J122 rec r_4 S1 a.2.2.2 v3 v4 (a.1 + (-1)) a.2.1 u_3) else (if 14 < ((a.1 + (-1)) + 2) then (f_X0_unfold_J122 rec r_4 S1 a.2.2.2 v3 v4 (a.1 + (-1)) a.2.1 u_3) else (zix (a.1 + (-1)) 14 fun j => zlet (zst r_4 10 j (r_4 2 0)) fun S0_7 => zix ((a.1 + (-1)) + 1) 14 fun j => zlet (zst S0_7 10 j (u_3 ^^^ (S0_7 2 0))) fun S0_8 => f_X0_unfold_J154 rec S0_8 S1 a.2.2.2 v3 v4 ((a.1 + (-1)) + 2) a.2.1))))
def f_X0_unfold_L36 (S1 : Nat → Nat → Int32) (v3 : Int32) (v4 : Int32) : Nat → (Int32 × Int32 × (Nat → Nat → Int32) × (Nat → Nat → Int32)) → Option ((Nat → Nat → Int32) × (Nat → Nat → Int32)) := zloop (fun rec a => f_X0_unfold_L36b S1 v3 v4 rec a)
set_option maxHeartbeats 4000000 in
set_option maxRecDepth 100000 in
theorem p_X0_unfold_L36 (C : zC p R s m args meth c cX0_unfold 8 RX0 wsX0_unfold D T 3 77 0 0) (S0 : Nat → Nat → Int32) (S1 : Nat → Nat → Int32) (S2 : Nat → Nat → Int32) (v3 : Int32) (v4 : Int32) (hD : va_D A (wX0 T a0 S0 ++ (wX1 T a1 S1 ++ wX5 T a2 S2))) : ∀ (n : Nat) (c0 : Int32) (c1 : Int32) (c2 : Nat → Nat → Int32) (c3 : Nat → Nat → Int32) (b : (Nat → Nat → Int32) × (Nat → Nat → Int32)), f_X0_unfold_L36 S1 v3 v4 n (c0, c1, c2, c3) = some b → (zt p l e R s m args below meth c 8 A D 0 0 Q (wX0 T a0 b.1 ++ (wX1 T a1 S1 ++ wX5 T a2 b.2)) [] 160 []) → zt p l e R s m args below meth c 8 A D 0 0 Q (wX0 T a0 c2 ++ (wX1 T a1 S1 ++ wX5 T a2 c3)) [(0, .ref (a0 99)), (1, .ref (a1 99)), (2, .ref (a2 99)), (3, .int v3), (4, .int v4), (5, .int c0), (6, .int c1)] 36 [] := by
  intro n c0 c1 c2 c3 b h K
  refine zloop_ind (P := fun a b => (zt p l e R s m args below meth c 8 A D 0 0 Q (wX0 T a0 b.1 ++ (wX1 T a1 S1 ++ wX5 T a2 b.2)) [] 160 []) → zt p l e R s m args below meth c 8 A D 0 0 Q (wX0 T a0 a.2.2.1 ++ (wX1 T a1 S1 ++ wX5 T a2 a.2.2.2)) [(0, .ref (a0 99)), (1, .ref (a1 99)), (2, .ref (a2 99)), (3, .int v3), (4, .int v4), (5, .int a.1), (6, .int a.2.1)] 36 []) ?_ n (c0, c1, c2, c3) b h K
  clear h K b c0 c1 c2 c3
  intro rec hrec a b h K
  have hrec : ∀ (c0 : Int32) (c1 : Int32) (c2 : Nat → Nat → Int32) (c3 : Nat → Nat → Int32) (b : (Nat → Nat → Int32) × (Nat → Nat → Int32)), rec (c0, c1, c2, c3) = some b → (zt p l e R s m args below meth c 8 A D 0 0 Q (wX0 T a0 b.1 ++ (wX1 T a1 S1 ++ wX5 T a2 b.2)) [] 160 []) → zt p l e R s m args below meth c 8 A D 0 0 Q (wX0 T a0 c2 ++ (wX1 T a1 S1 ++ wX5 T a2 c3)) [(0, .ref (a0 99)), (1, .ref (a1 99)), (2, .ref (a2 99)), (3, .int v3), (4, .int v4), (5, .int c0), (6, .int c1)] 36 [] := fun c0 c1 c2 c3 b h K => hrec (c0, c1, c2, c3) b h K
  unfold f_X0_unfold_L36b at h
  refine z_iload C dX0_unfold_36 6 rfl 38 rfl ?_
  refine z_bipush C 14 dX0_unfold_38 (by decide) 40 rfl ?_
  refine z_icmp_ge C 160 dX0_unfold_40 (by decide) 43 rfl h (fun h => ?_) (fun h => ?_)
  · refine z_locals (ks := []) (lv' := []) rfl ?_
    exact zex2 (F := (fun e0 e1 => zt p l e R s m args below meth c 8 A D 0 0 Q (wX0 T a0 e0 ++ (wX1 T a1 S1 ++ wX5 T a2 e1)) [] 160 [])) h K
  · refine z_iload C dX0_unfold_43 5 rfl 45 rfl ?_
    refine z_if_le C 160 dX0_unfold_45 (by decide) 48 rfl h (fun h => ?_) (fun h => ?_)
    · refine z_locals (ks := []) (lv' := []) rfl ?_
      exact zex2 (F := (fun e0 e1 => zt p l e R s m args below meth c 8 A D 0 0 Q (wX0 T a0 e0 ++ (wX1 T a1 S1 ++ wX5 T a2 e1)) [] 160 [])) h K
    · refine z_iinc C (a.1 + (-1)) [(0, .ref (a0 99)), (1, .ref (a1 99)), (2, .ref (a2 99)), (3, .int v3), (4, .int v4), (5, .int (a.1 + (-1))), (6, .int a.2.1)] dX0_unfold_48 5 rfl rfl (Nat.le_of_ble_eq_true rfl) [1, 2, 3, 4, 5, 0, 6] rfl 51 rfl ?_
      refine z_aload_n C dX0_unfold_51 rfl 0 rfl 52 rfl ?_
      refine z_get C (in_X0_unfold_X0) 0 rfl rfl 10 (by decide) (List.mem_of_getElem? (i := 1) rfl) rfl rfl dX0_unfold_52 55 rfl ?_
      refine z_iload C dX0_unfold_55 5 rfl 57 rfl ?_
      refine z_iald C 6 rfl rfl dX0_unfold_57 58 rfl h (fun h => ?_)
      refine z_top h (fun u_3 h => ?_)
      refine z_istore C [(0, .ref (a0 99)), (1, .ref (a1 99)), (2, .ref (a2 99)), (3, .int v3), (4, .int v4), (5, .int (a.1 + (-1))), (6, .int a.2.1), (7, .int u_3)] dX0_unfold_58 (Nat.le_of_ble_eq_true rfl) [1, 2, 3, 4, 5, 6, 7, 0] rfl 60 rfl ?_
      refine z_aload_n C dX0_unfold_60 rfl 0 rfl 61 rfl ?_
      refine z_aload_n C dX0_unfold_61 rfl 1 rfl 62 rfl ?_
      refine z_iload_n C dX0_unfold_62 rfl 3 rfl 63 rfl ?_
      refine z_iload C dX0_unfold_63 4 rfl 65 rfl ?_
      refine z_iload C dX0_unfold_65 7 rfl 67 rfl ?_
      refine z_callV C (wX0 T a0 a.2.2.1 ++ wX1 T a1 S1) (wX5 T a2 a.2.2.2) (fun z => wX0 T a0 z ++ wX1 T a1 S1) (fun z => wX0 T a0 z ++ (wX1 T a1 S1 ++ wX5 T a2 a.2.2.2)) (fun z h => c_X0_choose l D T a0 a1  a.2.2.1 S1 v3 v4 u_3 z h) ⟨rfl, rfl⟩ (z_cwV C 4 gX0_unfold_X0_choose rfl rfl dd_X0_choose ⟨(Nat.le_of_ble_eq_true rfl), (Nat.le_of_ble_eq_true rfl)⟩) (hD.zaddr rfl) [0, 1, 2, 3, 4, 5, 6, 7, 8, 9, 10, 11] [12, 13, 14] [3, 4, 5, 6, 7, 8, 9, 10, 11, 12, 13, 14, 0, 1, 2] rfl rfl rfl (by decide) (fun _ => rfl) (fun _ => ⟨a0 99, [.ref (a1 99), .int v3, .int v4, .int u_3], 0, 0, _, _, rfl, rfl, rfl, rfl, rfl⟩) (fun h => absurd rfl h) rfl (Nat.le_of_ble_eq_true rfl) dX0_unfold_67 70 rfl h (fun r_4 h => ?_)
      refine z_aload_n C dX0_unfold_70 rfl 0 rfl 71 rfl ?_
      refine z_get C (in_X0_unfold_X0) 0 rfl rfl 2 (by decide) (List.mem_of_getElem? (i := 3) rfl) rfl rfl dX0_unfold_71 74 rfl ?_
      refine z_if_eq C 122 dX0_unfold_74 (by decide) 77 rfl h (fun h => ?_) (fun h => ?_)
      · exact z_locals (ks := [0, 1, 2, 3, 4, 5, 6, 7]) rfl (p_X0_unfold_J122 C r_4 S1 a.2.2.2 (a.1 + (-1)) a.2.1 u_3 (hD.zaddr rfl) hrec K h)
      · refine z_iload C dX0_unfold_77 5 rfl 79 rfl ?_
        refine z_iconst C 2 dX0_unfold_79 (by decide) 80 rfl ?_
        refine z_iadd C dX0_unfold_80 81 rfl ?_
        refine z_aload_n C dX0_unfold_81 rfl 0 rfl 82 rfl ?_
        refine z_get C (in_X0_unfold_X0) 0 rfl rfl 10 (by decide) (List.mem_of_getElem? (i := 1) rfl) rfl rfl dX0_unfold_82 85 rfl ?_
        refine z_alen C 14 6 rfl rfl (rfl) dX0_unfold_85 86 rfl ?_
        refine z_icmp_gt C 122 dX0_unfold_86 (by decide) 89 rfl h (fun h => ?_) (fun h => ?_)
        · exact z_locals (ks := [0, 1, 2, 3, 4, 5, 6, 7]) rfl (p_X0_unfold_J122 C r_4 S1 a.2.2.2 (a.1 + (-1)) a.2.1 u_3 (hD.zaddr rfl) hrec K h)
        · refine z_aload_n C dX0_unfold_89 rfl 0 rfl 90 rfl ?_
          refine z_get C (in_X0_unfold_X0) 0 rfl rfl 10 (by decide) (List.mem_of_getElem? (i := 1) rfl) rfl rfl dX0_unfold_90 93 rfl ?_
          refine z_iload C dX0_unfold_93 5 rfl 95 rfl ?_
          refine z_aload_n C dX0_unfold_95 rfl 0 rfl 96 rfl ?_
          refine z_get C (in_X0_unfold_X0) 0 rfl rfl 2 (by decide) (List.mem_of_getElem? (i := 3) rfl) rfl rfl dX0_unfold_96 99 rfl ?_
          refine z_iast C (fun z => wX0 T a0 z ++ (wX1 T a1 S1 ++ wX5 T a2 a.2.2.2)) r_4 10 (hD.zaddr rfl) 6 rfl rfl (fun _ => rfl) dX0_unfold_99 100 rfl h (fun S0_7 h => ?_)
          refine z_aload_n C dX0_unfold_100 rfl 0 rfl 101 rfl ?_
          refine z_get C (in_X0_unfold_X0) 0 rfl rfl 10 (by decide) (List.mem_of_getElem? (i := 1) rfl) rfl rfl dX0_unfold_101 104 rfl ?_
          refine z_iload C dX0_unfold_104 5 rfl 106 rfl ?_
          refine z_iconst C 1 dX0_unfold_106 (by decide) 107 rfl ?_
          refine z_iadd C dX0_unfold_107 108 rfl ?_
          refine z_iload C dX0_unfold_108 7 rfl 110 rfl ?_
          refine z_aload_n C dX0_unfold_110 rfl 0 rfl 111 rfl ?_
          refine z_get C (in_X0_unfold_X0) 0 rfl rfl 2 (by decide) (List.mem_of_getElem? (i := 3) rfl) rfl rfl dX0_unfold_111 114 rfl ?_
          refine z_ixor C dX0_unfold_114 115 rfl ?_
          refine z_iast C (fun z => wX0 T a0 z ++ (wX1 T a1 S1 ++ wX5 T a2 a.2.2.2)) S0_7 10 (hD.zaddr rfl) 6 rfl rfl (fun _ => rfl) dX0_unfold_115 116 rfl h (fun S0_8 h => ?_)
          refine z_iinc C ((a.1 + (-1)) + 2) [(0, .ref (a0 99)), (1, .ref (a1 99)), (2, .ref (a2 99)), (3, .int v3), (4, .int v4), (5, .int ((a.1 + (-1)) + 2)), (6, .int a.2.1), (7, .int u_3)] dX0_unfold_116 5 rfl rfl (Nat.le_of_ble_eq_true rfl) [1, 2, 3, 4, 5, 0, 6, 7] rfl 119 rfl ?_
          refine z_goto C 154 dX0_unfold_119 (by decide) ?_
          exact z_locals (ks := [0, 1, 2, 3, 4, 5, 6]) rfl (p_X0_unfold_J154 C S0_8 S1 a.2.2.2 ((a.1 + (-1)) + 2) a.2.1 (hD.zaddr rfl) hrec K h)

def f_X0_unfold_J31 (S0 : Nat → Nat → Int32) (S1 : Nat → Nat → Int32) (S2 : Nat → Nat → Int32) (x3 : Int32) (x4 : Int32) (k0 : Int32) : Option ((Nat → Nat → Int32) × (Nat → Nat → Int32)) := (f_X0_unfold_L36 S1 x3 x4 zfuel (k0, 0, S0, S2)).bind fun y_9 => some (y_9.1, y_9.2)
set_option maxHeartbeats 4000000 in
set_option maxRecDepth 100000 in
theorem p_X0_unfold_J31 {w0 : va_W} (C : zC p R s m args meth c cX0_unfold 8 RX0 wsX0_unfold D T 3 77 0 0) (hr : meth.sig.returnType = none) (S0 : Nat → Nat → Int32) (S1 : Nat → Nat → Int32) (S2 : Nat → Nat → Int32) (x3 : Int32) (x4 : Int32) (k0 : Int32) (hD : va_D (zA w0) (wX0 T a0 S0 ++ (wX1 T a1 S1 ++ wX5 T a2 S2))) {ex : (Nat → Nat → Int32) × (Nat → Nat → Int32)} (h : f_X0_unfold_J31 S0 S1 S2 x3 x4 k0 = some ex) : zt p l e R s m args below meth c 8 (zA w0) D 0 0 (MQ below (zQV D w0 (wX0 T a0 ex.1 ++ (wX1 T a1 S1 ++ wX5 T a2 ex.2))) args s 0 0 (zA w0)) (wX0 T a0 S0 ++ (wX1 T a1 S1 ++ wX5 T a2 S2)) [(0, .ref (a0 99)), (1, .ref (a1 99)), (2, .ref (a2 99)), (3, .int x3), (4, .int x4)] 31 [.int k0] := by
  unfold f_X0_unfold_J31 at h
  refine z_istore C [(0, .ref (a0 99)), (1, .ref (a1 99)), (2, .ref (a2 99)), (3, .int x3), (4, .int x4), (5, .int k0)] dX0_unfold_31 (Nat.le_of_ble_eq_true rfl) [1, 2, 3, 4, 5, 0] rfl 33 rfl ?_
  refine z_iconst C 0 dX0_unfold_33 (by decide) 34 rfl ?_
  refine z_istore C [(0, .ref (a0 99)), (1, .ref (a1 99)), (2, .ref (a2 99)), (3, .int x3), (4, .int x4), (5, .int k0), (6, .int 0)] dX0_unfold_34 (Nat.le_of_ble_eq_true rfl) [1, 2, 3, 4, 5, 6, 0] rfl 36 rfl ?_
  obtain ⟨y_9, hl_y_9, h⟩ := Option.bind_eq_some_iff.mp h
  refine z_locals (ks := [0, 1, 2, 3, 4, 5, 6]) rfl (p_X0_unfold_L36 C S0 S1 S2 x3 x4 (hD.zaddr rfl) _ _ _ _ _ _ hl_y_9 ?_)
  exact z_vretW (x := (y_9.1, y_9.2)) (ex := ex) (fun z => wX0 T a0 z.1 ++ (wX1 T a1 S1 ++ wX5 T a2 z.2)) C hr dX0_unfold_160 h rfl

def f_X0_unfold (S0 : Nat → Nat → Int32) (S1 : Nat → Nat → Int32) (S2 : Nat → Nat → Int32) (v3 : Int32) (v4 : Int32) : Option ((Nat → Nat → Int32) × (Nat → Nat → Int32)) := (f_X6_cellOf v3 v4).bind fun r_1 => zix r_1 240 fun _ => zix 0 14 fun j => zlet (zst S0 10 j (S2 3 (Int32.toNatClampNeg r_1))) fun S0_2 => zix 0 14 fun _ => if (S0_2 10 (Int32.toNatClampNeg 0)) = 0 then (f_X0_unfold_J31 S0_2 S1 S2 v3 v4 0) else (f_X0_unfold_J31 S0_2 S1 S2 v3 v4 1)
theorem dd_X0_unfold : RX0 ≠ "java/lang/invoke/MethodHandle" ∧ RX0 ≠ "java/lang/invoke/VarHandle" ∧ (parseMethodDescriptor yX0_unfold.desc).map (fun d => d.parameters.length) = some 4 := by decide +kernel
set_option maxHeartbeats 4000000 in
set_option maxRecDepth 100000 in
theorem c_X0_unfold (l : Launch) (D : va_G) (T : Nat → ClassId) (a0 : Nat → Nat) (a1 : Nat → Nat) (a2 : Nat → Nat) (S0 : Nat → Nat → Int32) (S1 : Nat → Nat → Int32) (S2 : Nat → Nat → Int32) (v3 : Int32) (v4 : Int32) (ex : (Nat → Nat → Int32) × (Nat → Nat → Int32)) (h : f_X0_unfold S0 S1 S2 v3 v4 = some ex) : zWV l yX0_unfold wsX0_unfold ({ frames := 3, cells := 0, slots := 0, locals := 77 } : Room) D T [.ref (a0 99), .ref (a1 99), .ref (a2 99), .int v3, .int v4] (wX0 T a0 S0 ++ (wX1 T a1 S1 ++ wX5 T a2 S2)) (wX0 T a0 ex.1 ++ (wX1 T a1 S1 ++ wX5 T a2 ex.2)) := by
  refine z_begin (cc := cX0_unfold) (nL := 8) (own := RX0) (fr := 3) (lc := 77) (ret := none) (by decide) rfl (Nat.le_of_ble_eq_true rfl) (zA (wX0 T a0 S0 ++ (wX1 T a1 S1 ++ wX5 T a2 S2))) rfl [(0, .ref (a0 99)), (1, .ref (a1 99)), (2, .ref (a2 99)), (3, .int v3), (4, .int v4)] rfl ⟨rfl, rfl⟩ rfl ?_
  intro p e s m args below meth c C hr hD
  have hD := hD.zself
  unfold f_X0_unfold at h
  refine z_aload_n C dX0_unfold_0 rfl 0 rfl 1 rfl ?_
  refine z_get C (in_X0_unfold_X0) 0 rfl rfl 10 (by decide) (List.mem_of_getElem? (i := 1) rfl) rfl rfl dX0_unfold_1 4 rfl ?_
  refine z_iconst C 0 dX0_unfold_4 (by decide) 5 rfl ?_
  refine z_aload_n C dX0_unfold_5 rfl 2 rfl 6 rfl ?_
  refine z_get C (in_X0_unfold_X5) 12 rfl rfl 3 (by decide) (List.mem_of_getElem? (i := 2) rfl) rfl rfl dX0_unfold_6 9 rfl ?_
  refine z_iload_n C dX0_unfold_9 rfl 3 rfl 10 rfl ?_
  refine z_iload C dX0_unfold_10 4 rfl 12 rfl ?_
  refine z_callR C ([]) (fun v h => c_X6_cellOf l D T    v3 v4 v h) ⟨rfl, rfl⟩ (z_cwN C 2 gX0_unfold_X6_cellOf_n46 rfl (List.mem_of_getElem? (i := 8) rfl) (List.mem_of_getElem? (i := 7) rfl) (List.mem_of_getElem? (i := 8) rfl) dd_X6_cellOf ⟨(Nat.le_of_ble_eq_true rfl), (Nat.le_of_ble_eq_true rfl)⟩) (hD.zaddr rfl) [] rfl rfl (fun h => absurd h (by decide)) (fun _ => rfl) rfl (Nat.le_of_ble_eq_true rfl) dX0_unfold_12 15 rfl h (fun r_1 h => ?_)
  refine z_iald C 13 rfl rfl dX0_unfold_15 16 rfl h (fun h => ?_)
  refine z_iast C (fun z => wX0 T a0 z ++ (wX1 T a1 S1 ++ wX5 T a2 S2)) S0 10 (hD.zaddr rfl) 6 rfl rfl (fun _ => rfl) dX0_unfold_16 17 rfl h (fun S0_2 h => ?_)
  refine z_aload_n C dX0_unfold_17 rfl 0 rfl 18 rfl ?_
  refine z_get C (in_X0_unfold_X0) 0 rfl rfl 10 (by decide) (List.mem_of_getElem? (i := 1) rfl) rfl rfl dX0_unfold_18 21 rfl ?_
  refine z_iconst C 0 dX0_unfold_21 (by decide) 22 rfl ?_
  refine z_iald C 6 rfl rfl dX0_unfold_22 23 rfl h (fun h => ?_)
  refine z_if_ne C 30 dX0_unfold_23 (by decide) 26 rfl h (fun h => ?_) (fun h => ?_)
  · refine z_iconst C 1 dX0_unfold_30 (by decide) 31 rfl ?_
    exact z_locals (ks := [0, 1, 2, 3, 4]) rfl (p_X0_unfold_J31 C hr S0_2 S1 S2 v3 v4 1 (hD.zaddr rfl) h)
  · refine z_iconst C 0 dX0_unfold_26 (by decide) 27 rfl ?_
    refine z_goto C 31 dX0_unfold_27 (by decide) ?_
    exact z_locals (ks := [0, 1, 2, 3, 4]) rfl (p_X0_unfold_J31 C hr S0_2 S1 S2 v3 v4 0 (hD.zaddr rfl) h)

end
/-! StreamTree$Bests.fill (LStreamTree$Chart;)V -/
section
variable {p : Program} {l : Launch} {e : Env} {R : Room} {s : State} {m : MethodId} {args : Array Value} {below : List Frame} {meth : Method} {c : Code} {Q : State → Prop} {A : Nat → Prop} {D : va_G} {T : Nat → ClassId} {a0 : Nat → Nat} {a1 : Nat → Nat}
theorem in_X0_fill_X0 : ∀ w ∈ u_ws RX0 TX0 11, w ∈ wsX0_fill := fun _ h => (List.mem_cons_of_mem _ (List.mem_append_right _ h))
theorem in_X0_fill_X1 : ∀ w ∈ u_ws RX1 TX1 10, w ∈ wsX0_fill := fun _ h => (List.mem_cons_of_mem _ (List.mem_append_left _ (List.mem_append_right _ h)))
def f_X0_fill_J72 (rec : (Int32 × (Nat → Nat → Int32)) → Option ((Nat → Nat → Int32))) (S0 : Nat → Nat → Int32) (S1 : Nat → Nat → Int32) (v2 : Int32) (x3 : Int32) (k1 : Int32) (k2 : Int32) : Option ((Nat → Nat → Int32)) := zix k1 240 fun j => zlet (zst S0 5 j k2) fun S0_6 => (f_X0_fillCell S0_6 S1 v2 x3).bind fun r_7 => rec ((x3 + 1), r_7)
set_option maxHeartbeats 4000000 in
set_option maxRecDepth 100000 in
theorem p_X0_fill_J72 (C : zC p R s m args meth c cX0_fill 5 RX0 wsX0_fill D T 4 104 0 0) (S0 : Nat → Nat → Int32) (S1 : Nat → Nat → Int32) {v2 : Int32} (x3 : Int32) (k1 : Int32) (k2 : Int32) (hD : va_D A (wX0 T a0 S0 ++ wX1 T a1 S1)) {rec : (Int32 × (Nat → Nat → Int32)) → Option ((Nat → Nat → Int32))} (hrec : ∀ (c0 : Int32) (c1 : Nat → Nat → Int32) (b : (Nat → Nat → Int32)), rec (c0, c1) = some b → (zt p l e R s m args below meth c 5 A D 0 0 Q (wX0 T a0 b ++ wX1 T a1 S1) [(0, .ref (a0 99)), (1, .ref (a1 99)), (2, .int v2)] 86 []) → zt p l e R s m args below meth c 5 A D 0 0 Q (wX0 T a0 c1 ++ wX1 T a1 S1) [(0, .ref (a0 99)), (1, .ref (a1 99)), (2, .int v2), (3, .int c0)] 22 []) {b : (Nat → Nat → Int32)} (K : zt p l e R s m args below meth c 5 A D 0 0 Q (wX0 T a0 b ++ wX1 T a1 S1) [(0, .ref (a0 99)), (1, .ref (a1 99)), (2, .int v2)] 86 []) (h : f_X0_fill_J72 rec S0 S1 v2 x3 k1 k2 = some b) : zt p l e R s m args below meth c 5 A D 0 0 Q (wX0 T a0 S0 ++ wX1 T a1 S1) [(0, .ref (a0 99)), (1, .ref (a1 99)), (2, .int v2), (3, .int x3)] 72 [.int k2, .int k1, .ref (a0 5)] := by
  unfold f_X0_fill_J72 at h
  refine z_iast C (fun z => wX0 T a0 z ++ wX1 T a1 S1) S0 5 (hD.zaddr rfl) 1 rfl rfl (fun _ => rfl) dX0_fill_72 73 rfl h (fun S0_6 h => ?_)
  refine z_aload_n C dX0_fill_73 rfl 0 rfl 74 rfl ?_
  refine z_aload_n C dX0_fill_74 rfl 1 rfl 75 rfl ?_
  refine z_iload_n C dX0_fill_75 rfl 2 rfl 76 rfl ?_
  refine z_iload_n C dX0_fill_76 rfl 3 rfl 77 rfl ?_
  refine z_callV C (wX0 T a0 S0_6 ++ wX1 T a1 S1) (([] : va_W)) (fun z => wX0 T a0 z ++ wX1 T a1 S1) (fun z => wX0 T a0 z ++ wX1 T a1 S1) (fun z h => c_X0_fillCell l D T a0 a1  S0_6 S1 v2 x3 z h) ⟨rfl, rfl⟩ (z_cwV C 3 gX0_fill_X0_fillCell rfl rfl dd_X0_fillCell ⟨(Nat.le_of_ble_eq_true rfl), (Nat.le_of_ble_eq_true rfl)⟩) (hD.zaddr rfl) [0, 1, 2, 3, 4, 5, 6, 7, 8, 9, 10, 11] [] [0, 1, 2, 3, 4, 5, 6, 7, 8, 9, 10, 11] rfl rfl rfl (by decide) (fun _ => rfl) (fun _ => ⟨a0 99, [.ref (a1 99), .int v2, .int x3], 0, 0, _, _, rfl, rfl, rfl, rfl, rfl⟩) (fun h => absurd rfl h) rfl (Nat.le_of_ble_eq_true rfl) dX0_fill_77 80 rfl h (fun r_7 h => ?_)
  refine z_iinc C (x3 + 1) [(0, .ref (a0 99)), (1, .ref (a1 99)), (2, .int v2), (3, .int (x3 + 1))] dX0_fill_80 3 rfl rfl (Nat.le_of_ble_eq_true rfl) [1, 2, 3, 0] rfl 83 rfl ?_
  refine z_goto C 22 dX0_fill_83 (by decide) ?_
  exact z_locals (ks := [0, 1, 2, 3]) rfl (hrec _ _ _ h K)

def f_X0_fill_L22b (S1 : Nat → Nat → Int32) (v2 : Int32) (rec : (Int32 × (Nat → Nat → Int32)) → Option ((Nat → Nat → Int32))) (a : Int32 × (Nat → Nat → Int32)) : Option ((Nat → Nat → Int32)) := if (S1 1 0) ≤ a.1 then (some a.2) else ((f_X6_cellOf v2 a.1).bind fun r_4 => zix r_4 240 fun _ => if (S1 9 (Int32.toNatClampNeg r_4)) = 0 then (zix r_4 240 fun _ => (f_X0_reachingFromOutside a.2 S1 v2 a.1).bind fun r_5 => f_X0_fill_J72 rec a.2 S1 v2 a.1 r_4 ((a.2 6 (Int32.toNatClampNeg r_4)) ||| r_5)) else (f_X0_fill_J72 rec a.2 S1 v2 a.1 r_4 0))
def f_X0_fill_L22 (S1 : Nat → Nat → Int32) (v2 : Int32) : Nat → (Int32 × (Nat → Nat → Int32)) → Option ((Nat → Nat → Int32)) := zloop (fun rec a => f_X0_fill_L22b S1 v2 rec a)
set_option maxHeartbeats 4000000 in
set_option maxRecDepth 100000 in
theorem p_X0_fill_L22 (C : zC p R s m args meth c cX0_fill 5 RX0 wsX0_fill D T 4 104 0 0) (S0 : Nat → Nat → Int32) (S1 : Nat → Nat → Int32) (v2 : Int32) (hD : va_D A (wX0 T a0 S0 ++ wX1 T a1 S1)) : ∀ (n : Nat) (c0 : Int32) (c1 : Nat → Nat → Int32) (b : (Nat → Nat → Int32)), f_X0_fill_L22 S1 v2 n (c0, c1) = some b → (zt p l e R s m args below meth c 5 A D 0 0 Q (wX0 T a0 b ++ wX1 T a1 S1) [(0, .ref (a0 99)), (1, .ref (a1 99)), (2, .int v2)] 86 []) → zt p l e R s m args below meth c 5 A D 0 0 Q (wX0 T a0 c1 ++ wX1 T a1 S1) [(0, .ref (a0 99)), (1, .ref (a1 99)), (2, .int v2), (3, .int c0)] 22 [] := by
  intro n c0 c1 b h K
  refine zloop_ind (P := fun a b => (zt p l e R s m args below meth c 5 A D 0 0 Q (wX0 T a0 b ++ wX1 T a1 S1) [(0, .ref (a0 99)), (1, .ref (a1 99)), (2, .int v2)] 86 []) → zt p l e R s m args below meth c 5 A D 0 0 Q (wX0 T a0 a.2 ++ wX1 T a1 S1) [(0, .ref (a0 99)), (1, .ref (a1 99)), (2, .int v2), (3, .int a.1)] 22 []) ?_ n (c0, c1) b h K
  clear h K b c0 c1
  intro rec hrec a b h K
  have hrec : ∀ (c0 : Int32) (c1 : Nat → Nat → Int32) (b : (Nat → Nat → Int32)), rec (c0, c1) = some b → (zt p l e R s m args below meth c 5 A D 0 0 Q (wX0 T a0 b ++ wX1 T a1 S1) [(0, .ref (a0 99)), (1, .ref (a1 99)), (2, .int v2)] 86 []) → zt p l e R s m args below meth c 5 A D 0 0 Q (wX0 T a0 c1 ++ wX1 T a1 S1) [(0, .ref (a0 99)), (1, .ref (a1 99)), (2, .int v2), (3, .int c0)] 22 [] := fun c0 c1 b h K => hrec (c0, c1) b h K
  unfold f_X0_fill_L22b at h
  refine z_iload_n C dX0_fill_22 rfl 3 rfl 23 rfl ?_
  refine z_aload_n C dX0_fill_23 rfl 1 rfl 24 rfl ?_
  refine z_get C (in_X0_fill_X1) 7 rfl rfl 1 (by decide) (List.mem_of_getElem? (i := 2) rfl) rfl rfl dX0_fill_24 27 rfl ?_
  refine z_icmp_ge C 86 dX0_fill_27 (by decide) 30 rfl h (fun h => ?_) (fun h => ?_)
  · refine z_locals (ks := [0, 1, 2]) (lv' := [(0, .ref (a0 99)), (1, .ref (a1 99)), (2, .int v2)]) rfl ?_
    exact zex1 (F := (fun e0 => zt p l e R s m args below meth c 5 A D 0 0 Q (wX0 T a0 e0 ++ wX1 T a1 S1) [(0, .ref (a0 99)), (1, .ref (a1 99)), (2, .int v2)] 86 [])) h K
  · refine z_iload_n C dX0_fill_30 rfl 2 rfl 31 rfl ?_
    refine z_iload_n C dX0_fill_31 rfl 3 rfl 32 rfl ?_
    refine z_callR C ([]) (fun v h => c_X6_cellOf l D T    v2 a.1 v h) ⟨rfl, rfl⟩ (z_cwN C 2 gX0_fill_X6_cellOf_n46 rfl (List.mem_of_getElem? (i := 8) rfl) (List.mem_of_getElem? (i := 19) rfl) (List.mem_of_getElem? (i := 20) rfl) dd_X6_cellOf ⟨(Nat.le_of_ble_eq_true rfl), (Nat.le_of_ble_eq_true rfl)⟩) (hD.zaddr rfl) [] rfl rfl (fun h => absurd h (by decide)) (fun _ => rfl) rfl (Nat.le_of_ble_eq_true rfl) dX0_fill_32 35 rfl h (fun r_4 h => ?_)
    refine z_istore C [(0, .ref (a0 99)), (1, .ref (a1 99)), (2, .int v2), (3, .int a.1), (4, .int r_4)] dX0_fill_35 (Nat.le_of_ble_eq_true rfl) [1, 2, 3, 4, 0] rfl 37 rfl ?_
    refine z_aload_n C dX0_fill_37 rfl 0 rfl 38 rfl ?_
    refine z_get C (in_X0_fill_X0) 0 rfl rfl 5 (by decide) (List.mem_of_getElem? (i := 3) rfl) rfl rfl dX0_fill_38 41 rfl ?_
    refine z_iload C dX0_fill_41 4 rfl 43 rfl ?_
    refine z_aload_n C dX0_fill_43 rfl 1 rfl 44 rfl ?_
    refine z_get C (in_X0_fill_X1) 7 rfl rfl 9 (by decide) (List.mem_of_getElem? (i := 4) rfl) rfl rfl dX0_fill_44 47 rfl ?_
    refine z_iload C dX0_fill_47 4 rfl 49 rfl ?_
    refine z_zald C 11 rfl rfl dX0_fill_49 50 rfl h (fun h => ?_)
    refine z_if_eq C 57 dX0_fill_50 (by decide) 53 rfl h (fun h => ?_) (fun h => ?_)
    · refine z_aload_n C dX0_fill_57 rfl 0 rfl 58 rfl ?_
      refine z_get C (in_X0_fill_X0) 0 rfl rfl 6 (by decide) (List.mem_of_getElem? (i := 5) rfl) rfl rfl dX0_fill_58 61 rfl ?_
      refine z_iload C dX0_fill_61 4 rfl 63 rfl ?_
      refine z_iald C 2 rfl rfl dX0_fill_63 64 rfl h (fun h => ?_)
      refine z_aload_n C dX0_fill_64 rfl 0 rfl 65 rfl ?_
      refine z_aload_n C dX0_fill_65 rfl 1 rfl 66 rfl ?_
      refine z_iload_n C dX0_fill_66 rfl 2 rfl 67 rfl ?_
      refine z_iload_n C dX0_fill_67 rfl 3 rfl 68 rfl ?_
      refine z_callR C (wX0 T a0 a.2 ++ wX1 T a1 S1) (fun v h => c_X0_reachingFromOutside l D T a0 a1  a.2 S1 v2 a.1 v h) ⟨rfl, rfl⟩ (z_cwV C 3 gX0_fill_X0_reachingFromOutside rfl rfl dd_X0_reachingFromOutside ⟨(Nat.le_of_ble_eq_true rfl), (Nat.le_of_ble_eq_true rfl)⟩) (hD.zaddr rfl) [0, 1, 2, 3, 4, 5, 6, 7, 8, 9, 10, 11] rfl rfl (fun _ => ⟨a0 99, [.ref (a1 99), .int v2, .int a.1], 0, 0, _, _, rfl, rfl, rfl, rfl, rfl⟩) (fun h => absurd rfl h) rfl (Nat.le_of_ble_eq_true rfl) dX0_fill_68 71 rfl h (fun r_5 h => ?_)
      refine z_ior C dX0_fill_71 72 rfl ?_
      exact z_locals (ks := [0, 1, 2, 3]) rfl (p_X0_fill_J72 C a.2 S1 a.1 r_4 ((a.2 6 (Int32.toNatClampNeg r_4)) ||| r_5) (hD.zaddr rfl) hrec K h)
    · refine z_iconst C 0 dX0_fill_53 (by decide) 54 rfl ?_
      refine z_goto C 72 dX0_fill_54 (by decide) ?_
      exact z_locals (ks := [0, 1, 2, 3]) rfl (p_X0_fill_J72 C a.2 S1 a.1 r_4 0 (hD.zaddr rfl) hrec K h)

def f_X0_fill_L15b (S1 : Nat → Nat → Int32)  (rec : (Int32 × (Nat → Nat → Int32)) → Option ((Nat → Nat → Int32))) (a : Int32 × (Nat → Nat → Int32)) : Option ((Nat → Nat → Int32)) := if a.1 < 1 then (some a.2) else ((f_X0_fill_L22 S1 a.1 zfuel (0, a.2)).bind fun y_8 => rec ((a.1 + (-1)), y_8))
def f_X0_fill_L15 (S1 : Nat → Nat → Int32)  : Nat → (Int32 × (Nat → Nat → Int32)) → Option ((Nat → Nat → Int32)) := zloop (fun rec a => f_X0_fill_L15b S1 rec a)
set_option maxHeartbeats 4000000 in
set_option maxRecDepth 100000 in
theorem p_X0_fill_L15 (C : zC p R s m args meth c cX0_fill 5 RX0 wsX0_fill D T 4 104 0 0) (S0 : Nat → Nat → Int32) (S1 : Nat → Nat → Int32)  (hD : va_D A (wX0 T a0 S0 ++ wX1 T a1 S1)) : ∀ (n : Nat) (c0 : Int32) (c1 : Nat → Nat → Int32) (b : (Nat → Nat → Int32)), f_X0_fill_L15 S1 n (c0, c1) = some b → (zt p l e R s m args below meth c 5 A D 0 0 Q (wX0 T a0 b ++ wX1 T a1 S1) [(0, .ref (a0 99)), (1, .ref (a1 99))] 92 []) → zt p l e R s m args below meth c 5 A D 0 0 Q (wX0 T a0 c1 ++ wX1 T a1 S1) [(0, .ref (a0 99)), (1, .ref (a1 99)), (2, .int c0)] 15 [] := by
  intro n c0 c1 b h K
  refine zloop_ind (P := fun a b => (zt p l e R s m args below meth c 5 A D 0 0 Q (wX0 T a0 b ++ wX1 T a1 S1) [(0, .ref (a0 99)), (1, .ref (a1 99))] 92 []) → zt p l e R s m args below meth c 5 A D 0 0 Q (wX0 T a0 a.2 ++ wX1 T a1 S1) [(0, .ref (a0 99)), (1, .ref (a1 99)), (2, .int a.1)] 15 []) ?_ n (c0, c1) b h K
  clear h K b c0 c1
  intro rec hrec a b h K
  have hrec : ∀ (c0 : Int32) (c1 : Nat → Nat → Int32) (b : (Nat → Nat → Int32)), rec (c0, c1) = some b → (zt p l e R s m args below meth c 5 A D 0 0 Q (wX0 T a0 b ++ wX1 T a1 S1) [(0, .ref (a0 99)), (1, .ref (a1 99))] 92 []) → zt p l e R s m args below meth c 5 A D 0 0 Q (wX0 T a0 c1 ++ wX1 T a1 S1) [(0, .ref (a0 99)), (1, .ref (a1 99)), (2, .int c0)] 15 [] := fun c0 c1 b h K => hrec (c0, c1) b h K
  unfold f_X0_fill_L15b at h
  refine z_iload_n C dX0_fill_15 rfl 2 rfl 16 rfl ?_
  refine z_iconst C 1 dX0_fill_16 (by decide) 17 rfl ?_
  refine z_icmp_lt C 92 dX0_fill_17 (by decide) 20 rfl h (fun h => ?_) (fun h => ?_)
  · refine z_locals (ks := [0, 1]) (lv' := [(0, .ref (a0 99)), (1, .ref (a1 99))]) rfl ?_
    exact zex1 (F := (fun e0 => zt p l e R s m args below meth c 5 A D 0 0 Q (wX0 T a0 e0 ++ wX1 T a1 S1) [(0, .ref (a0 99)), (1, .ref (a1 99))] 92 [])) h K
  · refine z_iconst C 0 dX0_fill_20 (by decide) 21 rfl ?_
    refine z_istore_n C [(0, .ref (a0 99)), (1, .ref (a1 99)), (2, .int a.1), (3, .int 0)] dX0_fill_21 rfl (Nat.le_of_ble_eq_true rfl) [1, 2, 3, 0] rfl 22 rfl ?_
    obtain ⟨y_8, hl_y_8, h⟩ := Option.bind_eq_some_iff.mp h
    refine z_locals (ks := [0, 1, 2, 3]) rfl (p_X0_fill_L22 C a.2 S1 a.1 (hD.zaddr rfl) _ _ _ _ hl_y_8 ?_)
    refine z_iinc C (a.1 + (-1)) [(0, .ref (a0 99)), (1, .ref (a1 99)), (2, .int (a.1 + (-1)))] dX0_fill_86 2 rfl rfl (Nat.le_of_ble_eq_true rfl) [1, 2, 0] rfl 89 rfl ?_
    refine z_goto C 15 dX0_fill_89 (by decide) ?_
    exact z_locals (ks := [0, 1, 2]) rfl (hrec _ _ _ h K)

def f_X0_fill (S0 : Nat → Nat → Int32) (S1 : Nat → Nat → Int32)  : Option ((Nat → Nat → Int32)) := (f_X0_notePlaces S0 S1).bind fun r_1 => (f_X0_noteSteps r_1 S1).bind fun r_2 => zlet (S1 0 0) fun u_3 => (f_X0_fill_L15 S1 zfuel (u_3, r_2)).bind fun y_9 => (f_X0_reachingSource y_9 S1).bind fun r_10 => zix 0 240 fun j => zlet (zst y_9 5 j r_10) fun S0_11 => (f_X0_fillCell S0_11 S1 0 0).bind fun r_12 => zlet (zst r_12 0 0 1) fun S0_13 => some S0_13
theorem dd_X0_fill : RX0 ≠ "java/lang/invoke/MethodHandle" ∧ RX0 ≠ "java/lang/invoke/VarHandle" ∧ (parseMethodDescriptor yX0_fill.desc).map (fun d => d.parameters.length) = some 1 := by decide +kernel
set_option maxHeartbeats 4000000 in
set_option maxRecDepth 100000 in
theorem c_X0_fill (l : Launch) (D : va_G) (T : Nat → ClassId) (a0 : Nat → Nat) (a1 : Nat → Nat) (S0 : Nat → Nat → Int32) (S1 : Nat → Nat → Int32)  (ex : (Nat → Nat → Int32)) (h : f_X0_fill S0 S1 = some ex) : zWV l yX0_fill wsX0_fill ({ frames := 4, cells := 0, slots := 0, locals := 104 } : Room) D T [.ref (a0 99), .ref (a1 99)] (wX0 T a0 S0 ++ wX1 T a1 S1) (wX0 T a0 ex ++ wX1 T a1 S1) := by
  refine z_begin (cc := cX0_fill) (nL := 5) (own := RX0) (fr := 4) (lc := 104) (ret := none) (by decide) rfl (Nat.le_of_ble_eq_true rfl) (zA (wX0 T a0 S0 ++ wX1 T a1 S1)) rfl [(0, .ref (a0 99)), (1, .ref (a1 99))] rfl ⟨rfl, rfl⟩ rfl ?_
  intro p e s m args below meth c C hr hD
  have hD := hD.zself
  unfold f_X0_fill at h
  refine z_aload_n C dX0_fill_0 rfl 0 rfl 1 rfl ?_
  refine z_aload_n C dX0_fill_1 rfl 1 rfl 2 rfl ?_
  refine z_callV C (wX0 T a0 S0 ++ wX1 T a1 S1) (([] : va_W)) (fun z => wX0 T a0 z ++ wX1 T a1 S1) (fun z => wX0 T a0 z ++ wX1 T a1 S1) (fun z h => c_X0_notePlaces l D T a0 a1  S0 S1  z h) ⟨rfl, rfl⟩ (z_cwV C 1 gX0_fill_X0_notePlaces rfl rfl dd_X0_notePlaces ⟨(Nat.le_of_ble_eq_true rfl), (Nat.le_of_ble_eq_true rfl)⟩) (hD.zaddr rfl) [0, 1, 2, 3, 4, 5, 6, 7, 8, 9, 10, 11] [] [0, 1, 2, 3, 4, 5, 6, 7, 8, 9, 10, 11] rfl rfl rfl (by decide) (fun _ => rfl) (fun _ => ⟨a0 99, [.ref (a1 99)], 0, 0, _, _, rfl, rfl, rfl, rfl, rfl⟩) (fun h => absurd rfl h) rfl (Nat.le_of_ble_eq_true rfl) dX0_fill_2 5 rfl h (fun r_1 h => ?_)
  refine z_aload_n C dX0_fill_5 rfl 0 rfl 6 rfl ?_
  refine z_aload_n C dX0_fill_6 rfl 1 rfl 7 rfl ?_
  refine z_callV C (wX0 T a0 r_1 ++ wX1 T a1 S1) (([] : va_W)) (fun z => wX0 T a0 z ++ wX1 T a1 S1) (fun z => wX0 T a0 z ++ wX1 T a1 S1) (fun z h => c_X0_noteSteps l D T a0 a1  r_1 S1  z h) ⟨rfl, rfl⟩ (z_cwV C 1 gX0_fill_X0_noteSteps rfl rfl dd_X0_noteSteps ⟨(Nat.le_of_ble_eq_true rfl), (Nat.le_of_ble_eq_true rfl)⟩) (hD.zaddr rfl) [0, 1, 2, 3, 4, 5, 6, 7, 8, 9, 10, 11] [] [0, 1, 2, 3, 4, 5, 6, 7, 8, 9, 10, 11] rfl rfl rfl (by decide) (fun _ => rfl) (fun _ => ⟨a0 99, [.ref (a1 99)], 0, 0, _, _, rfl, rfl, rfl, rfl, rfl⟩) (fun h => absurd rfl h) rfl (Nat.le_of_ble_eq_true rfl) dX0_fill_7 10 rfl h (fun r_2 h => ?_)
  refine z_aload_n C dX0_fill_10 rfl 1 rfl 11 rfl ?_
  refine z_get C (in_X0_fill_X1) 7 rfl rfl 0 (by decide) (List.mem_of_getElem? (i := 1) rfl) rfl rfl dX0_fill_11 14 rfl ?_
  refine z_top h (fun u_3 h => ?_)
  refine z_istore_n C [(0, .ref (a0 99)), (1, .ref (a1 99)), (2, .int u_3)] dX0_fill_14 rfl (Nat.le_of_ble_eq_true rfl) [1, 2, 0] rfl 15 rfl ?_
  obtain ⟨y_9, hl_y_9, h⟩ := Option.bind_eq_some_iff.mp h
  refine z_locals (ks := [0, 1, 2]) rfl (p_X0_fill_L15 C r_2 S1  (hD.zaddr rfl) _ _ _ _ hl_y_9 ?_)
  refine z_aload_n C dX0_fill_92 rfl 0 rfl 93 rfl ?_
  refine z_get C (in_X0_fill_X0) 0 rfl rfl 5 (by decide) (List.mem_of_getElem? (i := 3) rfl) rfl rfl dX0_fill_93 96 rfl ?_
  refine z_iconst C 0 dX0_fill_96 (by decide) 97 rfl ?_
  refine z_aload_n C dX0_fill_97 rfl 0 rfl 98 rfl ?_
  refine z_aload_n C dX0_fill_98 rfl 1 rfl 99 rfl ?_
  refine z_callR C (wX0 T a0 y_9 ++ wX1 T a1 S1) (fun v h => c_X0_reachingSource l D T a0 a1  y_9 S1  v h) ⟨rfl, rfl⟩ (z_cwV C 1 gX0_fill_X0_reachingSource rfl rfl dd_X0_reachingSource ⟨(Nat.le_of_ble_eq_true rfl), (Nat.le_of_ble_eq_true rfl)⟩) (hD.zaddr rfl) [0, 1, 2, 3, 4, 5, 6, 7, 8, 9, 10, 11] rfl rfl (fun _ => ⟨a0 99, [.ref (a1 99)], 0, 0, _, _, rfl, rfl, rfl, rfl, rfl⟩) (fun h => absurd rfl h) rfl (Nat.le_of_ble_eq_true rfl) dX0_fill_99 102 rfl h (fun r_10 h => ?_)
  refine z_iast C (fun z => wX0 T a0 z ++ wX1 T a1 S1) y_9 5 (hD.zaddr rfl) 1 rfl rfl (fun _ => rfl) dX0_fill_102 103 rfl h (fun S0_11 h => ?_)
  refine z_aload_n C dX0_fill_103 rfl 0 rfl 104 rfl ?_
  refine z_aload_n C dX0_fill_104 rfl 1 rfl 105 rfl ?_
  refine z_iconst C 0 dX0_fill_105 (by decide) 106 rfl ?_
  refine z_iconst C 0 dX0_fill_106 (by decide) 107 rfl ?_
  refine z_callV C (wX0 T a0 S0_11 ++ wX1 T a1 S1) (([] : va_W)) (fun z => wX0 T a0 z ++ wX1 T a1 S1) (fun z => wX0 T a0 z ++ wX1 T a1 S1) (fun z h => c_X0_fillCell l D T a0 a1  S0_11 S1 0 0 z h) ⟨rfl, rfl⟩ (z_cwV C 3 gX0_fill_X0_fillCell rfl rfl dd_X0_fillCell ⟨(Nat.le_of_ble_eq_true rfl), (Nat.le_of_ble_eq_true rfl)⟩) (hD.zaddr rfl) [0, 1, 2, 3, 4, 5, 6, 7, 8, 9, 10, 11] [] [0, 1, 2, 3, 4, 5, 6, 7, 8, 9, 10, 11] rfl rfl rfl (by decide) (fun _ => rfl) (fun _ => ⟨a0 99, [.ref (a1 99), .int 0, .int 0], 0, 0, _, _, rfl, rfl, rfl, rfl, rfl⟩) (fun h => absurd rfl h) rfl (Nat.le_of_ble_eq_true rfl) dX0_fill_107 110 rfl h (fun r_12 h => ?_)
  refine z_aload_n C dX0_fill_110 rfl 0 rfl 111 rfl ?_
  refine z_iconst C 1 dX0_fill_111 (by decide) 112 rfl ?_
  refine z_put (ty := .boolean) C (fun z => wX0 T a0 z ++ wX1 T a1 S1) r_12 (hD.zaddr rfl) (in_X0_fill_X0) tyX0 tyX0_ok nmX0 0 rfl rfl 0 (by decide) (List.mem_of_getElem? (i := 6) rfl) rfl rfl (by decide +kernel) rfl rfl (Nat.le_of_ble_eq_true rfl) rfl dX0_fill_112 115 rfl h (fun S0_13 h => ?_)
  exact z_vretW (x := S0_13) (ex := ex) (fun z => wX0 T a0 z ++ wX1 T a1 S1) C hr dX0_fill_115 h rfl

end
