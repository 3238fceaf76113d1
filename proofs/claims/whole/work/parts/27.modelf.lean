/-! StreamTreeModel.laysStraightened ()Z -/
section
variable {p : Program} {l : Launch} {e : Env} {R : Room} {s : State} {m : MethodId} {args : Array Value} {below : List Frame} {meth : Method} {c : Code} {Q : State → Prop} {A : Nat → Prop} {D : va_G} {T : Nat → ClassId} {a0 : Nat → Nat}
theorem in_X7_laysStraightened_X7 : ∀ w ∈ u_ws RX7 TX7 35, w ∈ wsX7_laysStraightened := fun _ h => (List.mem_cons_of_mem _ (List.mem_append_right _ h))
def f_X7_laysStraightened_J55 (rec : (Int32 × Int32 × (Nat → Nat → Int32)) → Option (Int32 × (Nat → Nat → Int32))) (S0 : Nat → Nat → Int32) (v2 : Int32) (x3 : Int32) (k0 : Int32) : Option (Int32 × (Nat → Nat → Int32)) := rec (k0, (x3 + 1), S0)
set_option maxHeartbeats 4000000 in
set_option maxRecDepth 100000 in
theorem p_X7_laysStraightened_J55 (C : zC p R s m args meth c cX7_laysStraightened 4 RX7 wsX7_laysStraightened D T 6 137 0 0) (S0 : Nat → Nat → Int32) {v2 : Int32} (x3 : Int32) (k0 : Int32) (hD : va_D A (wX7 T a0 S0)) {rec : (Int32 × Int32 × (Nat → Nat → Int32)) → Option (Int32 × (Nat → Nat → Int32))} (hrec : ∀ (c0 : Int32) (c1 : Int32) (c2 : Nat → Nat → Int32) (b : Int32 × (Nat → Nat → Int32)), rec (c0, c1, c2) = some b → (zt p l e R s m args below meth c 4 A D 0 0 Q (wX7 T a0 b.2) [(0, .ref (a0 99)), (1, .int b.1), (2, .int v2)] 62 []) → zt p l e R s m args below meth c 4 A D 0 0 Q (wX7 T a0 c2) [(0, .ref (a0 99)), (1, .int c0), (2, .int v2), (3, .int c1)] 29 []) {b : Int32 × (Nat → Nat → Int32)} (K : zt p l e R s m args below meth c 4 A D 0 0 Q (wX7 T a0 b.2) [(0, .ref (a0 99)), (1, .int b.1), (2, .int v2)] 62 []) (h : f_X7_laysStraightened_J55 rec S0 v2 x3 k0 = some b) : zt p l e R s m args below meth c 4 A D 0 0 Q (wX7 T a0 S0) [(0, .ref (a0 99)), (2, .int v2), (3, .int x3)] 55 [.int k0] := by
  unfold f_X7_laysStraightened_J55 at h
  refine z_istore_n C [(0, .ref (a0 99)), (1, .int k0), (2, .int v2), (3, .int x3)] dX7_laysStraightened_55 rfl (Nat.le_of_ble_eq_true rfl) [1, 0, 2, 3] rfl 56 rfl ?_
  refine z_iinc C (x3 + 1) [(0, .ref (a0 99)), (1, .int k0), (2, .int v2), (3, .int (x3 + 1))] dX7_laysStraightened_56 3 rfl rfl (Nat.le_of_ble_eq_true rfl) [1, 2, 3, 0] rfl 59 rfl ?_
  refine z_goto C 29 dX7_laysStraightened_59 (by decide) ?_
  exact z_locals (ks := [0, 1, 2, 3]) rfl (hrec _ _ _ _ h K)

def f_X7_laysStraightened_J50 (rec : (Int32 × Int32 × (Nat → Nat → Int32)) → Option (Int32 × (Nat → Nat → Int32))) (S0 : Nat → Nat → Int32) (v2 : Int32) (x3 : Int32)  : Option (Int32 × (Nat → Nat → Int32)) := f_X7_laysStraightened_J55 rec S0 v2 x3 1
set_option maxHeartbeats 4000000 in
set_option maxRecDepth 100000 in
theorem p_X7_laysStraightened_J50 (C : zC p R s m args meth c cX7_laysStraightened 4 RX7 wsX7_laysStraightened D T 6 137 0 0) (S0 : Nat → Nat → Int32) {v2 : Int32} (x3 : Int32)  (hD : va_D A (wX7 T a0 S0)) {rec : (Int32 × Int32 × (Nat → Nat → Int32)) → Option (Int32 × (Nat → Nat → Int32))} (hrec : ∀ (c0 : Int32) (c1 : Int32) (c2 : Nat → Nat → Int32) (b : Int32 × (Nat → Nat → Int32)), rec (c0, c1, c2) = some b → (zt p l e R s m args below meth c 4 A D 0 0 Q (wX7 T a0 b.2) [(0, .ref (a0 99)), (1, .int b.1), (2, .int v2)] 62 []) → zt p l e R s m args below meth c 4 A D 0 0 Q (wX7 T a0 c2) [(0, .ref (a0 99)), (1, .int c0), (2, .int v2), (3, .int c1)] 29 []) {b : Int32 × (Nat → Nat → Int32)} (K : zt p l e R s m args below meth c 4 A D 0 0 Q (wX7 T a0 b.2) [(0, .ref (a0 99)), (1, .int b.1), (2, .int v2)] 62 []) (h : f_X7_laysStraightened_J50 rec S0 v2 x3 = some b) : zt p l e R s m args below meth c 4 A D 0 0 Q (wX7 T a0 S0) [(0, .ref (a0 99)), (2, .int v2), (3, .int x3)] 50 [] := by
  unfold f_X7_laysStraightened_J50 at h
  refine z_iconst C 1 dX7_laysStraightened_50 (by decide) 51 rfl ?_
  refine z_goto C 55 dX7_laysStraightened_51 (by decide) ?_
  exact z_locals (ks := [0, 1, 2]) rfl (p_X7_laysStraightened_J55 C S0 x3 1 (hD.zaddr rfl) hrec K h)

def f_X7_laysStraightened_L29b  (v2 : Int32) (rec : (Int32 × Int32 × (Nat → Nat → Int32)) → Option (Int32 × (Nat → Nat → Int32))) (a : Int32 × Int32 × (Nat → Nat → Int32)) : Option (Int32 × (Nat → Nat → Int32)) := if (a.2.2 2 0) ≤ a.2.1 then (some (a.1, a.2.2)) else ((f_X7_straightens a.2.2 v2 a.2.1).bind fun r_3 => if r_3.1 = 0 then (if a.1 = 0 then (f_X7_laysStraightened_J55 rec r_3.2 v2 a.2.1 0) else (f_X7_laysStraightened_J50 rec r_3.2 v2 a.2.1)) else (f_X7_laysStraightened_J50 rec r_3.2 v2 a.2.1))
def f_X7_laysStraightened_L29  (v2 : Int32) : Nat → (Int32 × Int32 × (Nat → Nat → Int32)) → Option (Int32 × (Nat → Nat → Int32)) := zloop (fun rec a => f_X7_laysStraightened_L29b v2 rec a)
set_option maxHeartbeats 4000000 in
set_option maxRecDepth 100000 in
theorem p_X7_laysStraightened_L29 (C : zC p R s m args meth c cX7_laysStraightened 4 RX7 wsX7_laysStraightened D T 6 137 0 0) (S0 : Nat → Nat → Int32) (v2 : Int32) (hD : va_D A (wX7 T a0 S0)) : ∀ (n : Nat) (c0 : Int32) (c1 : Int32) (c2 : Nat → Nat → Int32) (b : Int32 × (Nat → Nat → Int32)), f_X7_laysStraightened_L29 v2 n (c0, c1, c2) = some b → (zt p l e R s m args below meth c 4 A D 0 0 Q (wX7 T a0 b.2) [(0, .ref (a0 99)), (1, .int b.1), (2, .int v2)] 62 []) → zt p l e R s m args below meth c 4 A D 0 0 Q (wX7 T a0 c2) [(0, .ref (a0 99)), (1, .int c0), (2, .int v2), (3, .int c1)] 29 [] := by
  intro n c0 c1 c2 b h K
  refine zloop_ind (P := fun a b => (zt p l e R s m args below meth c 4 A D 0 0 Q (wX7 T a0 b.2) [(0, .ref (a0 99)), (1, .int b.1), (2, .int v2)] 62 []) → zt p l e R s m args below meth c 4 A D 0 0 Q (wX7 T a0 a.2.2) [(0, .ref (a0 99)), (1, .int a.1), (2, .int v2), (3, .int a.2.1)] 29 []) ?_ n (c0, c1, c2) b h K
  clear h K b c0 c1 c2
  intro rec hrec a b h K
  have hrec : ∀ (c0 : Int32) (c1 : Int32) (c2 : Nat → Nat → Int32) (b : Int32 × (Nat → Nat → Int32)), rec (c0, c1, c2) = some b → (zt p l e R s m args below meth c 4 A D 0 0 Q (wX7 T a0 b.2) [(0, .ref (a0 99)), (1, .int b.1), (2, .int v2)] 62 []) → zt p l e R s m args below meth c 4 A D 0 0 Q (wX7 T a0 c2) [(0, .ref (a0 99)), (1, .int c0), (2, .int v2), (3, .int c1)] 29 [] := fun c0 c1 c2 b h K => hrec (c0, c1, c2) b h K
  unfold f_X7_laysStraightened_L29b at h
  refine z_iload_n C dX7_laysStraightened_29 rfl 3 rfl 30 rfl ?_
  refine z_aload_n C dX7_laysStraightened_30 rfl 0 rfl 31 rfl ?_
  refine z_get C (in_X7_laysStraightened_X7) 0 rfl rfl 2 (by decide) (List.mem_of_getElem? (i := 2) rfl) rfl rfl dX7_laysStraightened_31 34 rfl ?_
  refine z_icmp_ge C 62 dX7_laysStraightened_34 (by decide) 37 rfl h (fun h => ?_) (fun h => ?_)
  · refine z_locals (ks := [0, 1, 2]) (lv' := [(0, .ref (a0 99)), (1, .int a.1), (2, .int v2)]) rfl ?_
    exact zex2 (F := (fun e0 e1 => zt p l e R s m args below meth c 4 A D 0 0 Q (wX7 T a0 e1) [(0, .ref (a0 99)), (1, .int e0), (2, .int v2)] 62 [])) h K
  · refine z_aload_n C dX7_laysStraightened_37 rfl 0 rfl 38 rfl ?_
    refine z_iload_n C dX7_laysStraightened_38 rfl 2 rfl 39 rfl ?_
    refine z_iload_n C dX7_laysStraightened_39 rfl 3 rfl 40 rfl ?_
    refine z_callW C (wX7 T a0 a.2.2) (([] : va_W)) (fun z => z.1) (fun z => wX7 T a0 z.2) (fun z => wX7 T a0 z.2) (fun z h => c_X7_straightens l D T a0  a.2.2 v2 a.2.1 z h) ⟨rfl, rfl⟩ (z_cwV C 2 gX7_laysStraightened_X7_straightens rfl rfl dd_X7_straightens ⟨(Nat.le_of_ble_eq_true rfl), (Nat.le_of_ble_eq_true rfl)⟩) (hD.zaddr rfl) [0, 1, 2, 3, 4, 5, 6, 7, 8, 9, 10, 11, 12, 13, 14, 15, 16, 17] [] [0, 1, 2, 3, 4, 5, 6, 7, 8, 9, 10, 11, 12, 13, 14, 15, 16, 17] rfl rfl rfl (by decide) (fun _ => rfl) (fun _ => ⟨a0 99, [.int v2, .int a.2.1], 6, 0, _, _, rfl, rfl, rfl, rfl, rfl⟩) (fun h => absurd rfl h) rfl (Nat.le_of_ble_eq_true rfl) dX7_laysStraightened_40 43 rfl h (fun r_3 h => ?_)
    refine z_if_ne C 50 dX7_laysStraightened_43 (by decide) 46 rfl h (fun h => ?_) (fun h => ?_)
    · exact z_locals (ks := [0, 2, 3]) rfl (p_X7_laysStraightened_J50 C r_3.2 a.2.1 (hD.zaddr rfl) hrec K h)
    · refine z_iload_n C dX7_laysStraightened_46 rfl 1 rfl 47 rfl ?_
      refine z_if_eq C 54 dX7_laysStraightened_47 (by decide) 50 rfl h (fun h => ?_) (fun h => ?_)
      · refine z_iconst C 0 dX7_laysStraightened_54 (by decide) 55 rfl ?_
        exact z_locals (ks := [0, 2, 3]) rfl (p_X7_laysStraightened_J55 C r_3.2 a.2.1 0 (hD.zaddr rfl) hrec K h)
      · exact z_locals (ks := [0, 2, 3]) rfl (p_X7_laysStraightened_J50 C r_3.2 a.2.1 (hD.zaddr rfl) hrec K h)

def f_X7_laysStraightened_L22b   (rec : (Int32 × Int32 × (Nat → Nat → Int32)) → Option (Int32 × (Nat → Nat → Int32))) (a : Int32 × Int32 × (Nat → Nat → Int32)) : Option (Int32 × (Nat → Nat → Int32)) := if a.2.1 ≤ 2 then (some (a.1, a.2.2)) else ((f_X7_laysStraightened_L29 a.2.1 zfuel (a.1, 0, a.2.2)).bind fun y_4 => rec (y_4.1, (a.2.1 + (-1)), y_4.2))
def f_X7_laysStraightened_L22   : Nat → (Int32 × Int32 × (Nat → Nat → Int32)) → Option (Int32 × (Nat → Nat → Int32)) := zloop (fun rec a => f_X7_laysStraightened_L22b  rec a)
set_option maxHeartbeats 4000000 in
set_option maxRecDepth 100000 in
theorem p_X7_laysStraightened_L22 (C : zC p R s m args meth c cX7_laysStraightened 4 RX7 wsX7_laysStraightened D T 6 137 0 0) (S0 : Nat → Nat → Int32)  (hD : va_D A (wX7 T a0 S0)) : ∀ (n : Nat) (c0 : Int32) (c1 : Int32) (c2 : Nat → Nat → Int32) (b : Int32 × (Nat → Nat → Int32)), f_X7_laysStraightened_L22  n (c0, c1, c2) = some b → (zt p l e R s m args below meth c 4 A D 0 0 Q (wX7 T a0 b.2) [(0, .ref (a0 99)), (1, .int b.1)] 68 []) → zt p l e R s m args below meth c 4 A D 0 0 Q (wX7 T a0 c2) [(0, .ref (a0 99)), (1, .int c0), (2, .int c1)] 22 [] := by
  intro n c0 c1 c2 b h K
  refine zloop_ind (P := fun a b => (zt p l e R s m args below meth c 4 A D 0 0 Q (wX7 T a0 b.2) [(0, .ref (a0 99)), (1, .int b.1)] 68 []) → zt p l e R s m args below meth c 4 A D 0 0 Q (wX7 T a0 a.2.2) [(0, .ref (a0 99)), (1, .int a.1), (2, .int a.2.1)] 22 []) ?_ n (c0, c1, c2) b h K
  clear h K b c0 c1 c2
  intro rec hrec a b h K
  have hrec : ∀ (c0 : Int32) (c1 : Int32) (c2 : Nat → Nat → Int32) (b : Int32 × (Nat → Nat → Int32)), rec (c0, c1, c2) = some b → (zt p l e R s m args below meth c 4 A D 0 0 Q (wX7 T a0 b.2) [(0, .ref (a0 99)), (1, .int b.1)] 68 []) → zt p l e R s m args below meth c 4 A D 0 0 Q (wX7 T a0 c2) [(0, .ref (a0 99)), (1, .int c0), (2, .int c1)] 22 [] := fun c0 c1 c2 b h K => hrec (c0, c1, c2) b h K
  unfold f_X7_laysStraightened_L22b at h
  refine z_iload_n C dX7_laysStraightened_22 rfl 2 rfl 23 rfl ?_
  refine z_iconst C 2 dX7_laysStraightened_23 (by decide) 24 rfl ?_
  refine z_icmp_le C 68 dX7_laysStraightened_24 (by decide) 27 rfl h (fun h => ?_) (fun h => ?_)
  · refine z_locals (ks := [0, 1]) (lv' := [(0, .ref (a0 99)), (1, .int a.1)]) rfl ?_
    exact zex2 (F := (fun e0 e1 => zt p l e R s m args below meth c 4 A D 0 0 Q (wX7 T a0 e1) [(0, .ref (a0 99)), (1, .int e0)] 68 [])) h K
  · refine z_iconst C 0 dX7_laysStraightened_27 (by decide) 28 rfl ?_
    refine z_istore_n C [(0, .ref (a0 99)), (1, .int a.1), (2, .int a.2.1), (3, .int 0)] dX7_laysStraightened_28 rfl (Nat.le_of_ble_eq_true rfl) [1, 2, 3, 0] rfl 29 rfl ?_
    obtain ⟨y_4, hl_y_4, h⟩ := Option.bind_eq_some_iff.mp h
    refine z_locals (ks := [0, 1, 2, 3]) rfl (p_X7_laysStraightened_L29 C a.2.2 a.2.1 (hD.zaddr rfl) _ _ _ _ _ hl_y_4 ?_)
    refine z_iinc C (a.2.1 + (-1)) [(0, .ref (a0 99)), (1, .int y_4.1), (2, .int (a.2.1 + (-1)))] dX7_laysStraightened_62 2 rfl rfl (Nat.le_of_ble_eq_true rfl) [1, 2, 0] rfl 65 rfl ?_
    refine z_goto C 22 dX7_laysStraightened_65 (by decide) ?_
    exact z_locals (ks := [0, 1, 2]) rfl (hrec _ _ _ _ h K)

def f_X7_laysStraightened_L11b   (rec : (Int32 × (Nat → Nat → Int32)) → Option ((Nat → Nat → Int32))) (a : Int32 × (Nat → Nat → Int32)) : Option ((Nat → Nat → Int32)) := if a.1 = 0 then (some a.2) else (zlet (a.2 1 0) fun u_2 => (f_X7_laysStraightened_L22  zfuel (0, u_2, a.2)).bind fun y_5 => rec (y_5.1, y_5.2))
def f_X7_laysStraightened_L11   : Nat → (Int32 × (Nat → Nat → Int32)) → Option ((Nat → Nat → Int32)) := zloop (fun rec a => f_X7_laysStraightened_L11b  rec a)
set_option maxHeartbeats 4000000 in
set_option maxRecDepth 100000 in
theorem p_X7_laysStraightened_L11 (C : zC p R s m args meth c cX7_laysStraightened 4 RX7 wsX7_laysStraightened D T 6 137 0 0) (S0 : Nat → Nat → Int32)  (hD : va_D A (wX7 T a0 S0)) : ∀ (n : Nat) (c0 : Int32) (c1 : Nat → Nat → Int32) (b : (Nat → Nat → Int32)), f_X7_laysStraightened_L11  n (c0, c1) = some b → (zt p l e R s m args below meth c 4 A D 0 0 Q (wX7 T a0 b) [] 71 []) → zt p l e R s m args below meth c 4 A D 0 0 Q (wX7 T a0 c1) [(0, .ref (a0 99)), (1, .int c0)] 11 [] := by
  intro n c0 c1 b h K
  refine zloop_ind (P := fun a b => (zt p l e R s m args below meth c 4 A D 0 0 Q (wX7 T a0 b) [] 71 []) → zt p l e R s m args below meth c 4 A D 0 0 Q (wX7 T a0 a.2) [(0, .ref (a0 99)), (1, .int a.1)] 11 []) ?_ n (c0, c1) b h K
  clear h K b c0 c1
  intro rec hrec a b h K
  have hrec : ∀ (c0 : Int32) (c1 : Nat → Nat → Int32) (b : (Nat → Nat → Int32)), rec (c0, c1) = some b → (zt p l e R s m args below meth c 4 A D 0 0 Q (wX7 T a0 b) [] 71 []) → zt p l e R s m args below meth c 4 A D 0 0 Q (wX7 T a0 c1) [(0, .ref (a0 99)), (1, .int c0)] 11 [] := fun c0 c1 b h K => hrec (c0, c1) b h K
  unfold f_X7_laysStraightened_L11b at h
  refine z_iload_n C dX7_laysStraightened_11 rfl 1 rfl 12 rfl ?_
  refine z_if_eq C 71 dX7_laysStraightened_12 (by decide) 15 rfl h (fun h => ?_) (fun h => ?_)
  · refine z_locals (ks := []) (lv' := []) rfl ?_
    exact zex1 (F := (fun e0 => zt p l e R s m args below meth c 4 A D 0 0 Q (wX7 T a0 e0) [] 71 [])) h K
  · refine z_iconst C 0 dX7_laysStraightened_15 (by decide) 16 rfl ?_
    refine z_istore_n C [(0, .ref (a0 99)), (1, .int 0)] dX7_laysStraightened_16 rfl (Nat.le_of_ble_eq_true rfl) [1, 0] rfl 17 rfl ?_
    refine z_aload_n C dX7_laysStraightened_17 rfl 0 rfl 18 rfl ?_
    refine z_get C (in_X7_laysStraightened_X7) 0 rfl rfl 1 (by decide) (List.mem_of_getElem? (i := 1) rfl) rfl rfl dX7_laysStraightened_18 21 rfl ?_
    refine z_top h (fun u_2 h => ?_)
    refine z_istore_n C [(0, .ref (a0 99)), (1, .int 0), (2, .int u_2)] dX7_laysStraightened_21 rfl (Nat.le_of_ble_eq_true rfl) [1, 2, 0] rfl 22 rfl ?_
    obtain ⟨y_5, hl_y_5, h⟩ := Option.bind_eq_some_iff.mp h
    refine z_locals (ks := [0, 1, 2]) rfl (p_X7_laysStraightened_L22 C a.2  (hD.zaddr rfl) _ _ _ _ _ hl_y_5 ?_)
    refine z_goto C 11 dX7_laysStraightened_68 (by decide) ?_
    exact z_locals (ks := [0, 1]) rfl (hrec _ _ _ h K)

def f_X7_laysStraightened (S0 : Nat → Nat → Int32)  : Option (Int32 × (Nat → Nat → Int32)) := (f_X7_laysLean S0).bind fun r_1 => if r_1.1 = 0 then (some (0, r_1.2)) else ((f_X7_laysStraightened_L11  zfuel (1, r_1.2)).bind fun y_6 => some (1, y_6))
theorem dd_X7_laysStraightened : RX7 ≠ "java/lang/invoke/MethodHandle" ∧ RX7 ≠ "java/lang/invoke/VarHandle" ∧ (parseMethodDescriptor yX7_laysStraightened.desc).map (fun d => d.parameters.length) = some 0 := by decide +kernel
set_option maxHeartbeats 4000000 in
set_option maxRecDepth 100000 in
theorem c_X7_laysStraightened (l : Launch) (D : va_G) (T : Nat → ClassId) (a0 : Nat → Nat) (S0 : Nat → Nat → Int32)  (ex : Int32 × (Nat → Nat → Int32)) (h : f_X7_laysStraightened S0 = some ex) : zWI l yX7_laysStraightened wsX7_laysStraightened ({ frames := 6, cells := 0, slots := 0, locals := 137 } : Room) D T [.ref (a0 99)] (wX7 T a0 S0) ex.1 (wX7 T a0 ex.2) := by
  refine z_begin (cc := cX7_laysStraightened) (nL := 4) (own := RX7) (fr := 6) (lc := 137) (ret := some .boolean) (by decide) rfl (Nat.le_of_ble_eq_true rfl) (zA (wX7 T a0 S0)) rfl [(0, .ref (a0 99))] rfl ⟨rfl, rfl⟩ rfl ?_
  intro p e s m args below meth c C hr hD
  have hD := hD.zself
  unfold f_X7_laysStraightened at h
  refine z_aload_n C dX7_laysStraightened_0 rfl 0 rfl 1 rfl ?_
  refine z_callW C (wX7 T a0 S0) (([] : va_W)) (fun z => z.1) (fun z => wX7 T a0 z.2) (fun z => wX7 T a0 z.2) (fun z h => c_X7_laysLean l D T a0  S0  z h) ⟨rfl, rfl⟩ (z_cwV C 0 gX7_laysStraightened_X7_laysLean rfl rfl dd_X7_laysLean ⟨(Nat.le_of_ble_eq_true rfl), (Nat.le_of_ble_eq_true rfl)⟩) (hD.zaddr rfl) [0, 1, 2, 3, 4, 5, 6, 7, 8, 9, 10, 11, 12, 13, 14, 15, 16, 17] [] [0, 1, 2, 3, 4, 5, 6, 7, 8, 9, 10, 11, 12, 13, 14, 15, 16, 17] rfl rfl rfl (by decide) (fun _ => rfl) (fun _ => ⟨a0 99, [], 6, 0, _, _, rfl, rfl, rfl, rfl, rfl⟩) (fun h => absurd rfl h) rfl (Nat.le_of_ble_eq_true rfl) dX7_laysStraightened_1 4 rfl h (fun r_1 h => ?_)
  refine z_if_ne C 9 dX7_laysStraightened_4 (by decide) 7 rfl h (fun h => ?_) (fun h => ?_)
  · refine z_iconst C 1 dX7_laysStraightened_9 (by decide) 10 rfl ?_
    refine z_istore_n C [(0, .ref (a0 99)), (1, .int 1)] dX7_laysStraightened_10 rfl (Nat.le_of_ble_eq_true rfl) [1, 0] rfl 11 rfl ?_
    obtain ⟨y_6, hl_y_6, h⟩ := Option.bind_eq_some_iff.mp h
    refine z_locals (ks := [0, 1]) rfl (p_X7_laysStraightened_L11 C r_1.2  (hD.zaddr rfl) _ _ _ _ hl_y_6 ?_)
    refine z_iconst C 1 dX7_laysStraightened_71 (by decide) 72 rfl ?_
    exact z_zretWc (x := y_6) (ex := ex) (fun z => wX7 T a0 z) C hr dX7_laysStraightened_72 (Or.inr rfl) h rfl
  · refine z_iconst C 0 dX7_laysStraightened_7 (by decide) 8 rfl ?_
    exact z_zretWc (x := r_1.2) (ex := ex) (fun z => wX7 T a0 z) C hr dX7_laysStraightened_8 (Or.inl rfl) h rfl

end
/-! StreamTreeModel.lays (I)Z -/
section
variable {p : Program} {l : Launch} {e : Env} {R : Room} {s : State} {m : MethodId} {args : Array Value} {below : List Frame} {meth : Method} {c : Code} {Q : State → Prop} {A : Nat → Prop} {D : va_G} {T : Nat → ClassId} {a0 : Nat → Nat}
def f_X7_lays (S0 : Nat → Nat → Int32) (v1 : Int32) : Option (Int32 × (Nat → Nat → Int32)) := (f_X7_clears S0).bind fun r_1 => if v1 = 1 then ((f_X7_laysStraight r_1).bind fun r_2 => zbo r_2.1 (some (r_2.1, r_2.2))) else (if v1 = 2 then ((f_X7_laysLean r_1).bind fun r_3 => zbo r_3.1 (some (r_3.1, r_3.2))) else (if v1 = 3 then ((f_X7_laysStraightened r_1).bind fun r_4 => zbo r_4.1 (some (r_4.1, r_4.2))) else ((f_X7_laysLeast r_1).bind fun r_5 => zbo r_5.1 (some (r_5.1, r_5.2)))))
theorem dd_X7_lays : RX7 ≠ "java/lang/invoke/MethodHandle" ∧ RX7 ≠ "java/lang/invoke/VarHandle" ∧ (parseMethodDescriptor yX7_lays.desc).map (fun d => d.parameters.length) = some 1 := by decide +kernel
set_option maxHeartbeats 4000000 in
set_option maxRecDepth 100000 in
theorem c_X7_lays (l : Launch) (D : va_G) (T : Nat → ClassId) (a0 : Nat → Nat) (S0 : Nat → Nat → Int32) (v1 : Int32) (ex : Int32 × (Nat → Nat → Int32)) (h : f_X7_lays S0 v1 = some ex) : zWI l yX7_lays wsX7_lays ({ frames := 43, cells := 0, slots := 0, locals := 1706 } : Room) D T [.ref (a0 99), .int v1] (wX7 T a0 S0) ex.1 (wX7 T a0 ex.2) := by
  refine z_begin (cc := cX7_lays) (nL := 2) (own := RX7) (fr := 43) (lc := 1706) (ret := some .boolean) (by decide) rfl (Nat.le_of_ble_eq_true rfl) (zA (wX7 T a0 S0)) rfl [(0, .ref (a0 99)), (1, .int v1)] rfl ⟨rfl, rfl⟩ rfl ?_
  intro p e s m args below meth c C hr hD
  have hD := hD.zself
  unfold f_X7_lays at h
  refine z_aload_n C dX7_lays_0 rfl 0 rfl 1 rfl ?_
  refine z_callV C (wX7 T a0 S0) (([] : va_W)) (fun z => wX7 T a0 z) (fun z => wX7 T a0 z) (fun z h => c_X7_clears l D T a0  S0  z h) ⟨rfl, rfl⟩ (z_cwV C 0 gX7_lays_X7_clears rfl rfl dd_X7_clears ⟨(Nat.le_of_ble_eq_true rfl), (Nat.le_of_ble_eq_true rfl)⟩) (hD.zaddr rfl) [0, 1, 2, 3, 4, 5, 6, 7, 8, 9, 10, 11, 12, 13, 14, 15, 16, 17] [] [0, 1, 2, 3, 4, 5, 6, 7, 8, 9, 10, 11, 12, 13, 14, 15, 16, 17] rfl rfl rfl (by decide) (fun _ => rfl) (fun _ => ⟨a0 99, [], 6, 0, _, _, rfl, rfl, rfl, rfl, rfl⟩) (fun h => absurd rfl h) rfl (Nat.le_of_ble_eq_true rfl) dX7_lays_1 4 rfl h (fun r_1 h => ?_)
  refine z_iload_n C dX7_lays_4 rfl 1 rfl 5 rfl ?_
  refine z_case h (fun hx h => ?_) (fun hx_0 h => ?_)
  · refine z_tableIn (off := 27) C 32 dX7_lays_5 hx (by decide) (by decide) (by decide) (by decide) ?_
    refine z_aload_n C dX7_lays_32 rfl 0 rfl 33 rfl ?_
    refine z_callW C (wX7 T a0 r_1) (([] : va_W)) (fun z => z.1) (fun z => wX7 T a0 z.2) (fun z => wX7 T a0 z.2) (fun z h => c_X7_laysStraight l D T a0  r_1  z h) ⟨rfl, rfl⟩ (z_cwV C 0 gX7_lays_X7_laysStraight rfl rfl dd_X7_laysStraight ⟨(Nat.le_of_ble_eq_true rfl), (Nat.le_of_ble_eq_true rfl)⟩) (hD.zaddr rfl) [0, 1, 2, 3, 4, 5, 6, 7, 8, 9, 10, 11, 12, 13, 14, 15, 16, 17] [] [0, 1, 2, 3, 4, 5, 6, 7, 8, 9, 10, 11, 12, 13, 14, 15, 16, 17] rfl rfl rfl (by decide) (fun _ => rfl) (fun _ => ⟨a0 99, [], 6, 0, _, _, rfl, rfl, rfl, rfl, rfl⟩) (fun h => absurd rfl h) rfl (Nat.le_of_ble_eq_true rfl) dX7_lays_33 36 rfl h (fun r_2 h => ?_)
    exact z_zretW (x := r_2.2) (ex := ex) (fun z => wX7 T a0 z) C hr dX7_lays_36 h rfl
  · refine z_case h (fun hx h => ?_) (fun hx_1 h => ?_)
    · refine z_tableIn (off := 32) C 37 dX7_lays_5 hx (by decide) (by decide) (by decide) (by decide) ?_
      refine z_aload_n C dX7_lays_37 rfl 0 rfl 38 rfl ?_
      refine z_callW C (wX7 T a0 r_1) (([] : va_W)) (fun z => z.1) (fun z => wX7 T a0 z.2) (fun z => wX7 T a0 z.2) (fun z h => c_X7_laysLean l D T a0  r_1  z h) ⟨rfl, rfl⟩ (z_cwV C 0 gX7_lays_X7_laysLean rfl rfl dd_X7_laysLean ⟨(Nat.le_of_ble_eq_true rfl), (Nat.le_of_ble_eq_true rfl)⟩) (hD.zaddr rfl) [0, 1, 2, 3, 4, 5, 6, 7, 8, 9, 10, 11, 12, 13, 14, 15, 16, 17] [] [0, 1, 2, 3, 4, 5, 6, 7, 8, 9, 10, 11, 12, 13, 14, 15, 16, 17] rfl rfl rfl (by decide) (fun _ => rfl) (fun _ => ⟨a0 99, [], 6, 0, _, _, rfl, rfl, rfl, rfl, rfl⟩) (fun h => absurd rfl h) rfl (Nat.le_of_ble_eq_true rfl) dX7_lays_38 41 rfl h (fun r_3 h => ?_)
      exact z_zretW (x := r_3.2) (ex := ex) (fun z => wX7 T a0 z) C hr dX7_lays_41 h rfl
    · refine z_case h (fun hx h => ?_) (fun hx_2 h => ?_)
      · refine z_tableIn (off := 37) C 42 dX7_lays_5 hx (by decide) (by decide) (by decide) (by decide) ?_
        refine z_aload_n C dX7_lays_42 rfl 0 rfl 43 rfl ?_
        refine z_callW C (wX7 T a0 r_1) (([] : va_W)) (fun z => z.1) (fun z => wX7 T a0 z.2) (fun z => wX7 T a0 z.2) (fun z h => c_X7_laysStraightened l D T a0  r_1  z h) ⟨rfl, rfl⟩ (z_cwV C 0 gX7_lays_X7_laysStraightened rfl rfl dd_X7_laysStraightened ⟨(Nat.le_of_ble_eq_true rfl), (Nat.le_of_ble_eq_true rfl)⟩) (hD.zaddr rfl) [0, 1, 2, 3, 4, 5, 6, 7, 8, 9, 10, 11, 12, 13, 14, 15, 16, 17] [] [0, 1, 2, 3, 4, 5, 6, 7, 8, 9, 10, 11, 12, 13, 14, 15, 16, 17] rfl rfl rfl (by decide) (fun _ => rfl) (fun _ => ⟨a0 99, [], 6, 0, _, _, rfl, rfl, rfl, rfl, rfl⟩) (fun h => absurd rfl h) rfl (Nat.le_of_ble_eq_true rfl) dX7_lays_43 46 rfl h (fun r_4 h => ?_)
        exact z_zretW (x := r_4.2) (ex := ex) (fun z => wX7 T a0 z) C hr dX7_lays_46 h rfl
      · refine z_tableOut C 47 dX7_lays_5 (by have : (v1).toInt ≠ 1 := z_ne_toInt hx_0; have : (v1).toInt ≠ 2 := z_ne_toInt hx_1; have : (v1).toInt ≠ 3 := z_ne_toInt hx_2; omega) (by decide) ?_
        refine z_aload_n C dX7_lays_47 rfl 0 rfl 48 rfl ?_
        refine z_callW C (wX7 T a0 r_1) (([] : va_W)) (fun z => z.1) (fun z => wX7 T a0 z.2) (fun z => wX7 T a0 z.2) (fun z h => c_X7_laysLeast l D T a0  r_1  z h) ⟨rfl, rfl⟩ (z_cwV C 0 gX7_lays_X7_laysLeast rfl rfl dd_X7_laysLeast ⟨(Nat.le_of_ble_eq_true rfl), (Nat.le_of_ble_eq_true rfl)⟩) (hD.zaddr rfl) [0, 1, 2, 3, 4, 5, 6, 7, 8, 9, 10, 11, 12, 13, 14, 15, 16, 17] [] [0, 1, 2, 3, 4, 5, 6, 7, 8, 9, 10, 11, 12, 13, 14, 15, 16, 17] rfl rfl rfl (by decide) (fun _ => rfl) (fun _ => ⟨a0 99, [], 6, 0, _, _, rfl, rfl, rfl, rfl, rfl⟩) (fun h => absurd rfl h) rfl (Nat.le_of_ble_eq_true rfl) dX7_lays_48 51 rfl h (fun r_5 h => ?_)
        exact z_zretW (x := r_5.2) (ex := ex) (fun z => wX7 T a0 z) C hr dX7_lays_51 h rfl

end
/-! StreamTreeModel.ink (I)I -/
section
variable {p : Program} {l : Launch} {e : Env} {R : Room} {s : State} {m : MethodId} {args : Array Value} {below : List Frame} {meth : Method} {c : Code} {Q : State → Prop} {A : Nat → Prop} {D : va_G} {T : Nat → ClassId} {a0 : Nat → Nat}
theorem in_X7_ink_X7 : ∀ w ∈ u_ws RX7 TX7 35, w ∈ wsX7_ink := fun _ h => (List.mem_cons_of_mem _ (List.mem_append_right _ h))
def f_X7_ink (S0 : Nat → Nat → Int32) (v1 : Int32) : Option (Int32 × (Nat → Nat → Int32)) := zlet (zst S0 0 0 0) fun S0_1 => (f_X7_within v1 0 4).bind fun r_2 => if r_2 = 0 then (some ((-1), S0_1)) else (if v1 = 0 then ((f_X7_allAlone S0_1).bind fun r_5 => some (r_5.1, r_5.2)) else ((f_X7_lays S0_1 v1).bind fun r_3 => if r_3.1 = 0 then (some ((-2), r_3.2)) else ((f_X7_inkNow r_3.2).bind fun r_4 => some (r_4, r_3.2))))
theorem dd_X7_ink : RX7 ≠ "java/lang/invoke/MethodHandle" ∧ RX7 ≠ "java/lang/invoke/VarHandle" ∧ (parseMethodDescriptor yX7_ink.desc).map (fun d => d.parameters.length) = some 1 := by decide +kernel
set_option maxHeartbeats 4000000 in
set_option maxRecDepth 100000 in
theorem c_X7_ink (l : Launch) (D : va_G) (T : Nat → ClassId) (a0 : Nat → Nat) (S0 : Nat → Nat → Int32) (v1 : Int32) (ex : Int32 × (Nat → Nat → Int32)) (h : f_X7_ink S0 v1 = some ex) : zWI l yX7_ink wsX7_ink ({ frames := 44, cells := 0, slots := 0, locals := 1727 } : Room) D T [.ref (a0 99), .int v1] (wX7 T a0 S0) ex.1 (wX7 T a0 ex.2) := by
  refine z_begin (cc := cX7_ink) (nL := 2) (own := RX7) (fr := 44) (lc := 1727) (ret := some .int) (by decide) rfl (Nat.le_of_ble_eq_true rfl) (zA (wX7 T a0 S0)) rfl [(0, .ref (a0 99)), (1, .int v1)] rfl ⟨rfl, rfl⟩ rfl ?_
  intro p e s m args below meth c C hr hD
  have hD := hD.zself
  unfold f_X7_ink at h
  refine z_aload_n C dX7_ink_0 rfl 0 rfl 1 rfl ?_
  refine z_iconst C 0 dX7_ink_1 (by decide) 2 rfl ?_
  refine z_put (ty := .int) C (fun z => wX7 T a0 z) S0 (hD.zaddr rfl) (in_X7_ink_X7) tyX7 tyX7_ok nmX7 0 rfl rfl 0 (by decide) (List.mem_of_getElem? (i := 1) rfl) rfl rfl (by decide +kernel) rfl rfl (Nat.le_of_ble_eq_true rfl) rfl dX7_ink_2 5 rfl h (fun S0_1 h => ?_)
  refine z_iload_n C dX7_ink_5 rfl 1 rfl 6 rfl ?_
  refine z_iconst C 0 dX7_ink_6 (by decide) 7 rfl ?_
  refine z_iconst C 4 dX7_ink_7 (by decide) 8 rfl ?_
  refine z_callR C ([]) (fun v h => c_X7_within l D T    v1 0 4 v h) ⟨rfl, rfl⟩ (z_cwS C 3 gX7_ink_X7_within rfl dd_X7_within ⟨(Nat.le_of_ble_eq_true rfl), (Nat.le_of_ble_eq_true rfl)⟩) (hD.zaddr rfl) [] rfl rfl (fun h => absurd h (by decide)) (fun _ => rfl) rfl (Nat.le_of_ble_eq_true rfl) dX7_ink_8 11 rfl h (fun r_2 h => ?_)
  refine z_if_ne C 16 dX7_ink_11 (by decide) 14 rfl h (fun h => ?_) (fun h => ?_)
  · refine z_iload_n C dX7_ink_16 rfl 1 rfl 17 rfl ?_
    refine z_if_ne C 25 dX7_ink_17 (by decide) 20 rfl h (fun h => ?_) (fun h => ?_)
    · refine z_aload_n C dX7_ink_25 rfl 0 rfl 26 rfl ?_
      refine z_iload_n C dX7_ink_26 rfl 1 rfl 27 rfl ?_
      refine z_callW C (wX7 T a0 S0_1) (([] : va_W)) (fun z => z.1) (fun z => wX7 T a0 z.2) (fun z => wX7 T a0 z.2) (fun z h => c_X7_lays l D T a0  S0_1 v1 z h) ⟨rfl, rfl⟩ (z_cwV C 1 gX7_ink_X7_lays rfl rfl dd_X7_lays ⟨(Nat.le_of_ble_eq_true rfl), (Nat.le_of_ble_eq_true rfl)⟩) (hD.zaddr rfl) [0, 1, 2, 3, 4, 5, 6, 7, 8, 9, 10, 11, 12, 13, 14, 15, 16, 17] [] [0, 1, 2, 3, 4, 5, 6, 7, 8, 9, 10, 11, 12, 13, 14, 15, 16, 17] rfl rfl rfl (by decide) (fun _ => rfl) (fun _ => ⟨a0 99, [.int v1], 6, 0, _, _, rfl, rfl, rfl, rfl, rfl⟩) (fun h => absurd rfl h) rfl (Nat.le_of_ble_eq_true rfl) dX7_ink_27 30 rfl h (fun r_3 h => ?_)
      refine z_if_eq C 40 dX7_ink_30 (by decide) 33 rfl h (fun h => ?_) (fun h => ?_)
      · refine z_bipush C (-2) dX7_ink_40 (by decide) 42 rfl ?_
        exact z_iretW (x := r_3.2) (ex := ex) (fun z => wX7 T a0 z) C hr dX7_ink_42 h rfl
      · refine z_aload_n C dX7_ink_33 rfl 0 rfl 34 rfl ?_
        refine z_callR C (wX7 T a0 r_3.2) (fun v h => c_X7_inkNow l D T a0  r_3.2  v h) ⟨rfl, rfl⟩ (z_cwV C 0 gX7_ink_X7_inkNow rfl rfl dd_X7_inkNow ⟨(Nat.le_of_ble_eq_true rfl), (Nat.le_of_ble_eq_true rfl)⟩) (hD.zaddr rfl) [0, 1, 2, 3, 4, 5, 6, 7, 8, 9, 10, 11, 12, 13, 14, 15, 16, 17] rfl rfl (fun _ => ⟨a0 99, [], 6, 0, _, _, rfl, rfl, rfl, rfl, rfl⟩) (fun h => absurd rfl h) rfl (Nat.le_of_ble_eq_true rfl) dX7_ink_34 37 rfl h (fun r_4 h => ?_)
        refine z_goto C 42 dX7_ink_37 (by decide) ?_
        exact z_iretW (x := r_3.2) (ex := ex) (fun z => wX7 T a0 z) C hr dX7_ink_42 h rfl
    · refine z_aload_n C dX7_ink_20 rfl 0 rfl 21 rfl ?_
      refine z_callW C (wX7 T a0 S0_1) (([] : va_W)) (fun z => z.1) (fun z => wX7 T a0 z.2) (fun z => wX7 T a0 z.2) (fun z h => c_X7_allAlone l D T a0  S0_1  z h) ⟨rfl, rfl⟩ (z_cwV C 0 gX7_ink_X7_allAlone rfl rfl dd_X7_allAlone ⟨(Nat.le_of_ble_eq_true rfl), (Nat.le_of_ble_eq_true rfl)⟩) (hD.zaddr rfl) [0, 1, 2, 3, 4, 5, 6, 7, 8, 9, 10, 11, 12, 13, 14, 15, 16, 17] [] [0, 1, 2, 3, 4, 5, 6, 7, 8, 9, 10, 11, 12, 13, 14, 15, 16, 17] rfl rfl rfl (by decide) (fun _ => rfl) (fun _ => ⟨a0 99, [], 6, 0, _, _, rfl, rfl, rfl, rfl, rfl⟩) (fun h => absurd rfl h) rfl (Nat.le_of_ble_eq_true rfl) dX7_ink_21 24 rfl h (fun r_5 h => ?_)
      exact z_iretW (x := r_5.2) (ex := ex) (fun z => wX7 T a0 z) C hr dX7_ink_24 h rfl
  · refine z_iconst C (-1) dX7_ink_14 (by decide) 15 rfl ?_
    exact z_iretW (x := S0_1) (ex := ex) (fun z => wX7 T a0 z) C hr dX7_ink_15 h rfl

end
/-! StreamTreeModel.width (III)I -/
section
variable {p : Program} {l : Launch} {e : Env} {R : Room} {s : State} {m : MethodId} {args : Array Value} {below : List Frame} {meth : Method} {c : Code} {Q : State → Prop} {A : Nat → Prop} {D : va_G} {T : Nat → ClassId} {a0 : Nat → Nat}
theorem in_X7_width_X7 : ∀ w ∈ u_ws RX7 TX7 35, w ∈ wsX7_width := fun _ h => (List.mem_cons_of_mem _ (List.mem_append_right _ h))
def f_X7_width (S0 : Nat → Nat → Int32) (v1 : Int32) (v2 : Int32) (v3 : Int32) : Option (Int32 × (Nat → Nat → Int32)) := zlet (zst S0 0 0 0) fun S0_1 => (f_X7_isManner S0_1 v1).bind fun r_2 => if r_2 = 0 then (some ((-1), S0_1)) else ((f_X7_isAny S0_1 v2 v3).bind fun r_3 => if r_3 = 0 then (some ((-1), S0_1)) else ((f_X7_lays S0_1 v1).bind fun r_4 => if r_4.1 = 0 then (some ((-2), r_4.2)) else ((f_X7_cell v2 v3).bind fun r_5 => zix r_5 240 fun _ => some ((r_4.2 27 (Int32.toNatClampNeg r_5)), r_4.2))))
theorem dd_X7_width : RX7 ≠ "java/lang/invoke/MethodHandle" ∧ RX7 ≠ "java/lang/invoke/VarHandle" ∧ (parseMethodDescriptor yX7_width.desc).map (fun d => d.parameters.length) = some 3 := by decide +kernel
set_option maxHeartbeats 4000000 in
set_option maxRecDepth 100000 in
theorem c_X7_width (l : Launch) (D : va_G) (T : Nat → ClassId) (a0 : Nat → Nat) (S0 : Nat → Nat → Int32) (v1 : Int32) (v2 : Int32) (v3 : Int32) (ex : Int32 × (Nat → Nat → Int32)) (h : f_X7_width S0 v1 v2 v3 = some ex) : zWI l yX7_width wsX7_width ({ frames := 44, cells := 0, slots := 0, locals := 1727 } : Room) D T [.ref (a0 99), .int v1, .int v2, .int v3] (wX7 T a0 S0) ex.1 (wX7 T a0 ex.2) := by
  refine z_begin (cc := cX7_width) (nL := 4) (own := RX7) (fr := 44) (lc := 1727) (ret := some .int) (by decide) rfl (Nat.le_of_ble_eq_true rfl) (zA (wX7 T a0 S0)) rfl [(0, .ref (a0 99)), (1, .int v1), (2, .int v2), (3, .int v3)] rfl ⟨rfl, rfl⟩ rfl ?_
  intro p e s m args below meth c C hr hD
  have hD := hD.zself
  unfold f_X7_width at h
  refine z_aload_n C dX7_width_0 rfl 0 rfl 1 rfl ?_
  refine z_iconst C 0 dX7_width_1 (by decide) 2 rfl ?_
  refine z_put (ty := .int) C (fun z => wX7 T a0 z) S0 (hD.zaddr rfl) (in_X7_width_X7) tyX7 tyX7_ok nmX7 0 rfl rfl 0 (by decide) (List.mem_of_getElem? (i := 1) rfl) rfl rfl (by decide +kernel) rfl rfl (Nat.le_of_ble_eq_true rfl) rfl dX7_width_2 5 rfl h (fun S0_1 h => ?_)
  refine z_aload_n C dX7_width_5 rfl 0 rfl 6 rfl ?_
  refine z_iload_n C dX7_width_6 rfl 1 rfl 7 rfl ?_
  refine z_callR C (wX7 T a0 S0_1) (fun v h => c_X7_isManner l D T a0  S0_1 v1 v h) ⟨rfl, rfl⟩ (z_cwV C 1 gX7_width_X7_isManner rfl rfl dd_X7_isManner ⟨(Nat.le_of_ble_eq_true rfl), (Nat.le_of_ble_eq_true rfl)⟩) (hD.zaddr rfl) [0, 1, 2, 3, 4, 5, 6, 7, 8, 9, 10, 11, 12, 13, 14, 15, 16, 17] rfl rfl (fun _ => ⟨a0 99, [.int v1], 6, 0, _, _, rfl, rfl, rfl, rfl, rfl⟩) (fun h => absurd rfl h) rfl (Nat.le_of_ble_eq_true rfl) dX7_width_7 10 rfl h (fun r_2 h => ?_)
  refine z_if_eq C 22 dX7_width_10 (by decide) 13 rfl h (fun h => ?_) (fun h => ?_)
  · refine z_iconst C (-1) dX7_width_22 (by decide) 23 rfl ?_
    exact z_iretW (x := S0_1) (ex := ex) (fun z => wX7 T a0 z) C hr dX7_width_23 h rfl
  · refine z_aload_n C dX7_width_13 rfl 0 rfl 14 rfl ?_
    refine z_iload_n C dX7_width_14 rfl 2 rfl 15 rfl ?_
    refine z_iload_n C dX7_width_15 rfl 3 rfl 16 rfl ?_
    refine z_callR C (wX7 T a0 S0_1) (fun v h => c_X7_isAny l D T a0  S0_1 v2 v3 v h) ⟨rfl, rfl⟩ (z_cwV C 2 gX7_width_X7_isAny rfl rfl dd_X7_isAny ⟨(Nat.le_of_ble_eq_true rfl), (Nat.le_of_ble_eq_true rfl)⟩) (hD.zaddr rfl) [0, 1, 2, 3, 4, 5, 6, 7, 8, 9, 10, 11, 12, 13, 14, 15, 16, 17] rfl rfl (fun _ => ⟨a0 99, [.int v2, .int v3], 6, 0, _, _, rfl, rfl, rfl, rfl, rfl⟩) (fun h => absurd rfl h) rfl (Nat.le_of_ble_eq_true rfl) dX7_width_16 19 rfl h (fun r_3 h => ?_)
    refine z_if_ne C 24 dX7_width_19 (by decide) 22 rfl h (fun h => ?_) (fun h => ?_)
    · refine z_aload_n C dX7_width_24 rfl 0 rfl 25 rfl ?_
      refine z_iload_n C dX7_width_25 rfl 1 rfl 26 rfl ?_
      refine z_callW C (wX7 T a0 S0_1) (([] : va_W)) (fun z => z.1) (fun z => wX7 T a0 z.2) (fun z => wX7 T a0 z.2) (fun z h => c_X7_lays l D T a0  S0_1 v1 z h) ⟨rfl, rfl⟩ (z_cwV C 1 gX7_width_X7_lays rfl rfl dd_X7_lays ⟨(Nat.le_of_ble_eq_true rfl), (Nat.le_of_ble_eq_true rfl)⟩) (hD.zaddr rfl) [0, 1, 2, 3, 4, 5, 6, 7, 8, 9, 10, 11, 12, 13, 14, 15, 16, 17] [] [0, 1, 2, 3, 4, 5, 6, 7, 8, 9, 10, 11, 12, 13, 14, 15, 16, 17] rfl rfl rfl (by decide) (fun _ => rfl) (fun _ => ⟨a0 99, [.int v1], 6, 0, _, _, rfl, rfl, rfl, rfl, rfl⟩) (fun h => absurd rfl h) rfl (Nat.le_of_ble_eq_true rfl) dX7_width_26 29 rfl h (fun r_4 h => ?_)
      refine z_if_eq C 45 dX7_width_29 (by decide) 32 rfl h (fun h => ?_) (fun h => ?_)
      · refine z_bipush C (-2) dX7_width_45 (by decide) 47 rfl ?_
        exact z_iretW (x := r_4.2) (ex := ex) (fun z => wX7 T a0 z) C hr dX7_width_47 h rfl
      · refine z_aload_n C dX7_width_32 rfl 0 rfl 33 rfl ?_
        refine z_get C (in_X7_width_X7) 0 rfl rfl 27 (by decide) (List.mem_of_getElem? (i := 2) rfl) rfl rfl dX7_width_33 36 rfl ?_
        refine z_iload_n C dX7_width_36 rfl 2 rfl 37 rfl ?_
        refine z_iload_n C dX7_width_37 rfl 3 rfl 38 rfl ?_
        refine z_callR C ([]) (fun v h => c_X7_cell l D T    v2 v3 v h) ⟨rfl, rfl⟩ (z_cwS C 2 gX7_width_X7_cell rfl dd_X7_cell ⟨(Nat.le_of_ble_eq_true rfl), (Nat.le_of_ble_eq_true rfl)⟩) (hD.zaddr rfl) [] rfl rfl (fun h => absurd h (by decide)) (fun _ => rfl) rfl (Nat.le_of_ble_eq_true rfl) dX7_width_38 41 rfl h (fun r_5 h => ?_)
        refine z_iald C 10 rfl rfl dX7_width_41 42 rfl h (fun h => ?_)
        refine z_goto C 47 dX7_width_42 (by decide) ?_
        exact z_iretW (x := r_4.2) (ex := ex) (fun z => wX7 T a0 z) C hr dX7_width_47 h rfl
    · refine z_iconst C (-1) dX7_width_22 (by decide) 23 rfl ?_
      exact z_iretW (x := S0_1) (ex := ex) (fun z => wX7 T a0 z) C hr dX7_width_23 h rfl

end
/-! StreamTreeModel.step (III)I -/
section
variable {p : Program} {l : Launch} {e : Env} {R : Room} {s : State} {m : MethodId} {args : Array Value} {below : List Frame} {meth : Method} {c : Code} {Q : State → Prop} {A : Nat → Prop} {D : va_G} {T : Nat → ClassId} {a0 : Nat → Nat}
theorem in_X7_step_X7 : ∀ w ∈ u_ws RX7 TX7 35, w ∈ wsX7_step := fun _ h => (List.mem_cons_of_mem _ (List.mem_append_right _ h))
def f_X7_step (S0 : Nat → Nat → Int32) (v1 : Int32) (v2 : Int32) (v3 : Int32) : Option (Int32 × (Nat → Nat → Int32)) := zlet (zst S0 0 0 0) fun S0_1 => (f_X7_isManner S0_1 v1).bind fun r_2 => if r_2 = 0 then (some ((-1), S0_1)) else ((f_X7_isAny S0_1 v2 v3).bind fun r_3 => if r_3 = 0 then (some ((-1), S0_1)) else ((f_X7_lays S0_1 v1).bind fun r_4 => if r_4.1 = 0 then (some ((-2), r_4.2)) else (if v2 = 0 then (some ((-1), r_4.2)) else ((f_X7_cell v2 v3).bind fun r_5 => zix r_5 240 fun _ => some ((r_4.2 26 (Int32.toNatClampNeg r_5)), r_4.2)))))
theorem dd_X7_step : RX7 ≠ "java/lang/invoke/MethodHandle" ∧ RX7 ≠ "java/lang/invoke/VarHandle" ∧ (parseMethodDescriptor yX7_step.desc).map (fun d => d.parameters.length) = some 3 := by decide +kernel
set_option maxHeartbeats 4000000 in
set_option maxRecDepth 100000 in
theorem c_X7_step (l : Launch) (D : va_G) (T : Nat → ClassId) (a0 : Nat → Nat) (S0 : Nat → Nat → Int32) (v1 : Int32) (v2 : Int32) (v3 : Int32) (ex : Int32 × (Nat → Nat → Int32)) (h : f_X7_step S0 v1 v2 v3 = some ex) : zWI l yX7_step wsX7_step ({ frames := 44, cells := 0, slots := 0, locals := 1727 } : Room) D T [.ref (a0 99), .int v1, .int v2, .int v3] (wX7 T a0 S0) ex.1 (wX7 T a0 ex.2) := by
  refine z_begin (cc := cX7_step) (nL := 4) (own := RX7) (fr := 44) (lc := 1727) (ret := some .int) (by decide) rfl (Nat.le_of_ble_eq_true rfl) (zA (wX7 T a0 S0)) rfl [(0, .ref (a0 99)), (1, .int v1), (2, .int v2), (3, .int v3)] rfl ⟨rfl, rfl⟩ rfl ?_
  intro p e s m args below meth c C hr hD
  have hD := hD.zself
  unfold f_X7_step at h
  refine z_aload_n C dX7_step_0 rfl 0 rfl 1 rfl ?_
  refine z_iconst C 0 dX7_step_1 (by decide) 2 rfl ?_
  refine z_put (ty := .int) C (fun z => wX7 T a0 z) S0 (hD.zaddr rfl) (in_X7_step_X7) tyX7 tyX7_ok nmX7 0 rfl rfl 0 (by decide) (List.mem_of_getElem? (i := 1) rfl) rfl rfl (by decide +kernel) rfl rfl (Nat.le_of_ble_eq_true rfl) rfl dX7_step_2 5 rfl h (fun S0_1 h => ?_)
  refine z_aload_n C dX7_step_5 rfl 0 rfl 6 rfl ?_
  refine z_iload_n C dX7_step_6 rfl 1 rfl 7 rfl ?_
  refine z_callR C (wX7 T a0 S0_1) (fun v h => c_X7_isManner l D T a0  S0_1 v1 v h) ⟨rfl, rfl⟩ (z_cwV C 1 gX7_step_X7_isManner rfl rfl dd_X7_isManner ⟨(Nat.le_of_ble_eq_true rfl), (Nat.le_of_ble_eq_true rfl)⟩) (hD.zaddr rfl) [0, 1, 2, 3, 4, 5, 6, 7, 8, 9, 10, 11, 12, 13, 14, 15, 16, 17] rfl rfl (fun _ => ⟨a0 99, [.int v1], 6, 0, _, _, rfl, rfl, rfl, rfl, rfl⟩) (fun h => absurd rfl h) rfl (Nat.le_of_ble_eq_true rfl) dX7_step_7 10 rfl h (fun r_2 h => ?_)
  refine z_if_eq C 22 dX7_step_10 (by decide) 13 rfl h (fun h => ?_) (fun h => ?_)
  · refine z_iconst C (-1) dX7_step_22 (by decide) 23 rfl ?_
    exact z_iretW (x := S0_1) (ex := ex) (fun z => wX7 T a0 z) C hr dX7_step_23 h rfl
  · refine z_aload_n C dX7_step_13 rfl 0 rfl 14 rfl ?_
    refine z_iload_n C dX7_step_14 rfl 2 rfl 15 rfl ?_
    refine z_iload_n C dX7_step_15 rfl 3 rfl 16 rfl ?_
    refine z_callR C (wX7 T a0 S0_1) (fun v h => c_X7_isAny l D T a0  S0_1 v2 v3 v h) ⟨rfl, rfl⟩ (z_cwV C 2 gX7_step_X7_isAny rfl rfl dd_X7_isAny ⟨(Nat.le_of_ble_eq_true rfl), (Nat.le_of_ble_eq_true rfl)⟩) (hD.zaddr rfl) [0, 1, 2, 3, 4, 5, 6, 7, 8, 9, 10, 11, 12, 13, 14, 15, 16, 17] rfl rfl (fun _ => ⟨a0 99, [.int v2, .int v3], 6, 0, _, _, rfl, rfl, rfl, rfl, rfl⟩) (fun h => absurd rfl h) rfl (Nat.le_of_ble_eq_true rfl) dX7_step_16 19 rfl h (fun r_3 h => ?_)
    refine z_if_ne C 24 dX7_step_19 (by decide) 22 rfl h (fun h => ?_) (fun h => ?_)
    · refine z_aload_n C dX7_step_24 rfl 0 rfl 25 rfl ?_
      refine z_iload_n C dX7_step_25 rfl 1 rfl 26 rfl ?_
      refine z_callW C (wX7 T a0 S0_1) (([] : va_W)) (fun z => z.1) (fun z => wX7 T a0 z.2) (fun z => wX7 T a0 z.2) (fun z h => c_X7_lays l D T a0  S0_1 v1 z h) ⟨rfl, rfl⟩ (z_cwV C 1 gX7_step_X7_lays rfl rfl dd_X7_lays ⟨(Nat.le_of_ble_eq_true rfl), (Nat.le_of_ble_eq_true rfl)⟩) (hD.zaddr rfl) [0, 1, 2, 3, 4, 5, 6, 7, 8, 9, 10, 11, 12, 13, 14, 15, 16, 17] [] [0, 1, 2, 3, 4, 5, 6, 7, 8, 9, 10, 11, 12, 13, 14, 15, 16, 17] rfl rfl rfl (by decide) (fun _ => rfl) (fun _ => ⟨a0 99, [.int v1], 6, 0, _, _, rfl, rfl, rfl, rfl, rfl⟩) (fun h => absurd rfl h) rfl (Nat.le_of_ble_eq_true rfl) dX7_step_26 29 rfl h (fun r_4 h => ?_)
      refine z_if_ne C 37 dX7_step_29 (by decide) 32 rfl h (fun h => ?_) (fun h => ?_)
      · refine z_iload_n C dX7_step_37 rfl 2 rfl 38 rfl ?_
        refine z_if_ne C 45 dX7_step_38 (by decide) 41 rfl h (fun h => ?_) (fun h => ?_)
        · refine z_aload_n C dX7_step_45 rfl 0 rfl 46 rfl ?_
          refine z_get C (in_X7_step_X7) 0 rfl rfl 26 (by decide) (List.mem_of_getElem? (i := 2) rfl) rfl rfl dX7_step_46 49 rfl ?_
          refine z_iload_n C dX7_step_49 rfl 2 rfl 50 rfl ?_
          refine z_iload_n C dX7_step_50 rfl 3 rfl 51 rfl ?_
          refine z_callR C ([]) (fun v h => c_X7_cell l D T    v2 v3 v h) ⟨rfl, rfl⟩ (z_cwS C 2 gX7_step_X7_cell rfl dd_X7_cell ⟨(Nat.le_of_ble_eq_true rfl), (Nat.le_of_ble_eq_true rfl)⟩) (hD.zaddr rfl) [] rfl rfl (fun h => absurd h (by decide)) (fun _ => rfl) rfl (Nat.le_of_ble_eq_true rfl) dX7_step_51 54 rfl h (fun r_5 h => ?_)
          refine z_iald C 9 rfl rfl dX7_step_54 55 rfl h (fun h => ?_)
          exact z_iretW (x := r_4.2) (ex := ex) (fun z => wX7 T a0 z) C hr dX7_step_55 h rfl
        · refine z_iconst C (-1) dX7_step_41 (by decide) 42 rfl ?_
          refine z_goto C 55 dX7_step_42 (by decide) ?_
          exact z_iretW (x := r_4.2) (ex := ex) (fun z => wX7 T a0 z) C hr dX7_step_55 h rfl
      · refine z_bipush C (-2) dX7_step_32 (by decide) 34 rfl ?_
        refine z_goto C 55 dX7_step_34 (by decide) ?_
        exact z_iretW (x := r_4.2) (ex := ex) (fun z => wX7 T a0 z) C hr dX7_step_55 h rfl
    · refine z_iconst C (-1) dX7_step_22 (by decide) 23 rfl ?_
      exact z_iretW (x := S0_1) (ex := ex) (fun z => wX7 T a0 z) C hr dX7_step_23 h rfl

end
/-! StreamTreeModel.join (III)I -/
section
variable {p : Program} {l : Launch} {e : Env} {R : Room} {s : State} {m : MethodId} {args : Array Value} {below : List Frame} {meth : Method} {c : Code} {Q : State → Prop} {A : Nat → Prop} {D : va_G} {T : Nat → ClassId} {a0 : Nat → Nat}
theorem in_X7_join_X7 : ∀ w ∈ u_ws RX7 TX7 35, w ∈ wsX7_join := fun _ h => (List.mem_cons_of_mem _ (List.mem_append_right _ h))
def f_X7_join_J122 (rec : (Int32 × Int32) → Option (Nat × Int32 × Int32 × Int32)) (S0 : Nat → Nat → Int32) (v2 : Int32) (v3 : Int32) (x4 : Int32) (v5 : Int32) (x6 : Int32)  : Option (Nat × Int32 × Int32 × Int32) := rec (x4, (x6 + 1))
set_option maxHeartbeats 4000000 in
set_option maxRecDepth 100000 in
theorem p_X7_join_J122 (C : zC p R s m args meth c cX7_join 8 RX7 wsX7_join D T 44 1727 0 0) (S0 : Nat → Nat → Int32) {v2 : Int32} {v3 : Int32} {v5 : Int32} (x4 : Int32) (x6 : Int32)  (hD : va_D A (wX7 T a0 S0)) {rec : (Int32 × Int32) → Option (Nat × Int32 × Int32 × Int32)} (hrec : ∀ (c0 : Int32) (c1 : Int32) (b : Nat × Int32 × Int32 × Int32), rec (c0, c1) = some b → ((b.1 = 0 → zt p l e R s m args below meth c 8 A D 0 0 Q (wX7 T a0 S0) [(3, .int v3), (5, .int v5), (6, .int b.2.2.1), (7, .int b.2.2.2)] 97 []) ∧ (b.1 = 1 → zt p l e R s m args below meth c 8 A D 0 0 Q (wX7 T a0 S0) [(0, .ref (a0 99)), (2, .int v2), (3, .int v3), (4, .int b.2.1), (5, .int v5)] 128 [])) → zt p l e R s m args below meth c 8 A D 0 0 Q (wX7 T a0 S0) [(0, .ref (a0 99)), (2, .int v2), (3, .int v3), (4, .int c0), (5, .int v5), (6, .int c1)] 57 []) {b : Nat × Int32 × Int32 × Int32} (K : (b.1 = 0 → zt p l e R s m args below meth c 8 A D 0 0 Q (wX7 T a0 S0) [(3, .int v3), (5, .int v5), (6, .int b.2.2.1), (7, .int b.2.2.2)] 97 []) ∧ (b.1 = 1 → zt p l e R s m args below meth c 8 A D 0 0 Q (wX7 T a0 S0) [(0, .ref (a0 99)), (2, .int v2), (3, .int v3), (4, .int b.2.1), (5, .int v5)] 128 [])) (h : f_X7_join_J122 rec S0 v2 v3 x4 v5 x6 = some b) : zt p l e R s m args below meth c 8 A D 0 0 Q (wX7 T a0 S0) [(0, .ref (a0 99)), (2, .int v2), (3, .int v3), (4, .int x4), (5, .int v5), (6, .int x6)] 122 [] := by
  unfold f_X7_join_J122 at h
  refine z_iinc C (x6 + 1) [(0, .ref (a0 99)), (2, .int v2), (3, .int v3), (4, .int x4), (5, .int v5), (6, .int (x6 + 1))] dX7_join_122 5 rfl rfl (Nat.le_of_ble_eq_true rfl) [1, 2, 3, 4, 5, 0] rfl 125 rfl ?_
  refine z_goto C 57 dX7_join_125 (by decide) ?_
  exact z_locals (ks := [0, 1, 2, 3, 4, 5]) rfl (hrec _ _ _ h K)

def f_X7_join_J72 (rec : (Int32 × Int32) → Option (Nat × Int32 × Int32 × Int32)) (S0 : Nat → Nat → Int32) (v2 : Int32) (v3 : Int32) (x4 : Int32) (v5 : Int32) (x6 : Int32) (k0 : Int32) (k1 : Int32) : Option (Nat × Int32 × Int32 × Int32) := if k1 ≤ k0 then (some (1, x4, 0, 0)) else ((f_X7_manyTo S0 v5 x6).bind fun r_6 => if r_6 ≤ 1 then (f_X7_join_J122 rec S0 v2 v3 x4 v5 x6) else (if x4 = v2 then (some (0, 0, x6, r_6)) else (f_X7_join_J122 rec S0 v2 v3 (x4 + 1) v5 x6)))
set_option maxHeartbeats 4000000 in
set_option maxRecDepth 100000 in
theorem p_X7_join_J72 (C : zC p R s m args meth c cX7_join 8 RX7 wsX7_join D T 44 1727 0 0) (S0 : Nat → Nat → Int32) {v2 : Int32} {v3 : Int32} {v5 : Int32} (x4 : Int32) (x6 : Int32) (k0 : Int32) (k1 : Int32) (hD : va_D A (wX7 T a0 S0)) {rec : (Int32 × Int32) → Option (Nat × Int32 × Int32 × Int32)} (hrec : ∀ (c0 : Int32) (c1 : Int32) (b : Nat × Int32 × Int32 × Int32), rec (c0, c1) = some b → ((b.1 = 0 → zt p l e R s m args below meth c 8 A D 0 0 Q (wX7 T a0 S0) [(3, .int v3), (5, .int v5), (6, .int b.2.2.1), (7, .int b.2.2.2)] 97 []) ∧ (b.1 = 1 → zt p l e R s m args below meth c 8 A D 0 0 Q (wX7 T a0 S0) [(0, .ref (a0 99)), (2, .int v2), (3, .int v3), (4, .int b.2.1), (5, .int v5)] 128 [])) → zt p l e R s m args below meth c 8 A D 0 0 Q (wX7 T a0 S0) [(0, .ref (a0 99)), (2, .int v2), (3, .int v3), (4, .int c0), (5, .int v5), (6, .int c1)] 57 []) {b : Nat × Int32 × Int32 × Int32} (K : (b.1 = 0 → zt p l e R s m args below meth c 8 A D 0 0 Q (wX7 T a0 S0) [(3, .int v3), (5, .int v5), (6, .int b.2.2.1), (7, .int b.2.2.2)] 97 []) ∧ (b.1 = 1 → zt p l e R s m args below meth c 8 A D 0 0 Q (wX7 T a0 S0) [(0, .ref (a0 99)), (2, .int v2), (3, .int v3), (4, .int b.2.1), (5, .int v5)] 128 [])) (h : f_X7_join_J72 rec S0 v2 v3 x4 v5 x6 k0 k1 = some b) : zt p l e R s m args below meth c 8 A D 0 0 Q (wX7 T a0 S0) [(0, .ref (a0 99)), (2, .int v2), (3, .int v3), (4, .int x4), (5, .int v5), (6, .int x6)] 72 [.int k1, .int k0] := by
  unfold f_X7_join_J72 at h
  refine z_icmp_ge C 128 dX7_join_72 (by decide) 75 rfl h (fun h => ?_) (fun h => ?_)
  · refine z_locals (ks := [0, 1, 2, 3, 4]) (lv' := [(0, .ref (a0 99)), (2, .int v2), (3, .int v3), (4, .int x4), (5, .int v5)]) rfl ?_
    exact zexT3 (F := (fun e0 e1 e2 => zt p l e R s m args below meth c 8 A D 0 0 Q (wX7 T a0 S0) [(0, .ref (a0 99)), (2, .int v2), (3, .int v3), (4, .int e0), (5, .int v5)] 128 [])) h K.2
  · refine z_aload_n C dX7_join_75 rfl 0 rfl 76 rfl ?_
    refine z_iload C dX7_join_76 4 rfl 78 rfl ?_
    refine z_iload C dX7_join_78 5 rfl 80 rfl ?_
    refine z_callR C (wX7 T a0 S0) (fun v h => c_X7_manyTo l D T a0  S0 v5 x6 v h) ⟨rfl, rfl⟩ (z_cwV C 2 gX7_join_X7_manyTo rfl rfl dd_X7_manyTo ⟨(Nat.le_of_ble_eq_true rfl), (Nat.le_of_ble_eq_true rfl)⟩) (hD.zaddr rfl) [0, 1, 2, 3, 4, 5, 6, 7, 8, 9, 10, 11, 12, 13, 14, 15, 16, 17] rfl rfl (fun _ => ⟨a0 99, [.int v5, .int x6], 6, 0, _, _, rfl, rfl, rfl, rfl, rfl⟩) (fun h => absurd rfl h) rfl (Nat.le_of_ble_eq_true rfl) dX7_join_80 83 rfl h (fun r_6 h => ?_)
    refine z_istore C [(0, .ref (a0 99)), (2, .int v2), (3, .int v3), (4, .int x4), (5, .int v5), (6, .int x6), (7, .int r_6)] dX7_join_83 (Nat.le_of_ble_eq_true rfl) [1, 2, 3, 4, 5, 6, 0] rfl 85 rfl ?_
    refine z_iload C dX7_join_85 6 rfl 87 rfl ?_
    refine z_iconst C 1 dX7_join_87 (by decide) 88 rfl ?_
    refine z_icmp_le C 122 dX7_join_88 (by decide) 91 rfl h (fun h => ?_) (fun h => ?_)
    · exact z_locals (ks := [0, 1, 2, 3, 4, 5]) rfl (p_X7_join_J122 C S0 x4 x6 (hD.zaddr rfl) hrec K h)
    · refine z_iload C dX7_join_91 3 rfl 93 rfl ?_
      refine z_iload_n C dX7_join_93 rfl 1 rfl 94 rfl ?_
      refine z_icmp_ne C 119 dX7_join_94 (by decide) 97 rfl h (fun h => ?_) (fun h => ?_)
      · refine z_iinc C (x4 + 1) [(0, .ref (a0 99)), (2, .int v2), (3, .int v3), (4, .int (x4 + 1)), (5, .int v5), (6, .int x6), (7, .int r_6)] dX7_join_119 3 rfl rfl (Nat.le_of_ble_eq_true rfl) [1, 2, 3, 0, 4, 5, 6] rfl 122 rfl ?_
        exact z_locals (ks := [0, 1, 2, 3, 4, 5]) rfl (p_X7_join_J122 C S0 (x4 + 1) x6 (hD.zaddr rfl) hrec K h)
      · refine z_locals (ks := [2, 4, 5, 6]) (lv' := [(3, .int v3), (5, .int v5), (6, .int x6), (7, .int r_6)]) rfl ?_
        exact zexT3 (F := (fun e0 e1 e2 => zt p l e R s m args below meth c 8 A D 0 0 Q (wX7 T a0 S0) [(3, .int v3), (5, .int v5), (6, .int e1), (7, .int e2)] 97 [])) h K.1

def f_X7_join_L57b (S0 : Nat → Nat → Int32) (v2 : Int32) (v3 : Int32) (v5 : Int32) (rec : (Int32 × Int32) → Option (Nat × Int32 × Int32 × Int32)) (a : Int32 × Int32) : Option (Nat × Int32 × Int32 × Int32) := if v5 = 0 then (f_X7_join_J72 rec S0 v2 v3 a.1 v5 a.2 a.2 1) else (f_X7_join_J72 rec S0 v2 v3 a.1 v5 a.2 a.2 (S0 2 0))
def f_X7_join_L57 (S0 : Nat → Nat → Int32) (v2 : Int32) (v3 : Int32) (v5 : Int32) : Nat → (Int32 × Int32) → Option (Nat × Int32 × Int32 × Int32) := zloop (fun rec a => f_X7_join_L57b S0 v2 v3 v5 rec a)
set_option maxHeartbeats 4000000 in
set_option maxRecDepth 100000 in
theorem p_X7_join_L57 (C : zC p R s m args meth c cX7_join 8 RX7 wsX7_join D T 44 1727 0 0) (S0 : Nat → Nat → Int32) (v2 : Int32) (v3 : Int32) (v5 : Int32) (hD : va_D A (wX7 T a0 S0)) : ∀ (n : Nat) (c0 : Int32) (c1 : Int32) (b : Nat × Int32 × Int32 × Int32), f_X7_join_L57 S0 v2 v3 v5 n (c0, c1) = some b → ((b.1 = 0 → zt p l e R s m args below meth c 8 A D 0 0 Q (wX7 T a0 S0) [(3, .int v3), (5, .int v5), (6, .int b.2.2.1), (7, .int b.2.2.2)] 97 []) ∧ (b.1 = 1 → zt p l e R s m args below meth c 8 A D 0 0 Q (wX7 T a0 S0) [(0, .ref (a0 99)), (2, .int v2), (3, .int v3), (4, .int b.2.1), (5, .int v5)] 128 [])) → zt p l e R s m args below meth c 8 A D 0 0 Q (wX7 T a0 S0) [(0, .ref (a0 99)), (2, .int v2), (3, .int v3), (4, .int c0), (5, .int v5), (6, .int c1)] 57 [] := by
  intro n c0 c1 b h K
  refine zloop_ind (P := fun a b => ((b.1 = 0 → zt p l e R s m args below meth c 8 A D 0 0 Q (wX7 T a0 S0) [(3, .int v3), (5, .int v5), (6, .int b.2.2.1), (7, .int b.2.2.2)] 97 []) ∧ (b.1 = 1 → zt p l e R s m args below meth c 8 A D 0 0 Q (wX7 T a0 S0) [(0, .ref (a0 99)), (2, .int v2), (3, .int v3), (4, .int b.2.1), (5, .int v5)] 128 [])) → zt p l e R s m args below meth c 8 A D 0 0 Q (wX7 T a0 S0) [(0, .ref (a0 99)), (2, .int v2), (3, .int v3), (4, .int a.1), (5, .int v5), (6, .int a.2)] 57 []) ?_ n (c0, c1) b h K
  clear h K b c0 c1
  intro rec hrec a b h K
  have hrec : ∀ (c0 : Int32) (c1 : Int32) (b : Nat × Int32 × Int32 × Int32), rec (c0, c1) = some b → ((b.1 = 0 → zt p l e R s m args below meth c 8 A D 0 0 Q (wX7 T a0 S0) [(3, .int v3), (5, .int v5), (6, .int b.2.2.1), (7, .int b.2.2.2)] 97 []) ∧ (b.1 = 1 → zt p l e R s m args below meth c 8 A D 0 0 Q (wX7 T a0 S0) [(0, .ref (a0 99)), (2, .int v2), (3, .int v3), (4, .int b.2.1), (5, .int v5)] 128 [])) → zt p l e R s m args below meth c 8 A D 0 0 Q (wX7 T a0 S0) [(0, .ref (a0 99)), (2, .int v2), (3, .int v3), (4, .int c0), (5, .int v5), (6, .int c1)] 57 [] := fun c0 c1 b h K => hrec (c0, c1) b h K
  unfold f_X7_join_L57b at h
  refine z_iload C dX7_join_57 5 rfl 59 rfl ?_
  refine z_iload C dX7_join_59 4 rfl 61 rfl ?_
  refine z_if_ne C 68 dX7_join_61 (by decide) 64 rfl h (fun h => ?_) (fun h => ?_)
  · refine z_aload_n C dX7_join_68 rfl 0 rfl 69 rfl ?_
    refine z_get C (in_X7_join_X7) 0 rfl rfl 2 (by decide) (List.mem_of_getElem? (i := 3) rfl) rfl rfl dX7_join_69 72 rfl ?_
    exact z_locals (ks := [0, 1, 2, 3, 4, 5]) rfl (p_X7_join_J72 C S0 a.1 a.2 a.2 (S0 2 0) (hD.zaddr rfl) hrec K h)
  · refine z_iconst C 1 dX7_join_64 (by decide) 65 rfl ?_
    refine z_goto C 72 dX7_join_65 (by decide) ?_
    exact z_locals (ks := [0, 1, 2, 3, 4, 5]) rfl (p_X7_join_J72 C S0 a.1 a.2 a.2 1 (hD.zaddr rfl) hrec K h)

def f_X7_join_L49b (S0 : Nat → Nat → Int32) (v2 : Int32) (v3 : Int32) (rec : (Int32 × Int32) → Option (Nat × Int32 × Int32 × Int32 × Int32)) (a : Int32 × Int32) : Option (Nat × Int32 × Int32 × Int32 × Int32) := if a.2 < 0 then (some (1, a.1, 0, 0, 0)) else ((f_X7_join_L57 S0 v2 v3 a.2 zfuel (a.1, 0)).bind fun y_7 => if y_7.1 = 0 then (some (0, 0, a.2, y_7.2.2.1, y_7.2.2.2)) else (rec (y_7.2.1, (a.2 + (-1)))))
def f_X7_join_L49 (S0 : Nat → Nat → Int32) (v2 : Int32) (v3 : Int32) : Nat → (Int32 × Int32) → Option (Nat × Int32 × Int32 × Int32 × Int32) := zloop (fun rec a => f_X7_join_L49b S0 v2 v3 rec a)
set_option maxHeartbeats 4000000 in
set_option maxRecDepth 100000 in
theorem p_X7_join_L49 (C : zC p R s m args meth c cX7_join 8 RX7 wsX7_join D T 44 1727 0 0) (S0 : Nat → Nat → Int32) (v2 : Int32) (v3 : Int32) (hD : va_D A (wX7 T a0 S0)) : ∀ (n : Nat) (c0 : Int32) (c1 : Int32) (b : Nat × Int32 × Int32 × Int32 × Int32), f_X7_join_L49 S0 v2 v3 n (c0, c1) = some b → ((b.1 = 0 → zt p l e R s m args below meth c 8 A D 0 0 Q (wX7 T a0 S0) [(3, .int v3), (5, .int b.2.2.1), (6, .int b.2.2.2.1), (7, .int b.2.2.2.2)] 97 []) ∧ (b.1 = 1 → zt p l e R s m args below meth c 8 A D 0 0 Q (wX7 T a0 S0) [(2, .int v2), (4, .int b.2.1)] 134 [])) → zt p l e R s m args below meth c 8 A D 0 0 Q (wX7 T a0 S0) [(0, .ref (a0 99)), (2, .int v2), (3, .int v3), (4, .int c0), (5, .int c1)] 49 [] := by
  intro n c0 c1 b h K
  refine zloop_ind (P := fun a b => ((b.1 = 0 → zt p l e R s m args below meth c 8 A D 0 0 Q (wX7 T a0 S0) [(3, .int v3), (5, .int b.2.2.1), (6, .int b.2.2.2.1), (7, .int b.2.2.2.2)] 97 []) ∧ (b.1 = 1 → zt p l e R s m args below meth c 8 A D 0 0 Q (wX7 T a0 S0) [(2, .int v2), (4, .int b.2.1)] 134 [])) → zt p l e R s m args below meth c 8 A D 0 0 Q (wX7 T a0 S0) [(0, .ref (a0 99)), (2, .int v2), (3, .int v3), (4, .int a.1), (5, .int a.2)] 49 []) ?_ n (c0, c1) b h K
  clear h K b c0 c1
  intro rec hrec a b h K
  have hrec : ∀ (c0 : Int32) (c1 : Int32) (b : Nat × Int32 × Int32 × Int32 × Int32), rec (c0, c1) = some b → ((b.1 = 0 → zt p l e R s m args below meth c 8 A D 0 0 Q (wX7 T a0 S0) [(3, .int v3), (5, .int b.2.2.1), (6, .int b.2.2.2.1), (7, .int b.2.2.2.2)] 97 []) ∧ (b.1 = 1 → zt p l e R s m args below meth c 8 A D 0 0 Q (wX7 T a0 S0) [(2, .int v2), (4, .int b.2.1)] 134 [])) → zt p l e R s m args below meth c 8 A D 0 0 Q (wX7 T a0 S0) [(0, .ref (a0 99)), (2, .int v2), (3, .int v3), (4, .int c0), (5, .int c1)] 49 [] := fun c0 c1 b h K => hrec (c0, c1) b h K
  unfold f_X7_join_L49b at h
  refine z_iload C dX7_join_49 4 rfl 51 rfl ?_
  refine z_if_lt C 134 dX7_join_51 (by decide) 54 rfl h (fun h => ?_) (fun h => ?_)
  · refine z_locals (ks := [1, 3]) (lv' := [(2, .int v2), (4, .int a.1)]) rfl ?_
    exact zexT4 (F := (fun e0 e1 e2 e3 => zt p l e R s m args below meth c 8 A D 0 0 Q (wX7 T a0 S0) [(2, .int v2), (4, .int e0)] 134 [])) h K.2
  · refine z_iconst C 0 dX7_join_54 (by decide) 55 rfl ?_
    refine z_istore C [(0, .ref (a0 99)), (2, .int v2), (3, .int v3), (4, .int a.1), (5, .int a.2), (6, .int 0)] dX7_join_55 (Nat.le_of_ble_eq_true rfl) [1, 2, 3, 4, 5, 0] rfl 57 rfl ?_
    obtain ⟨y_7, hl_y_7, h⟩ := Option.bind_eq_some_iff.mp h
    refine z_locals (ks := [0, 1, 2, 3, 4, 5]) rfl (p_X7_join_L57 C S0 v2 v3 a.2 (hD.zaddr rfl) _ _ _ _ hl_y_7 ⟨fun ht => ?_, fun ht => ?_⟩)
    · replace h := z_pos ht h
      refine z_locals (ks := [0, 1, 2, 3]) (lv' := [(3, .int v3), (5, .int a.2), (6, .int y_7.2.2.1), (7, .int y_7.2.2.2)]) rfl ?_
      exact zexT4 (F := (fun e0 e1 e2 e3 => zt p l e R s m args below meth c 8 A D 0 0 Q (wX7 T a0 S0) [(3, .int v3), (5, .int e1), (6, .int e2), (7, .int e3)] 97 [])) h K.1
    · replace h := z_neg (by rw [ht]; decide) h
      refine z_iinc C (a.2 + (-1)) [(0, .ref (a0 99)), (2, .int v2), (3, .int v3), (4, .int y_7.2.1), (5, .int (a.2 + (-1)))] dX7_join_128 4 rfl rfl (Nat.le_of_ble_eq_true rfl) [1, 2, 3, 4, 0] rfl 131 rfl ?_
      refine z_goto C 49 dX7_join_131 (by decide) ?_
      exact z_locals (ks := [0, 1, 2, 3, 4]) rfl (hrec _ _ _ h K)

def f_X7_join (S0 : Nat → Nat → Int32) (v1 : Int32) (v2 : Int32) (v3 : Int32) : Option (Int32 × (Nat → Nat → Int32)) := zlet (zst S0 0 0 0) fun S0_1 => (f_X7_isManner S0_1 v1).bind fun r_2 => if r_2 = 0 then (some ((-1), S0_1)) else (if v2 < (-1) then (some ((-1), S0_1)) else ((f_X7_within v3 0 2).bind fun r_3 => if r_3 = 0 then (some ((-1), S0_1)) else ((f_X7_lays S0_1 v1).bind fun r_4 => if r_4.1 = 0 then (some ((-2), r_4.2)) else (zlet (r_4.2 1 0) fun u_5 => (f_X7_join_L49 r_4.2 v2 v3 zfuel (0, u_5)).bind fun y_8 => if y_8.1 = 0 then (if v3 = 0 then (some (y_8.2.2.1, r_4.2)) else (if v3 = 1 then (some (y_8.2.2.2.1, r_4.2)) else (some (y_8.2.2.2.2, r_4.2)))) else (if v2 = (-1) then (some (y_8.2.1, r_4.2)) else (some ((-1), r_4.2)))))))
theorem dd_X7_join : RX7 ≠ "java/lang/invoke/MethodHandle" ∧ RX7 ≠ "java/lang/invoke/VarHandle" ∧ (parseMethodDescriptor yX7_join.desc).map (fun d => d.parameters.length) = some 3 := by decide +kernel
set_option maxHeartbeats 4000000 in
set_option maxRecDepth 100000 in
theorem c_X7_join (l : Launch) (D : va_G) (T : Nat → ClassId) (a0 : Nat → Nat) (S0 : Nat → Nat → Int32) (v1 : Int32) (v2 : Int32) (v3 : Int32) (ex : Int32 × (Nat → Nat → Int32)) (h : f_X7_join S0 v1 v2 v3 = some ex) : zWI l yX7_join wsX7_join ({ frames := 44, cells := 0, slots := 0, locals := 1727 } : Room) D T [.ref (a0 99), .int v1, .int v2, .int v3] (wX7 T a0 S0) ex.1 (wX7 T a0 ex.2) := by
  refine z_begin (cc := cX7_join) (nL := 8) (own := RX7) (fr := 44) (lc := 1727) (ret := some .int) (by decide) rfl (Nat.le_of_ble_eq_true rfl) (zA (wX7 T a0 S0)) rfl [(0, .ref (a0 99)), (1, .int v1), (2, .int v2), (3, .int v3)] rfl ⟨rfl, rfl⟩ rfl ?_
  intro p e s m args below meth c C hr hD
  have hD := hD.zself
  unfold f_X7_join at h
  refine z_aload_n C dX7_join_0 rfl 0 rfl 1 rfl ?_
  refine z_iconst C 0 dX7_join_1 (by decide) 2 rfl ?_
  refine z_put (ty := .int) C (fun z => wX7 T a0 z) S0 (hD.zaddr rfl) (in_X7_join_X7) tyX7 tyX7_ok nmX7 0 rfl rfl 0 (by decide) (List.mem_of_getElem? (i := 1) rfl) rfl rfl (by decide +kernel) rfl rfl (Nat.le_of_ble_eq_true rfl) rfl dX7_join_2 5 rfl h (fun S0_1 h => ?_)
  refine z_aload_n C dX7_join_5 rfl 0 rfl 6 rfl ?_
  refine z_iload_n C dX7_join_6 rfl 1 rfl 7 rfl ?_
  refine z_callR C (wX7 T a0 S0_1) (fun v h => c_X7_isManner l D T a0  S0_1 v1 v h) ⟨rfl, rfl⟩ (z_cwV C 1 gX7_join_X7_isManner rfl rfl dd_X7_isManner ⟨(Nat.le_of_ble_eq_true rfl), (Nat.le_of_ble_eq_true rfl)⟩) (hD.zaddr rfl) [0, 1, 2, 3, 4, 5, 6, 7, 8, 9, 10, 11, 12, 13, 14, 15, 16, 17] rfl rfl (fun _ => ⟨a0 99, [.int v1], 6, 0, _, _, rfl, rfl, rfl, rfl, rfl⟩) (fun h => absurd rfl h) rfl (Nat.le_of_ble_eq_true rfl) dX7_join_7 10 rfl h (fun r_2 h => ?_)
  refine z_if_eq C 27 dX7_join_10 (by decide) 13 rfl h (fun h => ?_) (fun h => ?_)
  · refine z_iconst C (-1) dX7_join_27 (by decide) 28 rfl ?_
    exact z_iretW (x := S0_1) (ex := ex) (fun z => wX7 T a0 z) C hr dX7_join_28 h rfl
  · refine z_iload_n C dX7_join_13 rfl 2 rfl 14 rfl ?_
    refine z_iconst C (-1) dX7_join_14 (by decide) 15 rfl ?_
    refine z_icmp_lt C 27 dX7_join_15 (by decide) 18 rfl h (fun h => ?_) (fun h => ?_)
    · refine z_iconst C (-1) dX7_join_27 (by decide) 28 rfl ?_
      exact z_iretW (x := S0_1) (ex := ex) (fun z => wX7 T a0 z) C hr dX7_join_28 h rfl
    · refine z_iload_n C dX7_join_18 rfl 3 rfl 19 rfl ?_
      refine z_iconst C 0 dX7_join_19 (by decide) 20 rfl ?_
      refine z_iconst C 2 dX7_join_20 (by decide) 21 rfl ?_
      refine z_callR C ([]) (fun v h => c_X7_within l D T    v3 0 2 v h) ⟨rfl, rfl⟩ (z_cwS C 3 gX7_join_X7_within rfl dd_X7_within ⟨(Nat.le_of_ble_eq_true rfl), (Nat.le_of_ble_eq_true rfl)⟩) (hD.zaddr rfl) [] rfl rfl (fun h => absurd h (by decide)) (fun _ => rfl) rfl (Nat.le_of_ble_eq_true rfl) dX7_join_21 24 rfl h (fun r_3 h => ?_)
      refine z_if_ne C 29 dX7_join_24 (by decide) 27 rfl h (fun h => ?_) (fun h => ?_)
      · refine z_aload_n C dX7_join_29 rfl 0 rfl 30 rfl ?_
        refine z_iload_n C dX7_join_30 rfl 1 rfl 31 rfl ?_
        refine z_callW C (wX7 T a0 S0_1) (([] : va_W)) (fun z => z.1) (fun z => wX7 T a0 z.2) (fun z => wX7 T a0 z.2) (fun z h => c_X7_lays l D T a0  S0_1 v1 z h) ⟨rfl, rfl⟩ (z_cwV C 1 gX7_join_X7_lays rfl rfl dd_X7_lays ⟨(Nat.le_of_ble_eq_true rfl), (Nat.le_of_ble_eq_true rfl)⟩) (hD.zaddr rfl) [0, 1, 2, 3, 4, 5, 6, 7, 8, 9, 10, 11, 12, 13, 14, 15, 16, 17] [] [0, 1, 2, 3, 4, 5, 6, 7, 8, 9, 10, 11, 12, 13, 14, 15, 16, 17] rfl rfl rfl (by decide) (fun _ => rfl) (fun _ => ⟨a0 99, [.int v1], 6, 0, _, _, rfl, rfl, rfl, rfl, rfl⟩) (fun h => absurd rfl h) rfl (Nat.le_of_ble_eq_true rfl) dX7_join_31 34 rfl h (fun r_4 h => ?_)
        refine z_if_ne C 40 dX7_join_34 (by decide) 37 rfl h (fun h => ?_) (fun h => ?_)
        · refine z_iconst C 0 dX7_join_40 (by decide) 41 rfl ?_
          refine z_istore C [(0, .ref (a0 99)), (1, .int v1), (2, .int v2), (3, .int v3), (4, .int 0)] dX7_join_41 (Nat.le_of_ble_eq_true rfl) [1, 2, 3, 4, 0] rfl 43 rfl ?_
          refine z_aload_n C dX7_join_43 rfl 0 rfl 44 rfl ?_
          refine z_get C (in_X7_join_X7) 0 rfl rfl 1 (by decide) (List.mem_of_getElem? (i := 2) rfl) rfl rfl dX7_join_44 47 rfl ?_
          refine z_top h (fun u_5 h => ?_)
          refine z_istore C [(0, .ref (a0 99)), (1, .int v1), (2, .int v2), (3, .int v3), (4, .int 0), (5, .int u_5)] dX7_join_47 (Nat.le_of_ble_eq_true rfl) [1, 2, 3, 4, 5, 0] rfl 49 rfl ?_
          obtain ⟨y_8, hl_y_8, h⟩ := Option.bind_eq_some_iff.mp h
          refine z_locals (ks := [0, 2, 3, 4, 5]) rfl (p_X7_join_L49 C r_4.2 v2 v3 (hD.zaddr rfl) _ _ _ _ hl_y_8 ⟨fun ht => ?_, fun ht => ?_⟩)
          · replace h := z_pos ht h
            refine z_iload_n C dX7_join_97 rfl 0 rfl 98 rfl ?_
            refine z_if_ne C 106 dX7_join_98 (by decide) 101 rfl h (fun h => ?_) (fun h => ?_)
            · refine z_iload_n C dX7_join_106 rfl 0 rfl 107 rfl ?_
              refine z_iconst C 1 dX7_join_107 (by decide) 108 rfl ?_
              refine z_icmp_ne C 116 dX7_join_108 (by decide) 111 rfl h (fun h => ?_) (fun h => ?_)
              · refine z_iload C dX7_join_116 3 rfl 118 rfl ?_
                exact z_iretW (x := r_4.2) (ex := ex) (fun z => wX7 T a0 z) C hr dX7_join_118 h rfl
              · refine z_iload C dX7_join_111 2 rfl 113 rfl ?_
                refine z_goto C 118 dX7_join_113 (by decide) ?_
                exact z_iretW (x := r_4.2) (ex := ex) (fun z => wX7 T a0 z) C hr dX7_join_118 h rfl
            · refine z_iload C dX7_join_101 1 rfl 103 rfl ?_
              refine z_goto C 118 dX7_join_103 (by decide) ?_
              exact z_iretW (x := r_4.2) (ex := ex) (fun z => wX7 T a0 z) C hr dX7_join_118 h rfl
          · replace h := z_neg (by rw [ht]; decide) h
            refine z_iload_n C dX7_join_134 rfl 0 rfl 135 rfl ?_
            refine z_iconst C (-1) dX7_join_135 (by decide) 136 rfl ?_
            refine z_icmp_ne C 144 dX7_join_136 (by decide) 139 rfl h (fun h => ?_) (fun h => ?_)
            · refine z_iconst C (-1) dX7_join_144 (by decide) 145 rfl ?_
              exact z_iretW (x := r_4.2) (ex := ex) (fun z => wX7 T a0 z) C hr dX7_join_145 h rfl
            · refine z_iload C dX7_join_139 1 rfl 141 rfl ?_
              refine z_goto C 145 dX7_join_141 (by decide) ?_
              exact z_iretW (x := r_4.2) (ex := ex) (fun z => wX7 T a0 z) C hr dX7_join_145 h rfl
        · refine z_bipush C (-2) dX7_join_37 (by decide) 39 rfl ?_
          exact z_iretW (x := r_4.2) (ex := ex) (fun z => wX7 T a0 z) C hr dX7_join_39 h rfl
      · refine z_iconst C (-1) dX7_join_27 (by decide) 28 rfl ?_
        exact z_iretW (x := S0_1) (ex := ex) (fun z => wX7 T a0 z) C hr dX7_join_28 h rfl

end
/-! StreamTreeModel.drawn (II)I -/
section
variable {p : Program} {l : Launch} {e : Env} {R : Room} {s : State} {m : MethodId} {args : Array Value} {below : List Frame} {meth : Method} {c : Code} {Q : State → Prop} {A : Nat → Prop} {D : va_G} {T : Nat → ClassId} {a0 : Nat → Nat}
theorem in_X7_drawn_X7 : ∀ w ∈ u_ws RX7 TX7 35, w ∈ wsX7_drawn := fun _ h => (List.mem_cons_of_mem _ (List.mem_append_right _ h))
def f_X7_drawn (S0 : Nat → Nat → Int32) (v1 : Int32) (v2 : Int32) : Option (Int32 × (Nat → Nat → Int32)) := zlet (zst S0 0 0 0) fun S0_1 => (f_X7_isManner S0_1 v1).bind fun r_2 => if r_2 = 0 then (some ((-1), S0_1)) else ((f_X7_within v2 0 4).bind fun r_3 => if r_3 = 0 then (some ((-1), S0_1)) else ((f_X7_lays S0_1 v1).bind fun r_4 => if r_4.1 = 0 then (some ((-2), r_4.2)) else (if v2 = 0 then ((f_X7_bends r_4.2).bind fun r_5 => some (r_5, r_4.2)) else (if v2 = 1 then ((f_X7_across r_4.2).bind fun r_6 => some (r_6, r_4.2)) else (if v2 = 2 then ((f_X7_stepMany r_4.2).bind fun r_7 => some (r_7, r_4.2)) else (if v2 = 3 then ((f_X7_fullest r_4.2).bind fun r_8 => some (r_8, r_4.2)) else ((f_X7_widest r_4.2).bind fun r_9 => some (r_9, r_4.2))))))))
theorem dd_X7_drawn : RX7 ≠ "java/lang/invoke/MethodHandle" ∧ RX7 ≠ "java/lang/invoke/VarHandle" ∧ (parseMethodDescriptor yX7_drawn.desc).map (fun d => d.parameters.length) = some 2 := by decide +kernel
set_option maxHeartbeats 4000000 in
set_option maxRecDepth 100000 in
theorem c_X7_drawn (l : Launch) (D : va_G) (T : Nat → ClassId) (a0 : Nat → Nat) (S0 : Nat → Nat → Int32) (v1 : Int32) (v2 : Int32) (ex : Int32 × (Nat → Nat → Int32)) (h : f_X7_drawn S0 v1 v2 = some ex) : zWI l yX7_drawn wsX7_drawn ({ frames := 44, cells := 0, slots := 0, locals := 1727 } : Room) D T [.ref (a0 99), .int v1, .int v2] (wX7 T a0 S0) ex.1 (wX7 T a0 ex.2) := by
  refine z_begin (cc := cX7_drawn) (nL := 3) (own := RX7) (fr := 44) (lc := 1727) (ret := some .int) (by decide) rfl (Nat.le_of_ble_eq_true rfl) (zA (wX7 T a0 S0)) rfl [(0, .ref (a0 99)), (1, .int v1), (2, .int v2)] rfl ⟨rfl, rfl⟩ rfl ?_
  intro p e s m args below meth c C hr hD
  have hD := hD.zself
  unfold f_X7_drawn at h
  refine z_aload_n C dX7_drawn_0 rfl 0 rfl 1 rfl ?_
  refine z_iconst C 0 dX7_drawn_1 (by decide) 2 rfl ?_
  refine z_put (ty := .int) C (fun z => wX7 T a0 z) S0 (hD.zaddr rfl) (in_X7_drawn_X7) tyX7 tyX7_ok nmX7 0 rfl rfl 0 (by decide) (List.mem_of_getElem? (i := 1) rfl) rfl rfl (by decide +kernel) rfl rfl (Nat.le_of_ble_eq_true rfl) rfl dX7_drawn_2 5 rfl h (fun S0_1 h => ?_)
  refine z_aload_n C dX7_drawn_5 rfl 0 rfl 6 rfl ?_
  refine z_iload_n C dX7_drawn_6 rfl 1 rfl 7 rfl ?_
  refine z_callR C (wX7 T a0 S0_1) (fun v h => c_X7_isManner l D T a0  S0_1 v1 v h) ⟨rfl, rfl⟩ (z_cwV C 1 gX7_drawn_X7_isManner rfl rfl dd_X7_isManner ⟨(Nat.le_of_ble_eq_true rfl), (Nat.le_of_ble_eq_true rfl)⟩) (hD.zaddr rfl) [0, 1, 2, 3, 4, 5, 6, 7, 8, 9, 10, 11, 12, 13, 14, 15, 16, 17] rfl rfl (fun _ => ⟨a0 99, [.int v1], 6, 0, _, _, rfl, rfl, rfl, rfl, rfl⟩) (fun h => absurd rfl h) rfl (Nat.le_of_ble_eq_true rfl) dX7_drawn_7 10 rfl h (fun r_2 h => ?_)
  refine z_if_eq C 22 dX7_drawn_10 (by decide) 13 rfl h (fun h => ?_) (fun h => ?_)
  · refine z_iconst C (-1) dX7_drawn_22 (by decide) 23 rfl ?_
    exact z_iretW (x := S0_1) (ex := ex) (fun z => wX7 T a0 z) C hr dX7_drawn_23 h rfl
  · refine z_iload_n C dX7_drawn_13 rfl 2 rfl 14 rfl ?_
    refine z_iconst C 0 dX7_drawn_14 (by decide) 15 rfl ?_
    refine z_iconst C 4 dX7_drawn_15 (by decide) 16 rfl ?_
    refine z_callR C ([]) (fun v h => c_X7_within l D T    v2 0 4 v h) ⟨rfl, rfl⟩ (z_cwS C 3 gX7_drawn_X7_within rfl dd_X7_within ⟨(Nat.le_of_ble_eq_true rfl), (Nat.le_of_ble_eq_true rfl)⟩) (hD.zaddr rfl) [] rfl rfl (fun h => absurd h (by decide)) (fun _ => rfl) rfl (Nat.le_of_ble_eq_true rfl) dX7_drawn_16 19 rfl h (fun r_3 h => ?_)
    refine z_if_ne C 24 dX7_drawn_19 (by decide) 22 rfl h (fun h => ?_) (fun h => ?_)
    · refine z_aload_n C dX7_drawn_24 rfl 0 rfl 25 rfl ?_
      refine z_iload_n C dX7_drawn_25 rfl 1 rfl 26 rfl ?_
      refine z_callW C (wX7 T a0 S0_1) (([] : va_W)) (fun z => z.1) (fun z => wX7 T a0 z.2) (fun z => wX7 T a0 z.2) (fun z h => c_X7_lays l D T a0  S0_1 v1 z h) ⟨rfl, rfl⟩ (z_cwV C 1 gX7_drawn_X7_lays rfl rfl dd_X7_lays ⟨(Nat.le_of_ble_eq_true rfl), (Nat.le_of_ble_eq_true rfl)⟩) (hD.zaddr rfl) [0, 1, 2, 3, 4, 5, 6, 7, 8, 9, 10, 11, 12, 13, 14, 15, 16, 17] [] [0, 1, 2, 3, 4, 5, 6, 7, 8, 9, 10, 11, 12, 13, 14, 15, 16, 17] rfl rfl rfl (by decide) (fun _ => rfl) (fun _ => ⟨a0 99, [.int v1], 6, 0, _, _, rfl, rfl, rfl, rfl, rfl⟩) (fun h => absurd rfl h) rfl (Nat.le_of_ble_eq_true rfl) dX7_drawn_26 29 rfl h (fun r_4 h => ?_)
      refine z_if_ne C 35 dX7_drawn_29 (by decide) 32 rfl h (fun h => ?_) (fun h => ?_)
      · refine z_iload_n C dX7_drawn_35 rfl 2 rfl 36 rfl ?_
        refine z_case h (fun hx h => ?_) (fun hx_0 h => ?_)
        · refine z_tableIn (off := 32) C 68 dX7_drawn_36 hx (by decide) (by decide) (by decide) (by decide) ?_
          refine z_aload_n C dX7_drawn_68 rfl 0 rfl 69 rfl ?_
          refine z_callR C (wX7 T a0 r_4.2) (fun v h => c_X7_bends l D T a0  r_4.2  v h) ⟨rfl, rfl⟩ (z_cwV C 0 gX7_drawn_X7_bends rfl rfl dd_X7_bends ⟨(Nat.le_of_ble_eq_true rfl), (Nat.le_of_ble_eq_true rfl)⟩) (hD.zaddr rfl) [0, 1, 2, 3, 4, 5, 6, 7, 8, 9, 10, 11, 12, 13, 14, 15, 16, 17] rfl rfl (fun _ => ⟨a0 99, [], 6, 0, _, _, rfl, rfl, rfl, rfl, rfl⟩) (fun h => absurd rfl h) rfl (Nat.le_of_ble_eq_true rfl) dX7_drawn_69 72 rfl h (fun r_5 h => ?_)
          exact z_iretW (x := r_4.2) (ex := ex) (fun z => wX7 T a0 z) C hr dX7_drawn_72 h rfl
        · refine z_case h (fun hx h => ?_) (fun hx_1 h => ?_)
          · refine z_tableIn (off := 37) C 73 dX7_drawn_36 hx (by decide) (by decide) (by decide) (by decide) ?_
            refine z_aload_n C dX7_drawn_73 rfl 0 rfl 74 rfl ?_
            refine z_callR C (wX7 T a0 r_4.2) (fun v h => c_X7_across l D T a0  r_4.2  v h) ⟨rfl, rfl⟩ (z_cwV C 0 gX7_drawn_X7_across rfl rfl dd_X7_across ⟨(Nat.le_of_ble_eq_true rfl), (Nat.le_of_ble_eq_true rfl)⟩) (hD.zaddr rfl) [0, 1, 2, 3, 4, 5, 6, 7, 8, 9, 10, 11, 12, 13, 14, 15, 16, 17] rfl rfl (fun _ => ⟨a0 99, [], 6, 0, _, _, rfl, rfl, rfl, rfl, rfl⟩) (fun h => absurd rfl h) rfl (Nat.le_of_ble_eq_true rfl) dX7_drawn_74 77 rfl h (fun r_6 h => ?_)
            exact z_iretW (x := r_4.2) (ex := ex) (fun z => wX7 T a0 z) C hr dX7_drawn_77 h rfl
          · refine z_case h (fun hx h => ?_) (fun hx_2 h => ?_)
            · refine z_tableIn (off := 42) C 78 dX7_drawn_36 hx (by decide) (by decide) (by decide) (by decide) ?_
              refine z_aload_n C dX7_drawn_78 rfl 0 rfl 79 rfl ?_
              refine z_callR C (wX7 T a0 r_4.2) (fun v h => c_X7_stepMany l D T a0  r_4.2  v h) ⟨rfl, rfl⟩ (z_cwV C 0 gX7_drawn_X7_stepMany rfl rfl dd_X7_stepMany ⟨(Nat.le_of_ble_eq_true rfl), (Nat.le_of_ble_eq_true rfl)⟩) (hD.zaddr rfl) [0, 1, 2, 3, 4, 5, 6, 7, 8, 9, 10, 11, 12, 13, 14, 15, 16, 17] rfl rfl (fun _ => ⟨a0 99, [], 6, 0, _, _, rfl, rfl, rfl, rfl, rfl⟩) (fun h => absurd rfl h) rfl (Nat.le_of_ble_eq_true rfl) dX7_drawn_79 82 rfl h (fun r_7 h => ?_)
              exact z_iretW (x := r_4.2) (ex := ex) (fun z => wX7 T a0 z) C hr dX7_drawn_82 h rfl
            · refine z_case h (fun hx h => ?_) (fun hx_3 h => ?_)
              · refine z_tableIn (off := 47) C 83 dX7_drawn_36 hx (by decide) (by decide) (by decide) (by decide) ?_
                refine z_aload_n C dX7_drawn_83 rfl 0 rfl 84 rfl ?_
                refine z_callR C (wX7 T a0 r_4.2) (fun v h => c_X7_fullest l D T a0  r_4.2  v h) ⟨rfl, rfl⟩ (z_cwV C 0 gX7_drawn_X7_fullest rfl rfl dd_X7_fullest ⟨(Nat.le_of_ble_eq_true rfl), (Nat.le_of_ble_eq_true rfl)⟩) (hD.zaddr rfl) [0, 1, 2, 3, 4, 5, 6, 7, 8, 9, 10, 11, 12, 13, 14, 15, 16, 17] rfl rfl (fun _ => ⟨a0 99, [], 6, 0, _, _, rfl, rfl, rfl, rfl, rfl⟩) (fun h => absurd rfl h) rfl (Nat.le_of_ble_eq_true rfl) dX7_drawn_84 87 rfl h (fun r_8 h => ?_)
                exact z_iretW (x := r_4.2) (ex := ex) (fun z => wX7 T a0 z) C hr dX7_drawn_87 h rfl
              · refine z_tableOut C 88 dX7_drawn_36 (by have : (v2).toInt ≠ 0 := z_ne_toInt hx_0; have : (v2).toInt ≠ 1 := z_ne_toInt hx_1; have : (v2).toInt ≠ 2 := z_ne_toInt hx_2; have : (v2).toInt ≠ 3 := z_ne_toInt hx_3; omega) (by decide) ?_
                refine z_aload_n C dX7_drawn_88 rfl 0 rfl 89 rfl ?_
                refine z_callR C (wX7 T a0 r_4.2) (fun v h => c_X7_widest l D T a0  r_4.2  v h) ⟨rfl, rfl⟩ (z_cwV C 0 gX7_drawn_X7_widest rfl rfl dd_X7_widest ⟨(Nat.le_of_ble_eq_true rfl), (Nat.le_of_ble_eq_true rfl)⟩) (hD.zaddr rfl) [0, 1, 2, 3, 4, 5, 6, 7, 8, 9, 10, 11, 12, 13, 14, 15, 16, 17] rfl rfl (fun _ => ⟨a0 99, [], 6, 0, _, _, rfl, rfl, rfl, rfl, rfl⟩) (fun h => absurd rfl h) rfl (Nat.le_of_ble_eq_true rfl) dX7_drawn_89 92 rfl h (fun r_9 h => ?_)
                exact z_iretW (x := r_4.2) (ex := ex) (fun z => wX7 T a0 z) C hr dX7_drawn_92 h rfl
      · refine z_bipush C (-2) dX7_drawn_32 (by decide) 34 rfl ?_
        exact z_iretW (x := r_4.2) (ex := ex) (fun z => wX7 T a0 z) C hr dX7_drawn_34 h rfl
    · refine z_iconst C (-1) dX7_drawn_22 (by decide) 23 rfl ?_
      exact z_iretW (x := S0_1) (ex := ex) (fun z => wX7 T a0 z) C hr dX7_drawn_23 h rfl

end
/-! StreamTreeModel.way (III)I -/
section
variable {p : Program} {l : Launch} {e : Env} {R : Room} {s : State} {m : MethodId} {args : Array Value} {below : List Frame} {meth : Method} {c : Code} {Q : State → Prop} {A : Nat → Prop} {D : va_G} {T : Nat → ClassId} {a0 : Nat → Nat}
theorem in_X7_way_X7 : ∀ w ∈ u_ws RX7 TX7 35, w ∈ wsX7_way := fun _ h => (List.mem_cons_of_mem _ (List.mem_append_right _ h))
def f_X7_way (S0 : Nat → Nat → Int32) (v1 : Int32) (v2 : Int32) (v3 : Int32) : Option (Int32 × (Nat → Nat → Int32)) := zlet (zst S0 0 0 0) fun S0_1 => (f_X7_isManner S0_1 v1).bind fun r_2 => if r_2 = 0 then (some ((-1), S0_1)) else ((f_X7_within v2 0 ((S0_1 9 0) - 1)).bind fun r_3 => if r_3 = 0 then (some ((-1), S0_1)) else ((f_X7_within v3 0 (S0_1 1 0)).bind fun r_4 => if r_4 = 0 then (some ((-1), S0_1)) else ((f_X7_lays S0_1 v1).bind fun r_5 => if r_5.1 = 0 then (some ((-2), r_5.2)) else (zix v2 8 fun _ => if v3 ≤ (r_5.2 6 (Int32.toNatClampNeg v2)) then ((f_X7_turnAt r_5.2 v2 v3).bind fun r_6 => some (r_6, r_5.2)) else (some ((-1), r_5.2))))))
theorem dd_X7_way : RX7 ≠ "java/lang/invoke/MethodHandle" ∧ RX7 ≠ "java/lang/invoke/VarHandle" ∧ (parseMethodDescriptor yX7_way.desc).map (fun d => d.parameters.length) = some 3 := by decide +kernel
set_option maxHeartbeats 4000000 in
set_option maxRecDepth 100000 in
theorem c_X7_way (l : Launch) (D : va_G) (T : Nat → ClassId) (a0 : Nat → Nat) (S0 : Nat → Nat → Int32) (v1 : Int32) (v2 : Int32) (v3 : Int32) (ex : Int32 × (Nat → Nat → Int32)) (h : f_X7_way S0 v1 v2 v3 = some ex) : zWI l yX7_way wsX7_way ({ frames := 44, cells := 0, slots := 0, locals := 1727 } : Room) D T [.ref (a0 99), .int v1, .int v2, .int v3] (wX7 T a0 S0) ex.1 (wX7 T a0 ex.2) := by
  refine z_begin (cc := cX7_way) (nL := 4) (own := RX7) (fr := 44) (lc := 1727) (ret := some .int) (by decide) rfl (Nat.le_of_ble_eq_true rfl) (zA (wX7 T a0 S0)) rfl [(0, .ref (a0 99)), (1, .int v1), (2, .int v2), (3, .int v3)] rfl ⟨rfl, rfl⟩ rfl ?_
  intro p e s m args below meth c C hr hD
  have hD := hD.zself
  unfold f_X7_way at h
  refine z_aload_n C dX7_way_0 rfl 0 rfl 1 rfl ?_
  refine z_iconst C 0 dX7_way_1 (by decide) 2 rfl ?_
  refine z_put (ty := .int) C (fun z => wX7 T a0 z) S0 (hD.zaddr rfl) (in_X7_way_X7) tyX7 tyX7_ok nmX7 0 rfl rfl 0 (by decide) (List.mem_of_getElem? (i := 1) rfl) rfl rfl (by decide +kernel) rfl rfl (Nat.le_of_ble_eq_true rfl) rfl dX7_way_2 5 rfl h (fun S0_1 h => ?_)
  refine z_aload_n C dX7_way_5 rfl 0 rfl 6 rfl ?_
  refine z_iload_n C dX7_way_6 rfl 1 rfl 7 rfl ?_
  refine z_callR C (wX7 T a0 S0_1) (fun v h => c_X7_isManner l D T a0  S0_1 v1 v h) ⟨rfl, rfl⟩ (z_cwV C 1 gX7_way_X7_isManner rfl rfl dd_X7_isManner ⟨(Nat.le_of_ble_eq_true rfl), (Nat.le_of_ble_eq_true rfl)⟩) (hD.zaddr rfl) [0, 1, 2, 3, 4, 5, 6, 7, 8, 9, 10, 11, 12, 13, 14, 15, 16, 17] rfl rfl (fun _ => ⟨a0 99, [.int v1], 6, 0, _, _, rfl, rfl, rfl, rfl, rfl⟩) (fun h => absurd rfl h) rfl (Nat.le_of_ble_eq_true rfl) dX7_way_7 10 rfl h (fun r_2 h => ?_)
  refine z_if_eq C 39 dX7_way_10 (by decide) 13 rfl h (fun h => ?_) (fun h => ?_)
  · refine z_iconst C (-1) dX7_way_39 (by decide) 40 rfl ?_
    exact z_iretW (x := S0_1) (ex := ex) (fun z => wX7 T a0 z) C hr dX7_way_40 h rfl
  · refine z_iload_n C dX7_way_13 rfl 2 rfl 14 rfl ?_
    refine z_iconst C 0 dX7_way_14 (by decide) 15 rfl ?_
    refine z_aload_n C dX7_way_15 rfl 0 rfl 16 rfl ?_
    refine z_get C (in_X7_way_X7) 0 rfl rfl 9 (by decide) (List.mem_of_getElem? (i := 2) rfl) rfl rfl dX7_way_16 19 rfl ?_
    refine z_iconst C 1 dX7_way_19 (by decide) 20 rfl ?_
    refine z_isub C dX7_way_20 21 rfl ?_
    refine z_callR C ([]) (fun v h => c_X7_within l D T    v2 0 ((S0_1 9 0) - 1) v h) ⟨rfl, rfl⟩ (z_cwS C 3 gX7_way_X7_within rfl dd_X7_within ⟨(Nat.le_of_ble_eq_true rfl), (Nat.le_of_ble_eq_true rfl)⟩) (hD.zaddr rfl) [] rfl rfl (fun h => absurd h (by decide)) (fun _ => rfl) rfl (Nat.le_of_ble_eq_true rfl) dX7_way_21 24 rfl h (fun r_3 h => ?_)
    refine z_if_eq C 39 dX7_way_24 (by decide) 27 rfl h (fun h => ?_) (fun h => ?_)
    · refine z_iconst C (-1) dX7_way_39 (by decide) 40 rfl ?_
      exact z_iretW (x := S0_1) (ex := ex) (fun z => wX7 T a0 z) C hr dX7_way_40 h rfl
    · refine z_iload_n C dX7_way_27 rfl 3 rfl 28 rfl ?_
      refine z_iconst C 0 dX7_way_28 (by decide) 29 rfl ?_
      refine z_aload_n C dX7_way_29 rfl 0 rfl 30 rfl ?_
      refine z_get C (in_X7_way_X7) 0 rfl rfl 1 (by decide) (List.mem_of_getElem? (i := 3) rfl) rfl rfl dX7_way_30 33 rfl ?_
      refine z_callR C ([]) (fun v h => c_X7_within l D T    v3 0 (S0_1 1 0) v h) ⟨rfl, rfl⟩ (z_cwS C 3 gX7_way_X7_within rfl dd_X7_within ⟨(Nat.le_of_ble_eq_true rfl), (Nat.le_of_ble_eq_true rfl)⟩) (hD.zaddr rfl) [] rfl rfl (fun h => absurd h (by decide)) (fun _ => rfl) rfl (Nat.le_of_ble_eq_true rfl) dX7_way_33 36 rfl h (fun r_4 h => ?_)
      refine z_if_ne C 41 dX7_way_36 (by decide) 39 rfl h (fun h => ?_) (fun h => ?_)
      · refine z_aload_n C dX7_way_41 rfl 0 rfl 42 rfl ?_
        refine z_iload_n C dX7_way_42 rfl 1 rfl 43 rfl ?_
        refine z_callW C (wX7 T a0 S0_1) (([] : va_W)) (fun z => z.1) (fun z => wX7 T a0 z.2) (fun z => wX7 T a0 z.2) (fun z h => c_X7_lays l D T a0  S0_1 v1 z h) ⟨rfl, rfl⟩ (z_cwV C 1 gX7_way_X7_lays rfl rfl dd_X7_lays ⟨(Nat.le_of_ble_eq_true rfl), (Nat.le_of_ble_eq_true rfl)⟩) (hD.zaddr rfl) [0, 1, 2, 3, 4, 5, 6, 7, 8, 9, 10, 11, 12, 13, 14, 15, 16, 17] [] [0, 1, 2, 3, 4, 5, 6, 7, 8, 9, 10, 11, 12, 13, 14, 15, 16, 17] rfl rfl rfl (by decide) (fun _ => rfl) (fun _ => ⟨a0 99, [.int v1], 6, 0, _, _, rfl, rfl, rfl, rfl, rfl⟩) (fun h => absurd rfl h) rfl (Nat.le_of_ble_eq_true rfl) dX7_way_43 46 rfl h (fun r_5 h => ?_)
        refine z_if_ne C 54 dX7_way_46 (by decide) 49 rfl h (fun h => ?_) (fun h => ?_)
        · refine z_iload_n C dX7_way_54 rfl 3 rfl 55 rfl ?_
          refine z_aload_n C dX7_way_55 rfl 0 rfl 56 rfl ?_
          refine z_get C (in_X7_way_X7) 0 rfl rfl 6 (by decide) (List.mem_of_getElem? (i := 4) rfl) rfl rfl dX7_way_56 59 rfl ?_
          refine z_iload_n C dX7_way_59 rfl 2 rfl 60 rfl ?_
          refine z_iald C 1 rfl rfl dX7_way_60 61 rfl h (fun h => ?_)
          refine z_icmp_le C 68 dX7_way_61 (by decide) 64 rfl h (fun h => ?_) (fun h => ?_)
          · refine z_aload_n C dX7_way_68 rfl 0 rfl 69 rfl ?_
            refine z_iload_n C dX7_way_69 rfl 2 rfl 70 rfl ?_
            refine z_iload_n C dX7_way_70 rfl 3 rfl 71 rfl ?_
            refine z_callR C (wX7 T a0 r_5.2) (fun v h => c_X7_turnAt l D T a0  r_5.2 v2 v3 v h) ⟨rfl, rfl⟩ (z_cwV C 2 gX7_way_X7_turnAt rfl rfl dd_X7_turnAt ⟨(Nat.le_of_ble_eq_true rfl), (Nat.le_of_ble_eq_true rfl)⟩) (hD.zaddr rfl) [0, 1, 2, 3, 4, 5, 6, 7, 8, 9, 10, 11, 12, 13, 14, 15, 16, 17] rfl rfl (fun _ => ⟨a0 99, [.int v2, .int v3], 6, 0, _, _, rfl, rfl, rfl, rfl, rfl⟩) (fun h => absurd rfl h) rfl (Nat.le_of_ble_eq_true rfl) dX7_way_71 74 rfl h (fun r_6 h => ?_)
            exact z_iretW (x := r_5.2) (ex := ex) (fun z => wX7 T a0 z) C hr dX7_way_74 h rfl
          · refine z_iconst C (-1) dX7_way_64 (by decide) 65 rfl ?_
            refine z_goto C 74 dX7_way_65 (by decide) ?_
            exact z_iretW (x := r_5.2) (ex := ex) (fun z => wX7 T a0 z) C hr dX7_way_74 h rfl
        · refine z_bipush C (-2) dX7_way_49 (by decide) 51 rfl ?_
          refine z_goto C 74 dX7_way_51 (by decide) ?_
          exact z_iretW (x := r_5.2) (ex := ex) (fun z => wX7 T a0 z) C hr dX7_way_74 h rfl
      · refine z_iconst C (-1) dX7_way_39 (by decide) 40 rfl ?_
        exact z_iretW (x := S0_1) (ex := ex) (fun z => wX7 T a0 z) C hr dX7_way_40 h rfl

end
/-! StreamTreeModel.borne (III)I -/
section
variable {p : Program} {l : Launch} {e : Env} {R : Room} {s : State} {m : MethodId} {args : Array Value} {below : List Frame} {meth : Method} {c : Code} {Q : State → Prop} {A : Nat → Prop} {D : va_G} {T : Nat → ClassId} {a0 : Nat → Nat}
theorem in_X7_borne_X7 : ∀ w ∈ u_ws RX7 TX7 35, w ∈ wsX7_borne := fun _ h => (List.mem_cons_of_mem _ (List.mem_append_right _ h))
def f_X7_borne_J82 (rec : (Int32 × Int32) → Option (Int32)) (S0 : Nat → Nat → Int32) (v2 : Int32) (v3 : Int32) (x5 : Int32) (k0 : Int32) (k1 : Int32) : Option (Int32) := zlet (k0 ||| k1) fun u_5 => rec (u_5, (x5 + 1))
set_option maxHeartbeats 4000000 in
set_option maxRecDepth 100000 in
theorem p_X7_borne_J82 (C : zC p R s m args meth c cX7_borne 6 RX7 wsX7_borne D T 44 1727 0 0) (S0 : Nat → Nat → Int32) {v2 : Int32} {v3 : Int32} (x5 : Int32) (k0 : Int32) (k1 : Int32) (hD : va_D A (wX7 T a0 S0)) {rec : (Int32 × Int32) → Option (Int32)} (hrec : ∀ (c0 : Int32) (c1 : Int32) (b : Int32), rec (c0, c1) = some b → (zt p l e R s m args below meth c 6 A D 0 0 Q (wX7 T a0 S0) [(4, .int b)] 91 []) → zt p l e R s m args below meth c 6 A D 0 0 Q (wX7 T a0 S0) [(0, .ref (a0 99)), (2, .int v2), (3, .int v3), (4, .int c0), (5, .int c1)] 41 []) {b : Int32} (K : zt p l e R s m args below meth c 6 A D 0 0 Q (wX7 T a0 S0) [(4, .int b)] 91 []) (h : f_X7_borne_J82 rec S0 v2 v3 x5 k0 k1 = some b) : zt p l e R s m args below meth c 6 A D 0 0 Q (wX7 T a0 S0) [(0, .ref (a0 99)), (2, .int v2), (3, .int v3), (5, .int x5)] 82 [.int k1, .int k0] := by
  unfold f_X7_borne_J82 at h
  refine z_ior C dX7_borne_82 83 rfl ?_
  refine z_top h (fun u_5 h => ?_)
  refine z_istore C [(0, .ref (a0 99)), (2, .int v2), (3, .int v3), (4, .int u_5), (5, .int x5)] dX7_borne_83 (Nat.le_of_ble_eq_true rfl) [1, 2, 3, 0, 4] rfl 85 rfl ?_
  refine z_iinc C (x5 + 1) [(0, .ref (a0 99)), (2, .int v2), (3, .int v3), (4, .int u_5), (5, .int (x5 + 1))] dX7_borne_85 4 rfl rfl (Nat.le_of_ble_eq_true rfl) [1, 2, 3, 4, 0] rfl 88 rfl ?_
  refine z_goto C 41 dX7_borne_88 (by decide) ?_
  exact z_locals (ks := [0, 1, 2, 3, 4]) rfl (hrec _ _ _ h K)

def f_X7_borne_J81 (rec : (Int32 × Int32) → Option (Int32)) (S0 : Nat → Nat → Int32) (v2 : Int32) (v3 : Int32) (x5 : Int32) (k0 : Int32) : Option (Int32) := f_X7_borne_J82 rec S0 v2 v3 x5 k0 0
set_option maxHeartbeats 4000000 in
set_option maxRecDepth 100000 in
theorem p_X7_borne_J81 (C : zC p R s m args meth c cX7_borne 6 RX7 wsX7_borne D T 44 1727 0 0) (S0 : Nat → Nat → Int32) {v2 : Int32} {v3 : Int32} (x5 : Int32) (k0 : Int32) (hD : va_D A (wX7 T a0 S0)) {rec : (Int32 × Int32) → Option (Int32)} (hrec : ∀ (c0 : Int32) (c1 : Int32) (b : Int32), rec (c0, c1) = some b → (zt p l e R s m args below meth c 6 A D 0 0 Q (wX7 T a0 S0) [(4, .int b)] 91 []) → zt p l e R s m args below meth c 6 A D 0 0 Q (wX7 T a0 S0) [(0, .ref (a0 99)), (2, .int v2), (3, .int v3), (4, .int c0), (5, .int c1)] 41 []) {b : Int32} (K : zt p l e R s m args below meth c 6 A D 0 0 Q (wX7 T a0 S0) [(4, .int b)] 91 []) (h : f_X7_borne_J81 rec S0 v2 v3 x5 k0 = some b) : zt p l e R s m args below meth c 6 A D 0 0 Q (wX7 T a0 S0) [(0, .ref (a0 99)), (2, .int v2), (3, .int v3), (5, .int x5)] 81 [.int k0] := by
  unfold f_X7_borne_J81 at h
  refine z_iconst C 0 dX7_borne_81 (by decide) 82 rfl ?_
  exact z_locals (ks := [0, 1, 2, 3]) rfl (p_X7_borne_J82 C S0 x5 k0 0 (hD.zaddr rfl) hrec K h)

def f_X7_borne_L41b (S0 : Nat → Nat → Int32) (v2 : Int32) (v3 : Int32) (rec : (Int32 × Int32) → Option (Int32)) (a : Int32 × Int32) : Option (Int32) := if (S0 9 0) ≤ a.2 then (some a.1) else (zix a.2 8 fun _ => if (S0 6 (Int32.toNatClampNeg a.2)) < v2 then (f_X7_borne_J81 rec S0 v2 v3 a.2 a.1) else ((f_X7_turnAt S0 a.2 v2).bind fun r_6 => if r_6 = v3 then (f_X7_borne_J82 rec S0 v2 v3 a.2 a.1 (1 <<< (a.2 &&& 31))) else (f_X7_borne_J81 rec S0 v2 v3 a.2 a.1)))
def f_X7_borne_L41 (S0 : Nat → Nat → Int32) (v2 : Int32) (v3 : Int32) : Nat → (Int32 × Int32) → Option (Int32) := zloop (fun rec a => f_X7_borne_L41b S0 v2 v3 rec a)
set_option maxHeartbeats 4000000 in
set_option maxRecDepth 100000 in
theorem p_X7_borne_L41 (C : zC p R s m args meth c cX7_borne 6 RX7 wsX7_borne D T 44 1727 0 0) (S0 : Nat → Nat → Int32) (v2 : Int32) (v3 : Int32) (hD : va_D A (wX7 T a0 S0)) : ∀ (n : Nat) (c0 : Int32) (c1 : Int32) (b : Int32), f_X7_borne_L41 S0 v2 v3 n (c0, c1) = some b → (zt p l e R s m args below meth c 6 A D 0 0 Q (wX7 T a0 S0) [(4, .int b)] 91 []) → zt p l e R s m args below meth c 6 A D 0 0 Q (wX7 T a0 S0) [(0, .ref (a0 99)), (2, .int v2), (3, .int v3), (4, .int c0), (5, .int c1)] 41 [] := by
  intro n c0 c1 b h K
  refine zloop_ind (P := fun a b => (zt p l e R s m args below meth c 6 A D 0 0 Q (wX7 T a0 S0) [(4, .int b)] 91 []) → zt p l e R s m args below meth c 6 A D 0 0 Q (wX7 T a0 S0) [(0, .ref (a0 99)), (2, .int v2), (3, .int v3), (4, .int a.1), (5, .int a.2)] 41 []) ?_ n (c0, c1) b h K
  clear h K b c0 c1
  intro rec hrec a b h K
  have hrec : ∀ (c0 : Int32) (c1 : Int32) (b : Int32), rec (c0, c1) = some b → (zt p l e R s m args below meth c 6 A D 0 0 Q (wX7 T a0 S0) [(4, .int b)] 91 []) → zt p l e R s m args below meth c 6 A D 0 0 Q (wX7 T a0 S0) [(0, .ref (a0 99)), (2, .int v2), (3, .int v3), (4, .int c0), (5, .int c1)] 41 [] := fun c0 c1 b h K => hrec (c0, c1) b h K
  unfold f_X7_borne_L41b at h
  refine z_iload C dX7_borne_41 4 rfl 43 rfl ?_
  refine z_aload_n C dX7_borne_43 rfl 0 rfl 44 rfl ?_
  refine z_get C (in_X7_borne_X7) 0 rfl rfl 9 (by decide) (List.mem_of_getElem? (i := 2) rfl) rfl rfl dX7_borne_44 47 rfl ?_
  refine z_icmp_ge C 91 dX7_borne_47 (by decide) 50 rfl h (fun h => ?_) (fun h => ?_)
  · refine z_locals (ks := [3]) (lv' := [(4, .int a.1)]) rfl ?_
    exact zex1 (F := (fun e0 => zt p l e R s m args below meth c 6 A D 0 0 Q (wX7 T a0 S0) [(4, .int e0)] 91 [])) h K
  · refine z_iload C dX7_borne_50 3 rfl 52 rfl ?_
    refine z_aload_n C dX7_borne_52 rfl 0 rfl 53 rfl ?_
    refine z_get C (in_X7_borne_X7) 0 rfl rfl 6 (by decide) (List.mem_of_getElem? (i := 3) rfl) rfl rfl dX7_borne_53 56 rfl ?_
    refine z_iload C dX7_borne_56 4 rfl 58 rfl ?_
    refine z_iald C 1 rfl rfl dX7_borne_58 59 rfl h (fun h => ?_)
    refine z_iload_n C dX7_borne_59 rfl 1 rfl 60 rfl ?_
    refine z_icmp_lt C 81 dX7_borne_60 (by decide) 63 rfl h (fun h => ?_) (fun h => ?_)
    · exact z_locals (ks := [0, 1, 2, 4]) rfl (p_X7_borne_J81 C S0 a.2 a.1 (hD.zaddr rfl) hrec K h)
    · refine z_aload_n C dX7_borne_63 rfl 0 rfl 64 rfl ?_
      refine z_iload C dX7_borne_64 4 rfl 66 rfl ?_
      refine z_iload_n C dX7_borne_66 rfl 1 rfl 67 rfl ?_
      refine z_callR C (wX7 T a0 S0) (fun v h => c_X7_turnAt l D T a0  S0 a.2 v2 v h) ⟨rfl, rfl⟩ (z_cwV C 2 gX7_borne_X7_turnAt rfl rfl dd_X7_turnAt ⟨(Nat.le_of_ble_eq_true rfl), (Nat.le_of_ble_eq_true rfl)⟩) (hD.zaddr rfl) [0, 1, 2, 3, 4, 5, 6, 7, 8, 9, 10, 11, 12, 13, 14, 15, 16, 17] rfl rfl (fun _ => ⟨a0 99, [.int a.2, .int v2], 6, 0, _, _, rfl, rfl, rfl, rfl, rfl⟩) (fun h => absurd rfl h) rfl (Nat.le_of_ble_eq_true rfl) dX7_borne_67 70 rfl h (fun r_6 h => ?_)
      refine z_iload_n C dX7_borne_70 rfl 2 rfl 71 rfl ?_
      refine z_icmp_ne C 81 dX7_borne_71 (by decide) 74 rfl h (fun h => ?_) (fun h => ?_)
      · exact z_locals (ks := [0, 1, 2, 4]) rfl (p_X7_borne_J81 C S0 a.2 a.1 (hD.zaddr rfl) hrec K h)
      · refine z_iconst C 1 dX7_borne_74 (by decide) 75 rfl ?_
        refine z_iload C dX7_borne_75 4 rfl 77 rfl ?_
        refine z_ishl C dX7_borne_77 78 rfl ?_
        refine z_goto C 82 dX7_borne_78 (by decide) ?_
        exact z_locals (ks := [0, 1, 2, 4]) rfl (p_X7_borne_J82 C S0 a.2 a.1 (1 <<< (a.2 &&& 31)) (hD.zaddr rfl) hrec K h)

def f_X7_borne (S0 : Nat → Nat → Int32) (v1 : Int32) (v2 : Int32) (v3 : Int32) : Option (Int32 × (Nat → Nat → Int32)) := zlet (zst S0 0 0 0) fun S0_1 => (f_X7_isManner S0_1 v1).bind fun r_2 => if r_2 = 0 then (some ((-1), S0_1)) else ((f_X7_isCell S0_1 v2 v3).bind fun r_3 => if r_3 = 0 then (some ((-1), S0_1)) else ((f_X7_lays S0_1 v1).bind fun r_4 => if r_4.1 = 0 then (some ((-2), r_4.2)) else ((f_X7_borne_L41 r_4.2 v2 v3 zfuel (0, 0)).bind fun y_7 => some (y_7, r_4.2))))
theorem dd_X7_borne : RX7 ≠ "java/lang/invoke/MethodHandle" ∧ RX7 ≠ "java/lang/invoke/VarHandle" ∧ (parseMethodDescriptor yX7_borne.desc).map (fun d => d.parameters.length) = some 3 := by decide +kernel
set_option maxHeartbeats 4000000 in
set_option maxRecDepth 100000 in
theorem c_X7_borne (l : Launch) (D : va_G) (T : Nat → ClassId) (a0 : Nat → Nat) (S0 : Nat → Nat → Int32) (v1 : Int32) (v2 : Int32) (v3 : Int32) (ex : Int32 × (Nat → Nat → Int32)) (h : f_X7_borne S0 v1 v2 v3 = some ex) : zWI l yX7_borne wsX7_borne ({ frames := 44, cells := 0, slots := 0, locals := 1727 } : Room) D T [.ref (a0 99), .int v1, .int v2, .int v3] (wX7 T a0 S0) ex.1 (wX7 T a0 ex.2) := by
  refine z_begin (cc := cX7_borne) (nL := 6) (own := RX7) (fr := 44) (lc := 1727) (ret := some .int) (by decide) rfl (Nat.le_of_ble_eq_true rfl) (zA (wX7 T a0 S0)) rfl [(0, .ref (a0 99)), (1, .int v1), (2, .int v2), (3, .int v3)] rfl ⟨rfl, rfl⟩ rfl ?_
  intro p e s m args below meth c C hr hD
  have hD := hD.zself
  unfold f_X7_borne at h
  refine z_aload_n C dX7_borne_0 rfl 0 rfl 1 rfl ?_
  refine z_iconst C 0 dX7_borne_1 (by decide) 2 rfl ?_
  refine z_put (ty := .int) C (fun z => wX7 T a0 z) S0 (hD.zaddr rfl) (in_X7_borne_X7) tyX7 tyX7_ok nmX7 0 rfl rfl 0 (by decide) (List.mem_of_getElem? (i := 1) rfl) rfl rfl (by decide +kernel) rfl rfl (Nat.le_of_ble_eq_true rfl) rfl dX7_borne_2 5 rfl h (fun S0_1 h => ?_)
  refine z_aload_n C dX7_borne_5 rfl 0 rfl 6 rfl ?_
  refine z_iload_n C dX7_borne_6 rfl 1 rfl 7 rfl ?_
  refine z_callR C (wX7 T a0 S0_1) (fun v h => c_X7_isManner l D T a0  S0_1 v1 v h) ⟨rfl, rfl⟩ (z_cwV C 1 gX7_borne_X7_isManner rfl rfl dd_X7_isManner ⟨(Nat.le_of_ble_eq_true rfl), (Nat.le_of_ble_eq_true rfl)⟩) (hD.zaddr rfl) [0, 1, 2, 3, 4, 5, 6, 7, 8, 9, 10, 11, 12, 13, 14, 15, 16, 17] rfl rfl (fun _ => ⟨a0 99, [.int v1], 6, 0, _, _, rfl, rfl, rfl, rfl, rfl⟩) (fun h => absurd rfl h) rfl (Nat.le_of_ble_eq_true rfl) dX7_borne_7 10 rfl h (fun r_2 h => ?_)
  refine z_if_eq C 22 dX7_borne_10 (by decide) 13 rfl h (fun h => ?_) (fun h => ?_)
  · refine z_iconst C (-1) dX7_borne_22 (by decide) 23 rfl ?_
    exact z_iretW (x := S0_1) (ex := ex) (fun z => wX7 T a0 z) C hr dX7_borne_23 h rfl
  · refine z_aload_n C dX7_borne_13 rfl 0 rfl 14 rfl ?_
    refine z_iload_n C dX7_borne_14 rfl 2 rfl 15 rfl ?_
    refine z_iload_n C dX7_borne_15 rfl 3 rfl 16 rfl ?_
    refine z_callR C (wX7 T a0 S0_1) (fun v h => c_X7_isCell l D T a0  S0_1 v2 v3 v h) ⟨rfl, rfl⟩ (z_cwV C 2 gX7_borne_X7_isCell rfl rfl dd_X7_isCell ⟨(Nat.le_of_ble_eq_true rfl), (Nat.le_of_ble_eq_true rfl)⟩) (hD.zaddr rfl) [0, 1, 2, 3, 4, 5, 6, 7, 8, 9, 10, 11, 12, 13, 14, 15, 16, 17] rfl rfl (fun _ => ⟨a0 99, [.int v2, .int v3], 6, 0, _, _, rfl, rfl, rfl, rfl, rfl⟩) (fun h => absurd rfl h) rfl (Nat.le_of_ble_eq_true rfl) dX7_borne_16 19 rfl h (fun r_3 h => ?_)
    refine z_if_ne C 24 dX7_borne_19 (by decide) 22 rfl h (fun h => ?_) (fun h => ?_)
    · refine z_aload_n C dX7_borne_24 rfl 0 rfl 25 rfl ?_
      refine z_iload_n C dX7_borne_25 rfl 1 rfl 26 rfl ?_
      refine z_callW C (wX7 T a0 S0_1) (([] : va_W)) (fun z => z.1) (fun z => wX7 T a0 z.2) (fun z => wX7 T a0 z.2) (fun z h => c_X7_lays l D T a0  S0_1 v1 z h) ⟨rfl, rfl⟩ (z_cwV C 1 gX7_borne_X7_lays rfl rfl dd_X7_lays ⟨(Nat.le_of_ble_eq_true rfl), (Nat.le_of_ble_eq_true rfl)⟩) (hD.zaddr rfl) [0, 1, 2, 3, 4, 5, 6, 7, 8, 9, 10, 11, 12, 13, 14, 15, 16, 17] [] [0, 1, 2, 3, 4, 5, 6, 7, 8, 9, 10, 11, 12, 13, 14, 15, 16, 17] rfl rfl rfl (by decide) (fun _ => rfl) (fun _ => ⟨a0 99, [.int v1], 6, 0, _, _, rfl, rfl, rfl, rfl, rfl⟩) (fun h => absurd rfl h) rfl (Nat.le_of_ble_eq_true rfl) dX7_borne_26 29 rfl h (fun r_4 h => ?_)
      refine z_if_ne C 35 dX7_borne_29 (by decide) 32 rfl h (fun h => ?_) (fun h => ?_)
      · refine z_iconst C 0 dX7_borne_35 (by decide) 36 rfl ?_
        refine z_istore C [(0, .ref (a0 99)), (1, .int v1), (2, .int v2), (3, .int v3), (4, .int 0)] dX7_borne_36 (Nat.le_of_ble_eq_true rfl) [1, 2, 3, 4, 0] rfl 38 rfl ?_
        refine z_iconst C 0 dX7_borne_38 (by decide) 39 rfl ?_
        refine z_istore C [(0, .ref (a0 99)), (1, .int v1), (2, .int v2), (3, .int v3), (4, .int 0), (5, .int 0)] dX7_borne_39 (Nat.le_of_ble_eq_true rfl) [1, 2, 3, 4, 5, 0] rfl 41 rfl ?_
        obtain ⟨y_7, hl_y_7, h⟩ := Option.bind_eq_some_iff.mp h
        refine z_locals (ks := [0, 2, 3, 4, 5]) rfl (p_X7_borne_L41 C r_4.2 v2 v3 (hD.zaddr rfl) _ _ _ _ hl_y_7 ?_)
        refine z_iload C dX7_borne_91 0 rfl 93 rfl ?_
        exact z_iretW (x := r_4.2) (ex := ex) (fun z => wX7 T a0 z) C hr dX7_borne_93 h rfl
      · refine z_bipush C (-2) dX7_borne_32 (by decide) 34 rfl ?_
        exact z_iretW (x := r_4.2) (ex := ex) (fun z => wX7 T a0 z) C hr dX7_borne_34 h rfl
    · refine z_iconst C (-1) dX7_borne_22 (by decide) 23 rfl ?_
      exact z_iretW (x := S0_1) (ex := ex) (fun z => wX7 T a0 z) C hr dX7_borne_23 h rfl

end
/-! StreamTreeModel.more (IIII)I -/
section
variable {p : Program} {l : Launch} {e : Env} {R : Room} {s : State} {m : MethodId} {args : Array Value} {below : List Frame} {meth : Method} {c : Code} {Q : State → Prop} {A : Nat → Prop} {D : va_G} {T : Nat → ClassId} {a0 : Nat → Nat}
theorem in_X7_more_X7 : ∀ w ∈ u_ws RX7 TX7 35, w ∈ wsX7_more := fun _ h => (List.mem_cons_of_mem _ (List.mem_append_right _ h))
def f_X7_more_L93b  (v1 : Int32) (v2 : Int32) (v3 : Int32) (v4 : Int32) (v5 : Int32) (rec : (Int32 × (Nat → Nat → Int32)) → Option ((Nat → Nat → Int32))) (a : Int32 × (Nat → Nat → Int32)) : Option ((Nat → Nat → Int32)) := if (a.2 2 0) ≤ a.1 then (some a.2) else ((f_X7_laysMore a.2 v5 a.1 v3).bind fun r_10 => rec ((a.1 + 1), r_10))
def f_X7_more_L93  (v1 : Int32) (v2 : Int32) (v3 : Int32) (v4 : Int32) (v5 : Int32) : Nat → (Int32 × (Nat → Nat → Int32)) → Option ((Nat → Nat → Int32)) := zloop (fun rec a => f_X7_more_L93b v1 v2 v3 v4 v5 rec a)
set_option maxHeartbeats 4000000 in
set_option maxRecDepth 100000 in
theorem p_X7_more_L93 (C : zC p R s m args meth c cX7_more 7 RX7 wsX7_more D T 44 1727 0 0) (S0 : Nat → Nat → Int32) (v1 : Int32) (v2 : Int32) (v3 : Int32) (v4 : Int32) (v5 : Int32) (hD : va_D A (wX7 T a0 S0)) : ∀ (n : Nat) (c0 : Int32) (c1 : Nat → Nat → Int32) (b : (Nat → Nat → Int32)), f_X7_more_L93 v1 v2 v3 v4 v5 n (c0, c1) = some b → (zt p l e R s m args below meth c 7 A D 0 0 Q (wX7 T a0 b) [(0, .ref (a0 99)), (1, .int v1), (2, .int v2), (3, .int v3), (4, .int v4), (5, .int v5)] 117 []) → zt p l e R s m args below meth c 7 A D 0 0 Q (wX7 T a0 c1) [(0, .ref (a0 99)), (1, .int v1), (2, .int v2), (3, .int v3), (4, .int v4), (5, .int v5), (6, .int c0)] 93 [] := by
  intro n c0 c1 b h K
  refine zloop_ind (P := fun a b => (zt p l e R s m args below meth c 7 A D 0 0 Q (wX7 T a0 b) [(0, .ref (a0 99)), (1, .int v1), (2, .int v2), (3, .int v3), (4, .int v4), (5, .int v5)] 117 []) → zt p l e R s m args below meth c 7 A D 0 0 Q (wX7 T a0 a.2) [(0, .ref (a0 99)), (1, .int v1), (2, .int v2), (3, .int v3), (4, .int v4), (5, .int v5), (6, .int a.1)] 93 []) ?_ n (c0, c1) b h K
  clear h K b c0 c1
  intro rec hrec a b h K
  have hrec : ∀ (c0 : Int32) (c1 : Nat → Nat → Int32) (b : (Nat → Nat → Int32)), rec (c0, c1) = some b → (zt p l e R s m args below meth c 7 A D 0 0 Q (wX7 T a0 b) [(0, .ref (a0 99)), (1, .int v1), (2, .int v2), (3, .int v3), (4, .int v4), (5, .int v5)] 117 []) → zt p l e R s m args below meth c 7 A D 0 0 Q (wX7 T a0 c1) [(0, .ref (a0 99)), (1, .int v1), (2, .int v2), (3, .int v3), (4, .int v4), (5, .int v5), (6, .int c0)] 93 [] := fun c0 c1 b h K => hrec (c0, c1) b h K
  unfold f_X7_more_L93b at h
  refine z_iload C dX7_more_93 6 rfl 95 rfl ?_
  refine z_aload_n C dX7_more_95 rfl 0 rfl 96 rfl ?_
  refine z_get C (in_X7_more_X7) 0 rfl rfl 2 (by decide) (List.mem_of_getElem? (i := 6) rfl) rfl rfl dX7_more_96 99 rfl ?_
  refine z_icmp_ge C 117 dX7_more_99 (by decide) 102 rfl h (fun h => ?_) (fun h => ?_)
  · refine z_locals (ks := [0, 1, 2, 3, 4, 5]) (lv' := [(0, .ref (a0 99)), (1, .int v1), (2, .int v2), (3, .int v3), (4, .int v4), (5, .int v5)]) rfl ?_
    exact zex1 (F := (fun e0 => zt p l e R s m args below meth c 7 A D 0 0 Q (wX7 T a0 e0) [(0, .ref (a0 99)), (1, .int v1), (2, .int v2), (3, .int v3), (4, .int v4), (5, .int v5)] 117 [])) h K
  · refine z_aload_n C dX7_more_102 rfl 0 rfl 103 rfl ?_
    refine z_iload C dX7_more_103 5 rfl 105 rfl ?_
    refine z_iload C dX7_more_105 6 rfl 107 rfl ?_
    refine z_iload_n C dX7_more_107 rfl 3 rfl 108 rfl ?_
    refine z_callV C (wX7 T a0 a.2) (([] : va_W)) (fun z => wX7 T a0 z) (fun z => wX7 T a0 z) (fun z h => c_X7_laysMore l D T a0  a.2 v5 a.1 v3 z h) ⟨rfl, rfl⟩ (z_cwV C 3 gX7_more_X7_laysMore rfl rfl dd_X7_laysMore ⟨(Nat.le_of_ble_eq_true rfl), (Nat.le_of_ble_eq_true rfl)⟩) (hD.zaddr rfl) [0, 1, 2, 3, 4, 5, 6, 7, 8, 9, 10, 11, 12, 13, 14, 15, 16, 17] [] [0, 1, 2, 3, 4, 5, 6, 7, 8, 9, 10, 11, 12, 13, 14, 15, 16, 17] rfl rfl rfl (by decide) (fun _ => rfl) (fun _ => ⟨a0 99, [.int v5, .int a.1, .int v3], 6, 0, _, _, rfl, rfl, rfl, rfl, rfl⟩) (fun h => absurd rfl h) rfl (Nat.le_of_ble_eq_true rfl) dX7_more_108 111 rfl h (fun r_10 h => ?_)
    refine z_iinc C (a.1 + 1) [(0, .ref (a0 99)), (1, .int v1), (2, .int v2), (3, .int v3), (4, .int v4), (5, .int v5), (6, .int (a.1 + 1))] dX7_more_111 6 rfl rfl (Nat.le_of_ble_eq_true rfl) [1, 2, 3, 4, 5, 6, 0] rfl 114 rfl ?_
    refine z_goto C 93 dX7_more_114 (by decide) ?_
    exact z_locals (ks := [0, 1, 2, 3, 4, 5, 6]) rfl (hrec _ _ _ h K)

def f_X7_more_L84b  (v1 : Int32) (v2 : Int32) (v3 : Int32) (v4 : Int32) (rec : (Int32 × (Nat → Nat → Int32)) → Option ((Nat → Nat → Int32))) (a : Int32 × (Nat → Nat → Int32)) : Option ((Nat → Nat → Int32)) := if v1 < a.1 then (some a.2) else ((f_X7_more_L93 v1 v2 v3 v4 a.1 zfuel (0, a.2)).bind fun y_11 => rec ((a.1 + 1), y_11))
def f_X7_more_L84  (v1 : Int32) (v2 : Int32) (v3 : Int32) (v4 : Int32) : Nat → (Int32 × (Nat → Nat → Int32)) → Option ((Nat → Nat → Int32)) := zloop (fun rec a => f_X7_more_L84b v1 v2 v3 v4 rec a)
set_option maxHeartbeats 4000000 in
set_option maxRecDepth 100000 in
theorem p_X7_more_L84 (C : zC p R s m args meth c cX7_more 7 RX7 wsX7_more D T 44 1727 0 0) (S0 : Nat → Nat → Int32) (v1 : Int32) (v2 : Int32) (v3 : Int32) (v4 : Int32) (hD : va_D A (wX7 T a0 S0)) : ∀ (n : Nat) (c0 : Int32) (c1 : Nat → Nat → Int32) (b : (Nat → Nat → Int32)), f_X7_more_L84 v1 v2 v3 v4 n (c0, c1) = some b → (zt p l e R s m args below meth c 7 A D 0 0 Q (wX7 T a0 b) [(0, .ref (a0 99)), (1, .int v1), (2, .int v2), (4, .int v4)] 123 []) → zt p l e R s m args below meth c 7 A D 0 0 Q (wX7 T a0 c1) [(0, .ref (a0 99)), (1, .int v1), (2, .int v2), (3, .int v3), (4, .int v4), (5, .int c0)] 84 [] := by
  intro n c0 c1 b h K
  refine zloop_ind (P := fun a b => (zt p l e R s m args below meth c 7 A D 0 0 Q (wX7 T a0 b) [(0, .ref (a0 99)), (1, .int v1), (2, .int v2), (4, .int v4)] 123 []) → zt p l e R s m args below meth c 7 A D 0 0 Q (wX7 T a0 a.2) [(0, .ref (a0 99)), (1, .int v1), (2, .int v2), (3, .int v3), (4, .int v4), (5, .int a.1)] 84 []) ?_ n (c0, c1) b h K
  clear h K b c0 c1
  intro rec hrec a b h K
  have hrec : ∀ (c0 : Int32) (c1 : Nat → Nat → Int32) (b : (Nat → Nat → Int32)), rec (c0, c1) = some b → (zt p l e R s m args below meth c 7 A D 0 0 Q (wX7 T a0 b) [(0, .ref (a0 99)), (1, .int v1), (2, .int v2), (4, .int v4)] 123 []) → zt p l e R s m args below meth c 7 A D 0 0 Q (wX7 T a0 c1) [(0, .ref (a0 99)), (1, .int v1), (2, .int v2), (3, .int v3), (4, .int v4), (5, .int c0)] 84 [] := fun c0 c1 b h K => hrec (c0, c1) b h K
  unfold f_X7_more_L84b at h
  refine z_iload C dX7_more_84 5 rfl 86 rfl ?_
  refine z_iload_n C dX7_more_86 rfl 1 rfl 87 rfl ?_
  refine z_icmp_gt C 123 dX7_more_87 (by decide) 90 rfl h (fun h => ?_) (fun h => ?_)
  · refine z_locals (ks := [0, 1, 2, 4]) (lv' := [(0, .ref (a0 99)), (1, .int v1), (2, .int v2), (4, .int v4)]) rfl ?_
    exact zex1 (F := (fun e0 => zt p l e R s m args below meth c 7 A D 0 0 Q (wX7 T a0 e0) [(0, .ref (a0 99)), (1, .int v1), (2, .int v2), (4, .int v4)] 123 [])) h K
  · refine z_iconst C 0 dX7_more_90 (by decide) 91 rfl ?_
    refine z_istore C [(0, .ref (a0 99)), (1, .int v1), (2, .int v2), (3, .int v3), (4, .int v4), (5, .int a.1), (6, .int 0)] dX7_more_91 (Nat.le_of_ble_eq_true rfl) [1, 2, 3, 4, 5, 6, 0] rfl 93 rfl ?_
    obtain ⟨y_11, hl_y_11, h⟩ := Option.bind_eq_some_iff.mp h
    refine z_locals (ks := [0, 1, 2, 3, 4, 5, 6]) rfl (p_X7_more_L93 C a.2 v1 v2 v3 v4 a.1 (hD.zaddr rfl) _ _ _ _ hl_y_11 ?_)
    refine z_iinc C (a.1 + 1) [(0, .ref (a0 99)), (1, .int v1), (2, .int v2), (3, .int v3), (4, .int v4), (5, .int (a.1 + 1))] dX7_more_117 5 rfl rfl (Nat.le_of_ble_eq_true rfl) [1, 2, 3, 4, 5, 0] rfl 120 rfl ?_
    refine z_goto C 84 dX7_more_120 (by decide) ?_
    exact z_locals (ks := [0, 1, 2, 3, 4, 5]) rfl (hrec _ _ _ h K)

def f_X7_more (S0 : Nat → Nat → Int32) (v1 : Int32) (v2 : Int32) (v3 : Int32) (v4 : Int32) : Option (Int32 × (Nat → Nat → Int32)) := zlet (zst S0 0 0 0) fun S0_1 => (f_X7_isCell S0_1 v1 v2).bind fun r_2 => if r_2 = 0 then (some ((-1), S0_1)) else ((f_X7_cell v1 v2).bind fun r_3 => zix r_3 240 fun _ => if (S0_1 10 (Int32.toNatClampNeg r_3)) = 0 then ((f_X7_within v3 1 99).bind fun r_4 => if r_4 = 0 then (some ((-1), S0_1)) else ((f_X7_within v4 0 2).bind fun r_5 => if r_5 = 0 then (some ((-1), S0_1)) else ((f_X7_lays S0_1 4).bind fun r_6 => if r_6.1 = 0 then (some ((-2), r_6.2)) else (zix 0 240 fun j => zlet (zst r_6.2 32 j 0) fun S0_7 => zix 0 240 fun j => zlet (zst S0_7 33 j 0) fun S0_8 => zix 0 240 fun j => zlet (zst S0_8 34 j 0) fun S0_9 => (f_X7_more_L84 v1 v2 v3 v4 zfuel (1, S0_9)).bind fun y_12 => (f_X7_cell v1 v2).bind fun r_13 => zix r_13 240 fun _ => if (y_12 32 (Int32.toNatClampNeg r_13)) = 1000000000 then (some ((-2), y_12)) else (if v4 = 0 then (zix r_13 240 fun _ => some ((y_12 32 (Int32.toNatClampNeg r_13)), y_12)) else (if v4 = 1 then (zix r_13 240 fun _ => some ((y_12 33 (Int32.toNatClampNeg r_13)), y_12)) else (zix r_13 240 fun _ => some ((y_12 34 (Int32.toNatClampNeg r_13)), y_12)))))))) else (some ((-1), S0_1)))
theorem dd_X7_more : RX7 ≠ "java/lang/invoke/MethodHandle" ∧ RX7 ≠ "java/lang/invoke/VarHandle" ∧ (parseMethodDescriptor yX7_more.desc).map (fun d => d.parameters.length) = some 4 := by decide +kernel
set_option maxHeartbeats 4000000 in
set_option maxRecDepth 100000 in
theorem c_X7_more (l : Launch) (D : va_G) (T : Nat → ClassId) (a0 : Nat → Nat) (S0 : Nat → Nat → Int32) (v1 : Int32) (v2 : Int32) (v3 : Int32) (v4 : Int32) (ex : Int32 × (Nat → Nat → Int32)) (h : f_X7_more S0 v1 v2 v3 v4 = some ex) : zWI l yX7_more wsX7_more ({ frames := 44, cells := 0, slots := 0, locals := 1727 } : Room) D T [.ref (a0 99), .int v1, .int v2, .int v3, .int v4] (wX7 T a0 S0) ex.1 (wX7 T a0 ex.2) := by
  refine z_begin (cc := cX7_more) (nL := 7) (own := RX7) (fr := 44) (lc := 1727) (ret := some .int) (by decide) rfl (Nat.le_of_ble_eq_true rfl) (zA (wX7 T a0 S0)) rfl [(0, .ref (a0 99)), (1, .int v1), (2, .int v2), (3, .int v3), (4, .int v4)] rfl ⟨rfl, rfl⟩ rfl ?_
  intro p e s m args below meth c C hr hD
  have hD := hD.zself
  unfold f_X7_more at h
  refine z_aload_n C dX7_more_0 rfl 0 rfl 1 rfl ?_
  refine z_iconst C 0 dX7_more_1 (by decide) 2 rfl ?_
  refine z_put (ty := .int) C (fun z => wX7 T a0 z) S0 (hD.zaddr rfl) (in_X7_more_X7) tyX7 tyX7_ok nmX7 0 rfl rfl 0 (by decide) (List.mem_of_getElem? (i := 1) rfl) rfl rfl (by decide +kernel) rfl rfl (Nat.le_of_ble_eq_true rfl) rfl dX7_more_2 5 rfl h (fun S0_1 h => ?_)
  refine z_aload_n C dX7_more_5 rfl 0 rfl 6 rfl ?_
  refine z_iload_n C dX7_more_6 rfl 1 rfl 7 rfl ?_
  refine z_iload_n C dX7_more_7 rfl 2 rfl 8 rfl ?_
  refine z_callR C (wX7 T a0 S0_1) (fun v h => c_X7_isCell l D T a0  S0_1 v1 v2 v h) ⟨rfl, rfl⟩ (z_cwV C 2 gX7_more_X7_isCell rfl rfl dd_X7_isCell ⟨(Nat.le_of_ble_eq_true rfl), (Nat.le_of_ble_eq_true rfl)⟩) (hD.zaddr rfl) [0, 1, 2, 3, 4, 5, 6, 7, 8, 9, 10, 11, 12, 13, 14, 15, 16, 17] rfl rfl (fun _ => ⟨a0 99, [.int v1, .int v2], 6, 0, _, _, rfl, rfl, rfl, rfl, rfl⟩) (fun h => absurd rfl h) rfl (Nat.le_of_ble_eq_true rfl) dX7_more_8 11 rfl h (fun r_2 h => ?_)
  refine z_if_eq C 47 dX7_more_11 (by decide) 14 rfl h (fun h => ?_) (fun h => ?_)
  · refine z_iconst C (-1) dX7_more_47 (by decide) 48 rfl ?_
    exact z_iretW (x := S0_1) (ex := ex) (fun z => wX7 T a0 z) C hr dX7_more_48 h rfl
  · refine z_aload_n C dX7_more_14 rfl 0 rfl 15 rfl ?_
    refine z_get C (in_X7_more_X7) 0 rfl rfl 10 (by decide) (List.mem_of_getElem? (i := 2) rfl) rfl rfl dX7_more_15 18 rfl ?_
    refine z_iload_n C dX7_more_18 rfl 1 rfl 19 rfl ?_
    refine z_iload_n C dX7_more_19 rfl 2 rfl 20 rfl ?_
    refine z_callR C ([]) (fun v h => c_X7_cell l D T    v1 v2 v h) ⟨rfl, rfl⟩ (z_cwS C 2 gX7_more_X7_cell rfl dd_X7_cell ⟨(Nat.le_of_ble_eq_true rfl), (Nat.le_of_ble_eq_true rfl)⟩) (hD.zaddr rfl) [] rfl rfl (fun h => absurd h (by decide)) (fun _ => rfl) rfl (Nat.le_of_ble_eq_true rfl) dX7_more_20 23 rfl h (fun r_3 h => ?_)
    refine z_zald C 4 rfl rfl dX7_more_23 24 rfl h (fun h => ?_)
    refine z_if_ne C 47 dX7_more_24 (by decide) 27 rfl h (fun h => ?_) (fun h => ?_)
    · refine z_iconst C (-1) dX7_more_47 (by decide) 48 rfl ?_
      exact z_iretW (x := S0_1) (ex := ex) (fun z => wX7 T a0 z) C hr dX7_more_48 h rfl
    · refine z_iload_n C dX7_more_27 rfl 3 rfl 28 rfl ?_
      refine z_iconst C 1 dX7_more_28 (by decide) 29 rfl ?_
      refine z_bipush C 99 dX7_more_29 (by decide) 31 rfl ?_
      refine z_callR C ([]) (fun v h => c_X7_within l D T    v3 1 99 v h) ⟨rfl, rfl⟩ (z_cwS C 3 gX7_more_X7_within rfl dd_X7_within ⟨(Nat.le_of_ble_eq_true rfl), (Nat.le_of_ble_eq_true rfl)⟩) (hD.zaddr rfl) [] rfl rfl (fun h => absurd h (by decide)) (fun _ => rfl) rfl (Nat.le_of_ble_eq_true rfl) dX7_more_31 34 rfl h (fun r_4 h => ?_)
      refine z_if_eq C 47 dX7_more_34 (by decide) 37 rfl h (fun h => ?_) (fun h => ?_)
      · refine z_iconst C (-1) dX7_more_47 (by decide) 48 rfl ?_
        exact z_iretW (x := S0_1) (ex := ex) (fun z => wX7 T a0 z) C hr dX7_more_48 h rfl
      · refine z_iload C dX7_more_37 4 rfl 39 rfl ?_
        refine z_iconst C 0 dX7_more_39 (by decide) 40 rfl ?_
        refine z_iconst C 2 dX7_more_40 (by decide) 41 rfl ?_
        refine z_callR C ([]) (fun v h => c_X7_within l D T    v4 0 2 v h) ⟨rfl, rfl⟩ (z_cwS C 3 gX7_more_X7_within rfl dd_X7_within ⟨(Nat.le_of_ble_eq_true rfl), (Nat.le_of_ble_eq_true rfl)⟩) (hD.zaddr rfl) [] rfl rfl (fun h => absurd h (by decide)) (fun _ => rfl) rfl (Nat.le_of_ble_eq_true rfl) dX7_more_41 44 rfl h (fun r_5 h => ?_)
        refine z_if_ne C 49 dX7_more_44 (by decide) 47 rfl h (fun h => ?_) (fun h => ?_)
        · refine z_aload_n C dX7_more_49 rfl 0 rfl 50 rfl ?_
          refine z_iconst C 4 dX7_more_50 (by decide) 51 rfl ?_
          refine z_callW C (wX7 T a0 S0_1) (([] : va_W)) (fun z => z.1) (fun z => wX7 T a0 z.2) (fun z => wX7 T a0 z.2) (fun z h => c_X7_lays l D T a0  S0_1 4 z h) ⟨rfl, rfl⟩ (z_cwV C 1 gX7_more_X7_lays rfl rfl dd_X7_lays ⟨(Nat.le_of_ble_eq_true rfl), (Nat.le_of_ble_eq_true rfl)⟩) (hD.zaddr rfl) [0, 1, 2, 3, 4, 5, 6, 7, 8, 9, 10, 11, 12, 13, 14, 15, 16, 17] [] [0, 1, 2, 3, 4, 5, 6, 7, 8, 9, 10, 11, 12, 13, 14, 15, 16, 17] rfl rfl rfl (by decide) (fun _ => rfl) (fun _ => ⟨a0 99, [.int 4], 6, 0, _, _, rfl, rfl, rfl, rfl, rfl⟩) (fun h => absurd rfl h) rfl (Nat.le_of_ble_eq_true rfl) dX7_more_51 54 rfl h (fun r_6 h => ?_)
          refine z_if_ne C 60 dX7_more_54 (by decide) 57 rfl h (fun h => ?_) (fun h => ?_)
          · refine z_aload_n C dX7_more_60 rfl 0 rfl 61 rfl ?_
            refine z_get C (in_X7_more_X7) 0 rfl rfl 32 (by decide) (List.mem_of_getElem? (i := 3) rfl) rfl rfl dX7_more_61 64 rfl ?_
            refine z_iconst C 0 dX7_more_64 (by decide) 65 rfl ?_
            refine z_iconst C 0 dX7_more_65 (by decide) 66 rfl ?_
            refine z_iast C (fun z => wX7 T a0 z) r_6.2 32 (hD.zaddr rfl) 15 rfl rfl (fun _ => rfl) dX7_more_66 67 rfl h (fun S0_7 h => ?_)
            refine z_aload_n C dX7_more_67 rfl 0 rfl 68 rfl ?_
            refine z_get C (in_X7_more_X7) 0 rfl rfl 33 (by decide) (List.mem_of_getElem? (i := 4) rfl) rfl rfl dX7_more_68 71 rfl ?_
            refine z_iconst C 0 dX7_more_71 (by decide) 72 rfl ?_
            refine z_iconst C 0 dX7_more_72 (by decide) 73 rfl ?_
            refine z_iast C (fun z => wX7 T a0 z) S0_7 33 (hD.zaddr rfl) 16 rfl rfl (fun _ => rfl) dX7_more_73 74 rfl h (fun S0_8 h => ?_)
            refine z_aload_n C dX7_more_74 rfl 0 rfl 75 rfl ?_
            refine z_get C (in_X7_more_X7) 0 rfl rfl 34 (by decide) (List.mem_of_getElem? (i := 5) rfl) rfl rfl dX7_more_75 78 rfl ?_
            refine z_iconst C 0 dX7_more_78 (by decide) 79 rfl ?_
            refine z_iconst C 0 dX7_more_79 (by decide) 80 rfl ?_
            refine z_iast C (fun z => wX7 T a0 z) S0_8 34 (hD.zaddr rfl) 17 rfl rfl (fun _ => rfl) dX7_more_80 81 rfl h (fun S0_9 h => ?_)
            refine z_iconst C 1 dX7_more_81 (by decide) 82 rfl ?_
            refine z_istore C [(0, .ref (a0 99)), (1, .int v1), (2, .int v2), (3, .int v3), (4, .int v4), (5, .int 1)] dX7_more_82 (Nat.le_of_ble_eq_true rfl) [1, 2, 3, 4, 5, 0] rfl 84 rfl ?_
            obtain ⟨y_12, hl_y_12, h⟩ := Option.bind_eq_some_iff.mp h
            refine z_locals (ks := [0, 1, 2, 3, 4, 5]) rfl (p_X7_more_L84 C S0_9 v1 v2 v3 v4 (hD.zaddr rfl) _ _ _ _ hl_y_12 ?_)
            refine z_iload_n C dX7_more_123 rfl 1 rfl 124 rfl ?_
            refine z_iload_n C dX7_more_124 rfl 2 rfl 125 rfl ?_
            refine z_callR C ([]) (fun v h => c_X7_cell l D T    v1 v2 v h) ⟨rfl, rfl⟩ (z_cwS C 2 gX7_more_X7_cell rfl dd_X7_cell ⟨(Nat.le_of_ble_eq_true rfl), (Nat.le_of_ble_eq_true rfl)⟩) (hD.zaddr rfl) [] rfl rfl (fun h => absurd h (by decide)) (fun _ => rfl) rfl (Nat.le_of_ble_eq_true rfl) dX7_more_125 128 rfl h (fun r_13 h => ?_)
            refine z_istore C [(0, .ref (a0 99)), (1, .int v1), (2, .int v2), (4, .int v4), (5, .int r_13)] dX7_more_128 (Nat.le_of_ble_eq_true rfl) [1, 2, 3, 4, 0] rfl 130 rfl ?_
            refine z_aload_n C dX7_more_130 rfl 0 rfl 131 rfl ?_
            refine z_get C (in_X7_more_X7) 0 rfl rfl 32 (by decide) (List.mem_of_getElem? (i := 3) rfl) rfl rfl dX7_more_131 134 rfl ?_
            refine z_iload C dX7_more_134 4 rfl 136 rfl ?_
            refine z_iald C 15 rfl rfl dX7_more_136 137 rfl h (fun h => ?_)
            refine z_ldc C 1000000000 (List.mem_of_getElem? (i := 7) rfl) dX7_more_137 139 rfl ?_
            refine z_icmp_ne C 147 dX7_more_139 (by decide) 142 rfl h (fun h => ?_) (fun h => ?_)
            · refine z_iload C dX7_more_147 3 rfl 149 rfl ?_
              refine z_if_ne C 162 dX7_more_149 (by decide) 152 rfl h (fun h => ?_) (fun h => ?_)
              · refine z_iload C dX7_more_162 3 rfl 164 rfl ?_
                refine z_iconst C 1 dX7_more_164 (by decide) 165 rfl ?_
                refine z_icmp_ne C 178 dX7_more_165 (by decide) 168 rfl h (fun h => ?_) (fun h => ?_)
                · refine z_aload_n C dX7_more_178 rfl 0 rfl 179 rfl ?_
                  refine z_get C (in_X7_more_X7) 0 rfl rfl 34 (by decide) (List.mem_of_getElem? (i := 5) rfl) rfl rfl dX7_more_179 182 rfl ?_
                  refine z_iload C dX7_more_182 4 rfl 184 rfl ?_
                  refine z_iald C 17 rfl rfl dX7_more_184 185 rfl h (fun h => ?_)
                  exact z_iretW (x := y_12) (ex := ex) (fun z => wX7 T a0 z) C hr dX7_more_185 h rfl
                · refine z_aload_n C dX7_more_168 rfl 0 rfl 169 rfl ?_
                  refine z_get C (in_X7_more_X7) 0 rfl rfl 33 (by decide) (List.mem_of_getElem? (i := 4) rfl) rfl rfl dX7_more_169 172 rfl ?_
                  refine z_iload C dX7_more_172 4 rfl 174 rfl ?_
                  refine z_iald C 16 rfl rfl dX7_more_174 175 rfl h (fun h => ?_)
                  refine z_goto C 185 dX7_more_175 (by decide) ?_
                  exact z_iretW (x := y_12) (ex := ex) (fun z => wX7 T a0 z) C hr dX7_more_185 h rfl
              · refine z_aload_n C dX7_more_152 rfl 0 rfl 153 rfl ?_
                refine z_get C (in_X7_more_X7) 0 rfl rfl 32 (by decide) (List.mem_of_getElem? (i := 3) rfl) rfl rfl dX7_more_153 156 rfl ?_
                refine z_iload C dX7_more_156 4 rfl 158 rfl ?_
                refine z_iald C 15 rfl rfl dX7_more_158 159 rfl h (fun h => ?_)
                refine z_goto C 185 dX7_more_159 (by decide) ?_
                exact z_iretW (x := y_12) (ex := ex) (fun z => wX7 T a0 z) C hr dX7_more_185 h rfl
            · refine z_bipush C (-2) dX7_more_142 (by decide) 144 rfl ?_
              refine z_goto C 185 dX7_more_144 (by decide) ?_
              exact z_iretW (x := y_12) (ex := ex) (fun z => wX7 T a0 z) C hr dX7_more_185 h rfl
          · refine z_bipush C (-2) dX7_more_57 (by decide) 59 rfl ?_
            exact z_iretW (x := r_6.2) (ex := ex) (fun z => wX7 T a0 z) C hr dX7_more_59 h rfl
        · refine z_iconst C (-1) dX7_more_47 (by decide) 48 rfl ?_
          exact z_iretW (x := S0_1) (ex := ex) (fun z => wX7 T a0 z) C hr dX7_more_48 h rfl

end
