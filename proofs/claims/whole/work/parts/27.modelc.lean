/-! StreamTreeModel.wantsBeside (III)I -/
section
variable {p : Program} {l : Launch} {e : Env} {R : Room} {s : State} {m : MethodId} {args : Array Value} {below : List Frame} {meth : Method} {c : Code} {Q : State → Prop} {A : Nat → Prop} {D : va_G} {T : Nat → ClassId} 
def f_X7_wantsBeside  (v0 : Int32) (v1 : Int32) (v2 : Int32) : Option (Int32) := if v0 < v1 then (some v2) else (if v0 = v1 then (if v2 = 2 then (some v2) else (some 0)) else (some 0))
theorem dd_X7_wantsBeside : RX7 ≠ "java/lang/invoke/MethodHandle" ∧ RX7 ≠ "java/lang/invoke/VarHandle" ∧ (parseMethodDescriptor yX7_wantsBeside.desc).map (fun d => d.parameters.length) = some 3 := by decide +kernel
set_option maxHeartbeats 4000000 in
set_option maxRecDepth 100000 in
theorem c_X7_wantsBeside (l : Launch) (D : va_G) (T : Nat → ClassId)   (v0 : Int32) (v1 : Int32) (v2 : Int32) (ex : Int32) (h : f_X7_wantsBeside v0 v1 v2 = some ex) : zRI l yX7_wantsBeside wsX7_wantsBeside ({ frames := 0, cells := 0, slots := 0, locals := 0 } : Room) D T [.int v0, .int v1, .int v2] ([]) ex := by
  refine z_begin (cc := cX7_wantsBeside) (nL := 3) (own := RX7) (fr := 0) (lc := 0) (ret := some .int) (by decide) rfl (Nat.le_of_ble_eq_true rfl) (fun _ => False) rfl [(0, .int v0), (1, .int v1), (2, .int v2)] rfl ⟨rfl, rfl⟩ rfl ?_
  intro p e s m args below meth c C hr hD
  unfold f_X7_wantsBeside at h
  refine z_iload_n C dX7_wantsBeside_0 rfl 0 rfl 1 rfl ?_
  refine z_iload_n C dX7_wantsBeside_1 rfl 1 rfl 2 rfl ?_
  refine z_icmp_lt C 15 dX7_wantsBeside_2 (by decide) 5 rfl h (fun h => ?_) (fun h => ?_)
  · refine z_iload_n C dX7_wantsBeside_15 rfl 2 rfl 16 rfl ?_
    refine z_goto C 20 dX7_wantsBeside_16 (by decide) ?_
    exact z_iretR C hr dX7_wantsBeside_20 h
  · refine z_iload_n C dX7_wantsBeside_5 rfl 0 rfl 6 rfl ?_
    refine z_iload_n C dX7_wantsBeside_6 rfl 1 rfl 7 rfl ?_
    refine z_icmp_ne C 19 dX7_wantsBeside_7 (by decide) 10 rfl h (fun h => ?_) (fun h => ?_)
    · refine z_iconst C 0 dX7_wantsBeside_19 (by decide) 20 rfl ?_
      exact z_iretR C hr dX7_wantsBeside_20 h
    · refine z_iload_n C dX7_wantsBeside_10 rfl 2 rfl 11 rfl ?_
      refine z_iconst C 2 dX7_wantsBeside_11 (by decide) 12 rfl ?_
      refine z_icmp_ne C 19 dX7_wantsBeside_12 (by decide) 15 rfl h (fun h => ?_) (fun h => ?_)
      · refine z_iconst C 0 dX7_wantsBeside_19 (by decide) 20 rfl ?_
        exact z_iretR C hr dX7_wantsBeside_20 h
      · refine z_iload_n C dX7_wantsBeside_15 rfl 2 rfl 16 rfl ?_
        refine z_goto C 20 dX7_wantsBeside_16 (by decide) ?_
        exact z_iretR C hr dX7_wantsBeside_20 h

end
/-! StreamTreeModel.goesBy (III)I -/
section
variable {p : Program} {l : Launch} {e : Env} {R : Room} {s : State} {m : MethodId} {args : Array Value} {below : List Frame} {meth : Method} {c : Code} {Q : State → Prop} {A : Nat → Prop} {D : va_G} {T : Nat → ClassId} {a0 : Nat → Nat}
def f_X7_goesBy_L15b (S0 : Nat → Nat → Int32) (v1 : Int32) (v2 : Int32) (rec : Int32 → Option (Nat × Int32)) (a : Int32) : Option (Nat × Int32) := if 2 < a then (some (1, 0)) else ((f_X7_isFree S0 v1 v2 a).bind fun r_2 => if r_2 = 0 then (rec (a + 1)) else (some (0, a)))
def f_X7_goesBy_L15 (S0 : Nat → Nat → Int32) (v1 : Int32) (v2 : Int32) : Nat → Int32 → Option (Nat × Int32) := zloop (fun rec a => f_X7_goesBy_L15b S0 v1 v2 rec a)
set_option maxHeartbeats 4000000 in
set_option maxRecDepth 100000 in
theorem p_X7_goesBy_L15 (C : zC p R s m args meth c cX7_goesBy 5 RX7 wsX7_goesBy D T 4 90 0 0) (S0 : Nat → Nat → Int32) (v1 : Int32) (v2 : Int32) (hD : va_D (fun _ => True) (wX7 T a0 S0)) : ∀ (n : Nat) (c0 : Int32) (b : Nat × Int32), f_X7_goesBy_L15 S0 v1 v2 n c0 = some b → ((b.1 = 0 → zt p l e R s m args below meth c 5 A D 0 0 Q (wX7 T a0 S0) [(4, .int b.2)] 32 []) ∧ (b.1 = 1 → zt p l e R s m args below meth c 5 A D 0 0 Q (wX7 T a0 S0) [] 41 [])) → zt p l e R s m args below meth c 5 A D 0 0 Q (wX7 T a0 S0) [(0, .ref (a0 99)), (1, .int v1), (2, .int v2), (4, .int c0)] 15 [] := by
  intro n c0 b h K
  refine zloop_ind (P := fun a b => ((b.1 = 0 → zt p l e R s m args below meth c 5 A D 0 0 Q (wX7 T a0 S0) [(4, .int b.2)] 32 []) ∧ (b.1 = 1 → zt p l e R s m args below meth c 5 A D 0 0 Q (wX7 T a0 S0) [] 41 [])) → zt p l e R s m args below meth c 5 A D 0 0 Q (wX7 T a0 S0) [(0, .ref (a0 99)), (1, .int v1), (2, .int v2), (4, .int a)] 15 []) ?_ n c0 b h K
  clear h K b c0
  intro rec hrec a b h K
  have hrec : ∀ (c0 : Int32) (b : Nat × Int32), rec c0 = some b → ((b.1 = 0 → zt p l e R s m args below meth c 5 A D 0 0 Q (wX7 T a0 S0) [(4, .int b.2)] 32 []) ∧ (b.1 = 1 → zt p l e R s m args below meth c 5 A D 0 0 Q (wX7 T a0 S0) [] 41 [])) → zt p l e R s m args below meth c 5 A D 0 0 Q (wX7 T a0 S0) [(0, .ref (a0 99)), (1, .int v1), (2, .int v2), (4, .int c0)] 15 [] := fun c0 b h K => hrec c0 b h K
  unfold f_X7_goesBy_L15b at h
  refine z_iload C dX7_goesBy_15 3 rfl 17 rfl ?_
  refine z_iconst C 2 dX7_goesBy_17 (by decide) 18 rfl ?_
  refine z_icmp_gt C 41 dX7_goesBy_18 (by decide) 21 rfl h (fun h => ?_) (fun h => ?_)
  · refine z_locals (ks := []) (lv' := []) rfl ?_
    exact zexT1 (F := (fun e0 => zt p l e R s m args below meth c 5 A D 0 0 Q (wX7 T a0 S0) [] 41 [])) h K.2
  · refine z_aload_n C dX7_goesBy_21 rfl 0 rfl 22 rfl ?_
    refine z_iload_n C dX7_goesBy_22 rfl 1 rfl 23 rfl ?_
    refine z_iload_n C dX7_goesBy_23 rfl 2 rfl 24 rfl ?_
    refine z_iload C dX7_goesBy_24 3 rfl 26 rfl ?_
    refine z_callR C (wX7 T a0 S0) (fun v h => c_X7_isFree l D T a0  S0 v1 v2 a v h) ⟨rfl, rfl⟩ (z_cwV C 3 gX7_goesBy_X7_isFree rfl rfl dd_X7_isFree ⟨(Nat.le_of_ble_eq_true rfl), (Nat.le_of_ble_eq_true rfl)⟩) (hD.zaddr rfl) [0, 1, 2, 3, 4, 5, 6, 7, 8, 9, 10, 11, 12, 13, 14, 15, 16, 17] rfl rfl (fun _ => ⟨a0 99, [.int v1, .int v2, .int a], 6, 0, _, _, rfl, rfl, rfl, rfl, rfl⟩) (fun h => absurd rfl h) rfl (Nat.le_of_ble_eq_true rfl) dX7_goesBy_26 29 rfl h (fun r_2 h => ?_)
    refine z_if_eq C 35 dX7_goesBy_29 (by decide) 32 rfl h (fun h => ?_) (fun h => ?_)
    · refine z_iinc C (a + 1) [(0, .ref (a0 99)), (1, .int v1), (2, .int v2), (4, .int (a + 1))] dX7_goesBy_35 3 rfl rfl (Nat.le_of_ble_eq_true rfl) [1, 2, 3, 0] rfl 38 rfl ?_
      refine z_goto C 15 dX7_goesBy_38 (by decide) ?_
      exact z_locals (ks := [0, 1, 2, 3]) rfl (hrec _ _ h K)
    · refine z_locals (ks := [3]) (lv' := [(4, .int a)]) rfl ?_
      exact zexT1 (F := (fun e0 => zt p l e R s m args below meth c 5 A D 0 0 Q (wX7 T a0 S0) [(4, .int e0)] 32 [])) h K.1

def f_X7_goesBy (S0 : Nat → Nat → Int32) (v1 : Int32) (v2 : Int32) (v3 : Int32) : Option (Int32) := (f_X7_isFree S0 v1 v2 v3).bind fun r_1 => if r_1 = 0 then ((f_X7_goesBy_L15 S0 v1 v2 zfuel 0).bind fun y_3 => if y_3.1 = 0 then (some y_3.2) else (some (-1))) else (some v3)
theorem dd_X7_goesBy : RX7 ≠ "java/lang/invoke/MethodHandle" ∧ RX7 ≠ "java/lang/invoke/VarHandle" ∧ (parseMethodDescriptor yX7_goesBy.desc).map (fun d => d.parameters.length) = some 3 := by decide +kernel
set_option maxHeartbeats 4000000 in
set_option maxRecDepth 100000 in
theorem c_X7_goesBy (l : Launch) (D : va_G) (T : Nat → ClassId) (a0 : Nat → Nat) (S0 : Nat → Nat → Int32) (v1 : Int32) (v2 : Int32) (v3 : Int32) (ex : Int32) (h : f_X7_goesBy S0 v1 v2 v3 = some ex) : zRI l yX7_goesBy wsX7_goesBy ({ frames := 4, cells := 0, slots := 0, locals := 90 } : Room) D T [.ref (a0 99), .int v1, .int v2, .int v3] (wX7 T a0 S0) ex := by
  refine z_begin (cc := cX7_goesBy) (nL := 5) (own := RX7) (fr := 4) (lc := 90) (ret := some .int) (by decide) rfl (Nat.le_of_ble_eq_true rfl) (fun _ => False) rfl [(0, .ref (a0 99)), (1, .int v1), (2, .int v2), (3, .int v3)] rfl ⟨rfl, rfl⟩ rfl ?_
  intro p e s m args below meth c C hr hD
  unfold f_X7_goesBy at h
  refine z_aload_n C dX7_goesBy_0 rfl 0 rfl 1 rfl ?_
  refine z_iload_n C dX7_goesBy_1 rfl 1 rfl 2 rfl ?_
  refine z_iload_n C dX7_goesBy_2 rfl 2 rfl 3 rfl ?_
  refine z_iload_n C dX7_goesBy_3 rfl 3 rfl 4 rfl ?_
  refine z_callR C (wX7 T a0 S0) (fun v h => c_X7_isFree l D T a0  S0 v1 v2 v3 v h) ⟨rfl, rfl⟩ (z_cwV C 3 gX7_goesBy_X7_isFree rfl rfl dd_X7_isFree ⟨(Nat.le_of_ble_eq_true rfl), (Nat.le_of_ble_eq_true rfl)⟩) (hD.zaddr rfl) [0, 1, 2, 3, 4, 5, 6, 7, 8, 9, 10, 11, 12, 13, 14, 15, 16, 17] rfl rfl (fun _ => ⟨a0 99, [.int v1, .int v2, .int v3], 6, 0, _, _, rfl, rfl, rfl, rfl, rfl⟩) (fun h => absurd rfl h) rfl (Nat.le_of_ble_eq_true rfl) dX7_goesBy_4 7 rfl h (fun r_1 h => ?_)
  refine z_if_eq C 12 dX7_goesBy_7 (by decide) 10 rfl h (fun h => ?_) (fun h => ?_)
  · refine z_iconst C 0 dX7_goesBy_12 (by decide) 13 rfl ?_
    refine z_istore C [(0, .ref (a0 99)), (1, .int v1), (2, .int v2), (3, .int v3), (4, .int 0)] dX7_goesBy_13 (Nat.le_of_ble_eq_true rfl) [1, 2, 3, 4, 0] rfl 15 rfl ?_
    obtain ⟨y_3, hl_y_3, h⟩ := Option.bind_eq_some_iff.mp h
    refine z_locals (ks := [0, 1, 2, 4]) rfl (p_X7_goesBy_L15 C S0 v1 v2 (hD.zaddr rfl) _ _ _ hl_y_3 ⟨fun ht => ?_, fun ht => ?_⟩)
    · replace h := z_pos ht h
      refine z_iload C dX7_goesBy_32 0 rfl 34 rfl ?_
      exact z_iretR C hr dX7_goesBy_34 h
    · replace h := z_neg (by rw [ht]; decide) h
      refine z_iconst C (-1) dX7_goesBy_41 (by decide) 42 rfl ?_
      exact z_iretR C hr dX7_goesBy_42 h
  · refine z_iload_n C dX7_goesBy_10 rfl 3 rfl 11 rfl ?_
    exact z_iretR C hr dX7_goesBy_11 h

end
/-! StreamTreeModel.manyTo (II)I -/
section
variable {p : Program} {l : Launch} {e : Env} {R : Room} {s : State} {m : MethodId} {args : Array Value} {below : List Frame} {meth : Method} {c : Code} {Q : State → Prop} {A : Nat → Prop} {D : va_G} {T : Nat → ClassId} {a0 : Nat → Nat}
theorem in_X7_manyTo_X7 : ∀ w ∈ u_ws RX7 TX7 35, w ∈ wsX7_manyTo := fun _ h => (List.mem_cons_of_mem _ (List.mem_append_right _ h))
def f_X7_manyTo_J89 (rec : (Int32 × Int32) → Option (Int32)) (S0 : Nat → Nat → Int32) (v1 : Int32) (v2 : Int32) (x4 : Int32) (k0 : Int32) (k1 : Int32) : Option (Int32) := zlet (k0 + k1) fun u_2 => rec (u_2, (x4 + 1))
set_option maxHeartbeats 4000000 in
set_option maxRecDepth 100000 in
theorem p_X7_manyTo_J89 (C : zC p R s m args meth c cX7_manyTo 6 RX7 wsX7_manyTo D T 3 67 0 0) (S0 : Nat → Nat → Int32) {v1 : Int32} {v2 : Int32} (x4 : Int32) (k0 : Int32) (k1 : Int32) (hD : va_D (fun _ => True) (wX7 T a0 S0)) {rec : (Int32 × Int32) → Option (Int32)} (hrec : ∀ (c0 : Int32) (c1 : Int32) (b : Int32), rec (c0, c1) = some b → (zt p l e R s m args below meth c 6 A D 0 0 Q (wX7 T a0 S0) [(3, .int b)] 97 []) → zt p l e R s m args below meth c 6 A D 0 0 Q (wX7 T a0 S0) [(0, .ref (a0 99)), (1, .int v1), (2, .int v2), (3, .int c0), (4, .int c1)] 22 []) {b : Int32} (K : zt p l e R s m args below meth c 6 A D 0 0 Q (wX7 T a0 S0) [(3, .int b)] 97 []) (h : f_X7_manyTo_J89 rec S0 v1 v2 x4 k0 k1 = some b) : zt p l e R s m args below meth c 6 A D 0 0 Q (wX7 T a0 S0) [(0, .ref (a0 99)), (1, .int v1), (2, .int v2), (4, .int x4)] 89 [.int k1, .int k0] := by
  unfold f_X7_manyTo_J89 at h
  refine z_iadd C dX7_manyTo_89 90 rfl ?_
  refine z_top h (fun u_2 h => ?_)
  refine z_istore_n C [(0, .ref (a0 99)), (1, .int v1), (2, .int v2), (3, .int u_2), (4, .int x4)] dX7_manyTo_90 rfl (Nat.le_of_ble_eq_true rfl) [1, 2, 3, 0, 4] rfl 91 rfl ?_
  refine z_iinc C (x4 + 1) [(0, .ref (a0 99)), (1, .int v1), (2, .int v2), (3, .int u_2), (4, .int (x4 + 1))] dX7_manyTo_91 4 rfl rfl (Nat.le_of_ble_eq_true rfl) [1, 2, 3, 4, 0] rfl 94 rfl ?_
  refine z_goto C 22 dX7_manyTo_94 (by decide) ?_
  exact z_locals (ks := [0, 1, 2, 3, 4]) rfl (hrec _ _ _ h K)

def f_X7_manyTo_J88 (rec : (Int32 × Int32) → Option (Int32)) (S0 : Nat → Nat → Int32) (v1 : Int32) (v2 : Int32) (x4 : Int32) (k0 : Int32) : Option (Int32) := f_X7_manyTo_J89 rec S0 v1 v2 x4 k0 0
set_option maxHeartbeats 4000000 in
set_option maxRecDepth 100000 in
theorem p_X7_manyTo_J88 (C : zC p R s m args meth c cX7_manyTo 6 RX7 wsX7_manyTo D T 3 67 0 0) (S0 : Nat → Nat → Int32) {v1 : Int32} {v2 : Int32} (x4 : Int32) (k0 : Int32) (hD : va_D (fun _ => True) (wX7 T a0 S0)) {rec : (Int32 × Int32) → Option (Int32)} (hrec : ∀ (c0 : Int32) (c1 : Int32) (b : Int32), rec (c0, c1) = some b → (zt p l e R s m args below meth c 6 A D 0 0 Q (wX7 T a0 S0) [(3, .int b)] 97 []) → zt p l e R s m args below meth c 6 A D 0 0 Q (wX7 T a0 S0) [(0, .ref (a0 99)), (1, .int v1), (2, .int v2), (3, .int c0), (4, .int c1)] 22 []) {b : Int32} (K : zt p l e R s m args below meth c 6 A D 0 0 Q (wX7 T a0 S0) [(3, .int b)] 97 []) (h : f_X7_manyTo_J88 rec S0 v1 v2 x4 k0 = some b) : zt p l e R s m args below meth c 6 A D 0 0 Q (wX7 T a0 S0) [(0, .ref (a0 99)), (1, .int v1), (2, .int v2), (4, .int x4)] 88 [.int k0] := by
  unfold f_X7_manyTo_J88 at h
  refine z_iconst C 0 dX7_manyTo_88 (by decide) 89 rfl ?_
  exact z_locals (ks := [0, 1, 2, 3]) rfl (p_X7_manyTo_J89 C S0 x4 k0 0 (hD.zaddr rfl) hrec K h)

def f_X7_manyTo_L22b (S0 : Nat → Nat → Int32) (v1 : Int32) (v2 : Int32) (rec : (Int32 × Int32) → Option (Int32)) (a : Int32 × Int32) : Option (Int32) := if (S0 2 0) ≤ a.2 then (some a.1) else (if (S0 1 0) ≤ v1 then (some a.1) else ((f_X7_cell (v1 + 1) a.2).bind fun r_1 => zix r_1 240 fun _ => if (S0 26 (Int32.toNatClampNeg r_1)) < 0 then (f_X7_manyTo_J88 rec S0 v1 v2 a.2 a.1) else (zix r_1 240 fun _ => (f_X7_target S0 (v1 + 1) a.2 (S0 26 (Int32.toNatClampNeg r_1))).bind fun r_3 => (f_X7_cell v1 v2).bind fun r_4 => if r_3 = r_4 then (f_X7_manyTo_J89 rec S0 v1 v2 a.2 a.1 1) else (f_X7_manyTo_J88 rec S0 v1 v2 a.2 a.1))))
def f_X7_manyTo_L22 (S0 : Nat → Nat → Int32) (v1 : Int32) (v2 : Int32) : Nat → (Int32 × Int32) → Option (Int32) := zloop (fun rec a => f_X7_manyTo_L22b S0 v1 v2 rec a)
set_option maxHeartbeats 4000000 in
set_option maxRecDepth 100000 in
theorem p_X7_manyTo_L22 (C : zC p R s m args meth c cX7_manyTo 6 RX7 wsX7_manyTo D T 3 67 0 0) (S0 : Nat → Nat → Int32) (v1 : Int32) (v2 : Int32) (hD : va_D (fun _ => True) (wX7 T a0 S0)) : ∀ (n : Nat) (c0 : Int32) (c1 : Int32) (b : Int32), f_X7_manyTo_L22 S0 v1 v2 n (c0, c1) = some b → (zt p l e R s m args below meth c 6 A D 0 0 Q (wX7 T a0 S0) [(3, .int b)] 97 []) → zt p l e R s m args below meth c 6 A D 0 0 Q (wX7 T a0 S0) [(0, .ref (a0 99)), (1, .int v1), (2, .int v2), (3, .int c0), (4, .int c1)] 22 [] := by
  intro n c0 c1 b h K
  refine zloop_ind (P := fun a b => (zt p l e R s m args below meth c 6 A D 0 0 Q (wX7 T a0 S0) [(3, .int b)] 97 []) → zt p l e R s m args below meth c 6 A D 0 0 Q (wX7 T a0 S0) [(0, .ref (a0 99)), (1, .int v1), (2, .int v2), (3, .int a.1), (4, .int a.2)] 22 []) ?_ n (c0, c1) b h K
  clear h K b c0 c1
  intro rec hrec a b h K
  have hrec : ∀ (c0 : Int32) (c1 : Int32) (b : Int32), rec (c0, c1) = some b → (zt p l e R s m args below meth c 6 A D 0 0 Q (wX7 T a0 S0) [(3, .int b)] 97 []) → zt p l e R s m args below meth c 6 A D 0 0 Q (wX7 T a0 S0) [(0, .ref (a0 99)), (1, .int v1), (2, .int v2), (3, .int c0), (4, .int c1)] 22 [] := fun c0 c1 b h K => hrec (c0, c1) b h K
  unfold f_X7_manyTo_L22b at h
  refine z_iload C dX7_manyTo_22 4 rfl 24 rfl ?_
  refine z_aload_n C dX7_manyTo_24 rfl 0 rfl 25 rfl ?_
  refine z_get C (in_X7_manyTo_X7) 0 rfl rfl 2 (by decide) (List.mem_of_getElem? (i := 1) rfl) rfl rfl dX7_manyTo_25 28 rfl ?_
  refine z_icmp_ge C 97 dX7_manyTo_28 (by decide) 31 rfl h (fun h => ?_) (fun h => ?_)
  · refine z_locals (ks := [3]) (lv' := [(3, .int a.1)]) rfl ?_
    exact zex1 (F := (fun e0 => zt p l e R s m args below meth c 6 A D 0 0 Q (wX7 T a0 S0) [(3, .int e0)] 97 [])) h K
  · refine z_iload_n C dX7_manyTo_31 rfl 1 rfl 32 rfl ?_
    refine z_aload_n C dX7_manyTo_32 rfl 0 rfl 33 rfl ?_
    refine z_get C (in_X7_manyTo_X7) 0 rfl rfl 1 (by decide) (List.mem_of_getElem? (i := 2) rfl) rfl rfl dX7_manyTo_33 36 rfl ?_
    refine z_icmp_ge C 97 dX7_manyTo_36 (by decide) 39 rfl h (fun h => ?_) (fun h => ?_)
    · refine z_locals (ks := [3]) (lv' := [(3, .int a.1)]) rfl ?_
      exact zex1 (F := (fun e0 => zt p l e R s m args below meth c 6 A D 0 0 Q (wX7 T a0 S0) [(3, .int e0)] 97 [])) h K
    · refine z_iload_n C dX7_manyTo_39 rfl 1 rfl 40 rfl ?_
      refine z_iconst C 1 dX7_manyTo_40 (by decide) 41 rfl ?_
      refine z_iadd C dX7_manyTo_41 42 rfl ?_
      refine z_iload C dX7_manyTo_42 4 rfl 44 rfl ?_
      refine z_callR C ([]) (fun v h => c_X7_cell l D T    (v1 + 1) a.2 v h) ⟨rfl, rfl⟩ (z_cwS C 2 gX7_manyTo_X7_cell rfl dd_X7_cell ⟨(Nat.le_of_ble_eq_true rfl), (Nat.le_of_ble_eq_true rfl)⟩) (hD.zaddr rfl) [] rfl rfl (fun h => absurd h (by decide)) (fun _ => rfl) rfl (Nat.le_of_ble_eq_true rfl) dX7_manyTo_44 47 rfl h (fun r_1 h => ?_)
      refine z_istore C [(0, .ref (a0 99)), (1, .int v1), (2, .int v2), (3, .int a.1), (4, .int a.2), (5, .int r_1)] dX7_manyTo_47 (Nat.le_of_ble_eq_true rfl) [1, 2, 3, 4, 5, 0] rfl 49 rfl ?_
      refine z_iload_n C dX7_manyTo_49 rfl 3 rfl 50 rfl ?_
      refine z_aload_n C dX7_manyTo_50 rfl 0 rfl 51 rfl ?_
      refine z_get C (in_X7_manyTo_X7) 0 rfl rfl 26 (by decide) (List.mem_of_getElem? (i := 3) rfl) rfl rfl dX7_manyTo_51 54 rfl ?_
      refine z_iload C dX7_manyTo_54 5 rfl 56 rfl ?_
      refine z_iald C 9 rfl rfl dX7_manyTo_56 57 rfl h (fun h => ?_)
      refine z_if_lt C 88 dX7_manyTo_57 (by decide) 60 rfl h (fun h => ?_) (fun h => ?_)
      · exact z_locals (ks := [0, 1, 2, 4]) rfl (p_X7_manyTo_J88 C S0 a.2 a.1 (hD.zaddr rfl) hrec K h)
      · refine z_aload_n C dX7_manyTo_60 rfl 0 rfl 61 rfl ?_
        refine z_iload_n C dX7_manyTo_61 rfl 1 rfl 62 rfl ?_
        refine z_iconst C 1 dX7_manyTo_62 (by decide) 63 rfl ?_
        refine z_iadd C dX7_manyTo_63 64 rfl ?_
        refine z_iload C dX7_manyTo_64 4 rfl 66 rfl ?_
        refine z_aload_n C dX7_manyTo_66 rfl 0 rfl 67 rfl ?_
        refine z_get C (in_X7_manyTo_X7) 0 rfl rfl 26 (by decide) (List.mem_of_getElem? (i := 3) rfl) rfl rfl dX7_manyTo_67 70 rfl ?_
        refine z_iload C dX7_manyTo_70 5 rfl 72 rfl ?_
        refine z_iald C 9 rfl rfl dX7_manyTo_72 73 rfl h (fun h => ?_)
        refine z_callR C (wX7 T a0 S0) (fun v h => c_X7_target l D T a0  S0 (v1 + 1) a.2 (S0 26 (Int32.toNatClampNeg r_1)) v h) ⟨rfl, rfl⟩ (z_cwV C 3 gX7_manyTo_X7_target rfl rfl dd_X7_target ⟨(Nat.le_of_ble_eq_true rfl), (Nat.le_of_ble_eq_true rfl)⟩) (hD.zaddr rfl) [0, 1, 2, 3, 4, 5, 6, 7, 8, 9, 10, 11, 12, 13, 14, 15, 16, 17] rfl rfl (fun _ => ⟨a0 99, [.int (v1 + 1), .int a.2, .int (S0 26 (Int32.toNatClampNeg r_1))], 6, 0, _, _, rfl, rfl, rfl, rfl, rfl⟩) (fun h => absurd rfl h) rfl (Nat.le_of_ble_eq_true rfl) dX7_manyTo_73 76 rfl h (fun r_3 h => ?_)
        refine z_iload_n C dX7_manyTo_76 rfl 1 rfl 77 rfl ?_
        refine z_iload_n C dX7_manyTo_77 rfl 2 rfl 78 rfl ?_
        refine z_callR C ([]) (fun v h => c_X7_cell l D T    v1 v2 v h) ⟨rfl, rfl⟩ (z_cwS C 2 gX7_manyTo_X7_cell rfl dd_X7_cell ⟨(Nat.le_of_ble_eq_true rfl), (Nat.le_of_ble_eq_true rfl)⟩) (hD.zaddr rfl) [] rfl rfl (fun h => absurd h (by decide)) (fun _ => rfl) rfl (Nat.le_of_ble_eq_true rfl) dX7_manyTo_78 81 rfl h (fun r_4 h => ?_)
        refine z_icmp_ne C 88 dX7_manyTo_81 (by decide) 84 rfl h (fun h => ?_) (fun h => ?_)
        · exact z_locals (ks := [0, 1, 2, 4]) rfl (p_X7_manyTo_J88 C S0 a.2 a.1 (hD.zaddr rfl) hrec K h)
        · refine z_iconst C 1 dX7_manyTo_84 (by decide) 85 rfl ?_
          refine z_goto C 89 dX7_manyTo_85 (by decide) ?_
          exact z_locals (ks := [0, 1, 2, 4]) rfl (p_X7_manyTo_J89 C S0 a.2 a.1 1 (hD.zaddr rfl) hrec K h)

def f_X7_manyTo_J18 (S0 : Nat → Nat → Int32) (x1 : Int32) (x2 : Int32) (k0 : Int32) : Option (Int32) := (f_X7_manyTo_L22 S0 x1 x2 zfuel (k0, 0)).bind fun y_5 => some y_5
set_option maxHeartbeats 4000000 in
set_option maxRecDepth 100000 in
theorem p_X7_manyTo_J18 (C : zC p R s m args meth c cX7_manyTo 6 RX7 wsX7_manyTo D T 3 67 0 0) (hr : meth.sig.returnType = some .int) (S0 : Nat → Nat → Int32) (x1 : Int32) (x2 : Int32) (k0 : Int32) (hD : va_D (fun _ => True) (wX7 T a0 S0)) {ex : Int32} (h : f_X7_manyTo_J18 S0 x1 x2 k0 = some ex) : zt p l e R s m args below meth c 6 (fun _ => False) D 0 0 (MQ below (zQI ex) args s 0 0 (fun _ => False)) (wX7 T a0 S0) [(0, .ref (a0 99)), (1, .int x1), (2, .int x2)] 18 [.int k0] := by
  unfold f_X7_manyTo_J18 at h
  refine z_istore_n C [(0, .ref (a0 99)), (1, .int x1), (2, .int x2), (3, .int k0)] dX7_manyTo_18 rfl (Nat.le_of_ble_eq_true rfl) [1, 2, 3, 0] rfl 19 rfl ?_
  refine z_iconst C 0 dX7_manyTo_19 (by decide) 20 rfl ?_
  refine z_istore C [(0, .ref (a0 99)), (1, .int x1), (2, .int x2), (3, .int k0), (4, .int 0)] dX7_manyTo_20 (Nat.le_of_ble_eq_true rfl) [1, 2, 3, 4, 0] rfl 22 rfl ?_
  obtain ⟨y_5, hl_y_5, h⟩ := Option.bind_eq_some_iff.mp h
  refine z_locals (ks := [0, 1, 2, 3, 4]) rfl (p_X7_manyTo_L22 C S0 x1 x2 (hD.zaddr rfl) _ _ _ _ hl_y_5 ?_)
  refine z_iload_n C dX7_manyTo_97 rfl 0 rfl 98 rfl ?_
  exact z_iretR C hr dX7_manyTo_98 h

def f_X7_manyTo_J17 (S0 : Nat → Nat → Int32) (x1 : Int32) (x2 : Int32)  : Option (Int32) := f_X7_manyTo_J18 S0 x1 x2 0
set_option maxHeartbeats 4000000 in
set_option maxRecDepth 100000 in
theorem p_X7_manyTo_J17 (C : zC p R s m args meth c cX7_manyTo 6 RX7 wsX7_manyTo D T 3 67 0 0) (hr : meth.sig.returnType = some .int) (S0 : Nat → Nat → Int32) (x1 : Int32) (x2 : Int32)  (hD : va_D (fun _ => True) (wX7 T a0 S0)) {ex : Int32} (h : f_X7_manyTo_J17 S0 x1 x2 = some ex) : zt p l e R s m args below meth c 6 (fun _ => False) D 0 0 (MQ below (zQI ex) args s 0 0 (fun _ => False)) (wX7 T a0 S0) [(0, .ref (a0 99)), (1, .int x1), (2, .int x2)] 17 [] := by
  unfold f_X7_manyTo_J17 at h
  refine z_iconst C 0 dX7_manyTo_17 (by decide) 18 rfl ?_
  exact z_locals (ks := [0, 1, 2]) rfl (p_X7_manyTo_J18 C hr S0 x1 x2 0 (hD.zaddr rfl) h)

def f_X7_manyTo (S0 : Nat → Nat → Int32) (v1 : Int32) (v2 : Int32) : Option (Int32) := if v1 ≤ 0 then (f_X7_manyTo_J17 S0 v1 v2) else ((f_X7_placeAt S0 v1 v2).bind fun r_6 => if r_6 < 0 then (f_X7_manyTo_J17 S0 v1 v2) else (f_X7_manyTo_J18 S0 v1 v2 1))
theorem dd_X7_manyTo : RX7 ≠ "java/lang/invoke/MethodHandle" ∧ RX7 ≠ "java/lang/invoke/VarHandle" ∧ (parseMethodDescriptor yX7_manyTo.desc).map (fun d => d.parameters.length) = some 2 := by decide +kernel
set_option maxHeartbeats 4000000 in
set_option maxRecDepth 100000 in
theorem c_X7_manyTo (l : Launch) (D : va_G) (T : Nat → ClassId) (a0 : Nat → Nat) (S0 : Nat → Nat → Int32) (v1 : Int32) (v2 : Int32) (ex : Int32) (h : f_X7_manyTo S0 v1 v2 = some ex) : zRI l yX7_manyTo wsX7_manyTo ({ frames := 3, cells := 0, slots := 0, locals := 67 } : Room) D T [.ref (a0 99), .int v1, .int v2] (wX7 T a0 S0) ex := by
  refine z_begin (cc := cX7_manyTo) (nL := 6) (own := RX7) (fr := 3) (lc := 67) (ret := some .int) (by decide) rfl (Nat.le_of_ble_eq_true rfl) (fun _ => False) rfl [(0, .ref (a0 99)), (1, .int v1), (2, .int v2)] rfl ⟨rfl, rfl⟩ rfl ?_
  intro p e s m args below meth c C hr hD
  unfold f_X7_manyTo at h
  refine z_iload_n C dX7_manyTo_0 rfl 1 rfl 1 rfl ?_
  refine z_if_le C 17 dX7_manyTo_1 (by decide) 4 rfl h (fun h => ?_) (fun h => ?_)
  · exact z_locals (ks := [0, 1, 2]) rfl (p_X7_manyTo_J17 C hr S0 v1 v2 (hD.zaddr rfl) h)
  · refine z_aload_n C dX7_manyTo_4 rfl 0 rfl 5 rfl ?_
    refine z_iload_n C dX7_manyTo_5 rfl 1 rfl 6 rfl ?_
    refine z_iload_n C dX7_manyTo_6 rfl 2 rfl 7 rfl ?_
    refine z_callR C (wX7 T a0 S0) (fun v h => c_X7_placeAt l D T a0  S0 v1 v2 v h) ⟨rfl, rfl⟩ (z_cwV C 2 gX7_manyTo_X7_placeAt rfl rfl dd_X7_placeAt ⟨(Nat.le_of_ble_eq_true rfl), (Nat.le_of_ble_eq_true rfl)⟩) (hD.zaddr rfl) [0, 1, 2, 3, 4, 5, 6, 7, 8, 9, 10, 11, 12, 13, 14, 15, 16, 17] rfl rfl (fun _ => ⟨a0 99, [.int v1, .int v2], 6, 0, _, _, rfl, rfl, rfl, rfl, rfl⟩) (fun h => absurd rfl h) rfl (Nat.le_of_ble_eq_true rfl) dX7_manyTo_7 10 rfl h (fun r_6 h => ?_)
    refine z_if_lt C 17 dX7_manyTo_10 (by decide) 13 rfl h (fun h => ?_) (fun h => ?_)
    · exact z_locals (ks := [0, 1, 2]) rfl (p_X7_manyTo_J17 C hr S0 v1 v2 (hD.zaddr rfl) h)
    · refine z_iconst C 1 dX7_manyTo_13 (by decide) 14 rfl ?_
      refine z_goto C 18 dX7_manyTo_14 (by decide) ?_
      exact z_locals (ks := [0, 1, 2]) rfl (p_X7_manyTo_J18 C hr S0 v1 v2 1 (hD.zaddr rfl) h)

end
/-! StreamTreeModel.straightens (II)Z -/
section
variable {p : Program} {l : Launch} {e : Env} {R : Room} {s : State} {m : MethodId} {args : Array Value} {below : List Frame} {meth : Method} {c : Code} {Q : State → Prop} {A : Nat → Prop} {D : va_G} {T : Nat → ClassId} {a0 : Nat → Nat}
theorem in_X7_straightens_X7 : ∀ w ∈ u_ws RX7 TX7 35, w ∈ wsX7_straightens := fun _ h => (List.mem_cons_of_mem _ (List.mem_append_right _ h))
def f_X7_straightens_J71 (S0 : Nat → Nat → Int32) (x1 : Int32) (x2 : Int32) (x3 : Int32) (x4 : Int32) (x5 : Int32) (k0 : Int32) : Option (Int32 × (Nat → Nat → Int32)) := if k0 = 0 then (some (0, S0)) else ((f_X7_cell (x1 - 1) x4).bind fun r_6 => zix r_6 240 fun _ => if (S0 26 (Int32.toNatClampNeg r_6)) = (3 - x3) then (zix x5 240 fun _ => if (S0 10 (Int32.toNatClampNeg x5)) = 0 then (zix x5 240 fun _ => if (S0 27 (Int32.toNatClampNeg x5)) ≤ 0 then ((f_X7_cell x1 x2).bind fun r_7 => zix r_7 240 fun j => zlet (zst S0 26 j 0) fun S0_8 => zix x5 240 fun j => zlet (zst S0_8 26 j 0) fun S0_9 => (f_X7_cell x1 x2).bind fun r_10 => zix r_10 240 fun _ => zix x5 240 fun j => zlet (zst S0_9 27 j (S0_9 27 (Int32.toNatClampNeg r_10))) fun S0_11 => (f_X7_cell (x1 - 1) x4).bind fun r_12 => zix r_12 240 fun j => zlet (zst S0_11 26 j (-1)) fun S0_13 => (f_X7_cell (x1 - 1) x4).bind fun r_14 => zix r_14 240 fun j => zlet (zst S0_13 27 j 0) fun S0_15 => some (1, S0_15)) else (some (0, S0))) else (some (0, S0))) else (some (0, S0)))
set_option maxHeartbeats 4000000 in
set_option maxRecDepth 100000 in
theorem p_X7_straightens_J71 {w0 : va_W} (C : zC p R s m args meth c cX7_straightens 7 RX7 wsX7_straightens D T 4 92 0 0) (hr : meth.sig.returnType = some .boolean) (S0 : Nat → Nat → Int32) (x1 : Int32) (x2 : Int32) (x3 : Int32) (x4 : Int32) (x5 : Int32) (k0 : Int32) (hD : va_D (zA w0) (wX7 T a0 S0)) {ex : Int32 × (Nat → Nat → Int32)} (h : f_X7_straightens_J71 S0 x1 x2 x3 x4 x5 k0 = some ex) : zt p l e R s m args below meth c 7 (zA w0) D 0 0 (MQ below (zQJ D w0 ex.1 (wX7 T a0 ex.2)) args s 0 0 (zA w0)) (wX7 T a0 S0) [(0, .ref (a0 99)), (1, .int x1), (2, .int x2), (3, .int x3), (4, .int x4), (5, .int x5)] 71 [.int k0] := by
  unfold f_X7_straightens_J71 at h
  refine z_istore C [(0, .ref (a0 99)), (1, .int x1), (2, .int x2), (3, .int x3), (4, .int x4), (5, .int x5), (6, .int k0)] dX7_straightens_71 (Nat.le_of_ble_eq_true rfl) [1, 2, 3, 4, 5, 6, 0] rfl 73 rfl ?_
  refine z_iload C dX7_straightens_73 6 rfl 75 rfl ?_
  refine z_if_eq C 117 dX7_straightens_75 (by decide) 78 rfl h (fun h => ?_) (fun h => ?_)
  · refine z_iconst C 0 dX7_straightens_117 (by decide) 118 rfl ?_
    exact z_zretWc (x := S0) (ex := ex) (fun z => wX7 T a0 z) C hr dX7_straightens_118 (Or.inl rfl) h rfl
  · refine z_aload_n C dX7_straightens_78 rfl 0 rfl 79 rfl ?_
    refine z_get C (in_X7_straightens_X7) 0 rfl rfl 26 (by decide) (List.mem_of_getElem? (i := 1) rfl) rfl rfl dX7_straightens_79 82 rfl ?_
    refine z_iload_n C dX7_straightens_82 rfl 1 rfl 83 rfl ?_
    refine z_iconst C 1 dX7_straightens_83 (by decide) 84 rfl ?_
    refine z_isub C dX7_straightens_84 85 rfl ?_
    refine z_iload C dX7_straightens_85 4 rfl 87 rfl ?_
    refine z_callR C ([]) (fun v h => c_X7_cell l D T    (x1 - 1) x4 v h) ⟨rfl, rfl⟩ (z_cwS C 2 gX7_straightens_X7_cell rfl dd_X7_cell ⟨(Nat.le_of_ble_eq_true rfl), (Nat.le_of_ble_eq_true rfl)⟩) (hD.zaddr rfl) [] rfl rfl (fun h => absurd h (by decide)) (fun _ => rfl) rfl (Nat.le_of_ble_eq_true rfl) dX7_straightens_87 90 rfl h (fun r_6 h => ?_)
    refine z_iald C 9 rfl rfl dX7_straightens_90 91 rfl h (fun h => ?_)
    refine z_iconst C 3 dX7_straightens_91 (by decide) 92 rfl ?_
    refine z_iload_n C dX7_straightens_92 rfl 3 rfl 93 rfl ?_
    refine z_isub C dX7_straightens_93 94 rfl ?_
    refine z_icmp_ne C 117 dX7_straightens_94 (by decide) 97 rfl h (fun h => ?_) (fun h => ?_)
    · refine z_iconst C 0 dX7_straightens_117 (by decide) 118 rfl ?_
      exact z_zretWc (x := S0) (ex := ex) (fun z => wX7 T a0 z) C hr dX7_straightens_118 (Or.inl rfl) h rfl
    · refine z_aload_n C dX7_straightens_97 rfl 0 rfl 98 rfl ?_
      refine z_get C (in_X7_straightens_X7) 0 rfl rfl 10 (by decide) (List.mem_of_getElem? (i := 2) rfl) rfl rfl dX7_straightens_98 101 rfl ?_
      refine z_iload C dX7_straightens_101 5 rfl 103 rfl ?_
      refine z_zald C 4 rfl rfl dX7_straightens_103 104 rfl h (fun h => ?_)
      refine z_if_ne C 117 dX7_straightens_104 (by decide) 107 rfl h (fun h => ?_) (fun h => ?_)
      · refine z_iconst C 0 dX7_straightens_117 (by decide) 118 rfl ?_
        exact z_zretWc (x := S0) (ex := ex) (fun z => wX7 T a0 z) C hr dX7_straightens_118 (Or.inl rfl) h rfl
      · refine z_aload_n C dX7_straightens_107 rfl 0 rfl 108 rfl ?_
        refine z_get C (in_X7_straightens_X7) 0 rfl rfl 27 (by decide) (List.mem_of_getElem? (i := 3) rfl) rfl rfl dX7_straightens_108 111 rfl ?_
        refine z_iload C dX7_straightens_111 5 rfl 113 rfl ?_
        refine z_iald C 10 rfl rfl dX7_straightens_113 114 rfl h (fun h => ?_)
        refine z_if_le C 119 dX7_straightens_114 (by decide) 117 rfl h (fun h => ?_) (fun h => ?_)
        · refine z_aload_n C dX7_straightens_119 rfl 0 rfl 120 rfl ?_
          refine z_get C (in_X7_straightens_X7) 0 rfl rfl 26 (by decide) (List.mem_of_getElem? (i := 1) rfl) rfl rfl dX7_straightens_120 123 rfl ?_
          refine z_iload_n C dX7_straightens_123 rfl 1 rfl 124 rfl ?_
          refine z_iload_n C dX7_straightens_124 rfl 2 rfl 125 rfl ?_
          refine z_callR C ([]) (fun v h => c_X7_cell l D T    x1 x2 v h) ⟨rfl, rfl⟩ (z_cwS C 2 gX7_straightens_X7_cell rfl dd_X7_cell ⟨(Nat.le_of_ble_eq_true rfl), (Nat.le_of_ble_eq_true rfl)⟩) (hD.zaddr rfl) [] rfl rfl (fun h => absurd h (by decide)) (fun _ => rfl) rfl (Nat.le_of_ble_eq_true rfl) dX7_straightens_125 128 rfl h (fun r_7 h => ?_)
          refine z_iconst C 0 dX7_straightens_128 (by decide) 129 rfl ?_
          refine z_iast C (fun z => wX7 T a0 z) S0 26 (hD.zaddr rfl) 9 rfl rfl (fun _ => rfl) dX7_straightens_129 130 rfl h (fun S0_8 h => ?_)
          refine z_aload_n C dX7_straightens_130 rfl 0 rfl 131 rfl ?_
          refine z_get C (in_X7_straightens_X7) 0 rfl rfl 26 (by decide) (List.mem_of_getElem? (i := 1) rfl) rfl rfl dX7_straightens_131 134 rfl ?_
          refine z_iload C dX7_straightens_134 5 rfl 136 rfl ?_
          refine z_iconst C 0 dX7_straightens_136 (by decide) 137 rfl ?_
          refine z_iast C (fun z => wX7 T a0 z) S0_8 26 (hD.zaddr rfl) 9 rfl rfl (fun _ => rfl) dX7_straightens_137 138 rfl h (fun S0_9 h => ?_)
          refine z_aload_n C dX7_straightens_138 rfl 0 rfl 139 rfl ?_
          refine z_get C (in_X7_straightens_X7) 0 rfl rfl 27 (by decide) (List.mem_of_getElem? (i := 3) rfl) rfl rfl dX7_straightens_139 142 rfl ?_
          refine z_iload C dX7_straightens_142 5 rfl 144 rfl ?_
          refine z_aload_n C dX7_straightens_144 rfl 0 rfl 145 rfl ?_
          refine z_get C (in_X7_straightens_X7) 0 rfl rfl 27 (by decide) (List.mem_of_getElem? (i := 3) rfl) rfl rfl dX7_straightens_145 148 rfl ?_
          refine z_iload_n C dX7_straightens_148 rfl 1 rfl 149 rfl ?_
          refine z_iload_n C dX7_straightens_149 rfl 2 rfl 150 rfl ?_
          refine z_callR C ([]) (fun v h => c_X7_cell l D T    x1 x2 v h) ⟨rfl, rfl⟩ (z_cwS C 2 gX7_straightens_X7_cell rfl dd_X7_cell ⟨(Nat.le_of_ble_eq_true rfl), (Nat.le_of_ble_eq_true rfl)⟩) (hD.zaddr rfl) [] rfl rfl (fun h => absurd h (by decide)) (fun _ => rfl) rfl (Nat.le_of_ble_eq_true rfl) dX7_straightens_150 153 rfl h (fun r_10 h => ?_)
          refine z_iald C 10 rfl rfl dX7_straightens_153 154 rfl h (fun h => ?_)
          refine z_iast C (fun z => wX7 T a0 z) S0_9 27 (hD.zaddr rfl) 10 rfl rfl (fun _ => rfl) dX7_straightens_154 155 rfl h (fun S0_11 h => ?_)
          refine z_aload_n C dX7_straightens_155 rfl 0 rfl 156 rfl ?_
          refine z_get C (in_X7_straightens_X7) 0 rfl rfl 26 (by decide) (List.mem_of_getElem? (i := 1) rfl) rfl rfl dX7_straightens_156 159 rfl ?_
          refine z_iload_n C dX7_straightens_159 rfl 1 rfl 160 rfl ?_
          refine z_iconst C 1 dX7_straightens_160 (by decide) 161 rfl ?_
          refine z_isub C dX7_straightens_161 162 rfl ?_
          refine z_iload C dX7_straightens_162 4 rfl 164 rfl ?_
          refine z_callR C ([]) (fun v h => c_X7_cell l D T    (x1 - 1) x4 v h) ⟨rfl, rfl⟩ (z_cwS C 2 gX7_straightens_X7_cell rfl dd_X7_cell ⟨(Nat.le_of_ble_eq_true rfl), (Nat.le_of_ble_eq_true rfl)⟩) (hD.zaddr rfl) [] rfl rfl (fun h => absurd h (by decide)) (fun _ => rfl) rfl (Nat.le_of_ble_eq_true rfl) dX7_straightens_164 167 rfl h (fun r_12 h => ?_)
          refine z_iconst C (-1) dX7_straightens_167 (by decide) 168 rfl ?_
          refine z_iast C (fun z => wX7 T a0 z) S0_11 26 (hD.zaddr rfl) 9 rfl rfl (fun _ => rfl) dX7_straightens_168 169 rfl h (fun S0_13 h => ?_)
          refine z_aload_n C dX7_straightens_169 rfl 0 rfl 170 rfl ?_
          refine z_get C (in_X7_straightens_X7) 0 rfl rfl 27 (by decide) (List.mem_of_getElem? (i := 3) rfl) rfl rfl dX7_straightens_170 173 rfl ?_
          refine z_iload_n C dX7_straightens_173 rfl 1 rfl 174 rfl ?_
          refine z_iconst C 1 dX7_straightens_174 (by decide) 175 rfl ?_
          refine z_isub C dX7_straightens_175 176 rfl ?_
          refine z_iload C dX7_straightens_176 4 rfl 178 rfl ?_
          refine z_callR C ([]) (fun v h => c_X7_cell l D T    (x1 - 1) x4 v h) ⟨rfl, rfl⟩ (z_cwS C 2 gX7_straightens_X7_cell rfl dd_X7_cell ⟨(Nat.le_of_ble_eq_true rfl), (Nat.le_of_ble_eq_true rfl)⟩) (hD.zaddr rfl) [] rfl rfl (fun h => absurd h (by decide)) (fun _ => rfl) rfl (Nat.le_of_ble_eq_true rfl) dX7_straightens_178 181 rfl h (fun r_14 h => ?_)
          refine z_iconst C 0 dX7_straightens_181 (by decide) 182 rfl ?_
          refine z_iast C (fun z => wX7 T a0 z) S0_13 27 (hD.zaddr rfl) 10 rfl rfl (fun _ => rfl) dX7_straightens_182 183 rfl h (fun S0_15 h => ?_)
          refine z_iconst C 1 dX7_straightens_183 (by decide) 184 rfl ?_
          exact z_zretWc (x := S0_15) (ex := ex) (fun z => wX7 T a0 z) C hr dX7_straightens_184 (Or.inr rfl) h rfl
        · refine z_iconst C 0 dX7_straightens_117 (by decide) 118 rfl ?_
          exact z_zretWc (x := S0) (ex := ex) (fun z => wX7 T a0 z) C hr dX7_straightens_118 (Or.inl rfl) h rfl

def f_X7_straightens_J70 (S0 : Nat → Nat → Int32) (x1 : Int32) (x2 : Int32) (x3 : Int32) (x4 : Int32) (x5 : Int32)  : Option (Int32 × (Nat → Nat → Int32)) := f_X7_straightens_J71 S0 x1 x2 x3 x4 x5 0
set_option maxHeartbeats 4000000 in
set_option maxRecDepth 100000 in
theorem p_X7_straightens_J70 {w0 : va_W} (C : zC p R s m args meth c cX7_straightens 7 RX7 wsX7_straightens D T 4 92 0 0) (hr : meth.sig.returnType = some .boolean) (S0 : Nat → Nat → Int32) (x1 : Int32) (x2 : Int32) (x3 : Int32) (x4 : Int32) (x5 : Int32)  (hD : va_D (zA w0) (wX7 T a0 S0)) {ex : Int32 × (Nat → Nat → Int32)} (h : f_X7_straightens_J70 S0 x1 x2 x3 x4 x5 = some ex) : zt p l e R s m args below meth c 7 (zA w0) D 0 0 (MQ below (zQJ D w0 ex.1 (wX7 T a0 ex.2)) args s 0 0 (zA w0)) (wX7 T a0 S0) [(0, .ref (a0 99)), (1, .int x1), (2, .int x2), (3, .int x3), (4, .int x4), (5, .int x5)] 70 [] := by
  unfold f_X7_straightens_J70 at h
  refine z_iconst C 0 dX7_straightens_70 (by decide) 71 rfl ?_
  exact z_locals (ks := [0, 1, 2, 3, 4, 5]) rfl (p_X7_straightens_J71 C hr S0 x1 x2 x3 x4 x5 0 (hD.zaddr rfl) h)

def f_X7_straightens_J23 (S0 : Nat → Nat → Int32) (x1 : Int32) (x2 : Int32) (x3 : Int32)  : Option (Int32 × (Nat → Nat → Int32)) := (f_X7_targetTurn S0 x1 x2 x3).bind fun r_3 => (f_X7_cell (x1 - 1) x2).bind fun r_4 => (f_X7_placeAt S0 (x1 - 1) r_3).bind fun r_5 => if 0 ≤ r_5 then (f_X7_straightens_J70 S0 x1 x2 x3 r_3 r_4) else ((f_X7_manyTo S0 (x1 - 1) r_3).bind fun r_16 => if r_16 = 1 then (f_X7_straightens_J71 S0 x1 x2 x3 r_3 r_4 1) else (f_X7_straightens_J70 S0 x1 x2 x3 r_3 r_4))
set_option maxHeartbeats 4000000 in
set_option maxRecDepth 100000 in
theorem p_X7_straightens_J23 {w0 : va_W} (C : zC p R s m args meth c cX7_straightens 7 RX7 wsX7_straightens D T 4 92 0 0) (hr : meth.sig.returnType = some .boolean) (S0 : Nat → Nat → Int32) (x1 : Int32) (x2 : Int32) (x3 : Int32)  (hD : va_D (zA w0) (wX7 T a0 S0)) {ex : Int32 × (Nat → Nat → Int32)} (h : f_X7_straightens_J23 S0 x1 x2 x3 = some ex) : zt p l e R s m args below meth c 7 (zA w0) D 0 0 (MQ below (zQJ D w0 ex.1 (wX7 T a0 ex.2)) args s 0 0 (zA w0)) (wX7 T a0 S0) [(0, .ref (a0 99)), (1, .int x1), (2, .int x2), (3, .int x3)] 23 [] := by
  unfold f_X7_straightens_J23 at h
  refine z_aload_n C dX7_straightens_23 rfl 0 rfl 24 rfl ?_
  refine z_iload_n C dX7_straightens_24 rfl 1 rfl 25 rfl ?_
  refine z_iload_n C dX7_straightens_25 rfl 2 rfl 26 rfl ?_
  refine z_iload_n C dX7_straightens_26 rfl 3 rfl 27 rfl ?_
  refine z_callR C (wX7 T a0 S0) (fun v h => c_X7_targetTurn l D T a0  S0 x1 x2 x3 v h) ⟨rfl, rfl⟩ (z_cwV C 3 gX7_straightens_X7_targetTurn rfl rfl dd_X7_targetTurn ⟨(Nat.le_of_ble_eq_true rfl), (Nat.le_of_ble_eq_true rfl)⟩) (hD.zaddr rfl) [0, 1, 2, 3, 4, 5, 6, 7, 8, 9, 10, 11, 12, 13, 14, 15, 16, 17] rfl rfl (fun _ => ⟨a0 99, [.int x1, .int x2, .int x3], 6, 0, _, _, rfl, rfl, rfl, rfl, rfl⟩) (fun h => absurd rfl h) rfl (Nat.le_of_ble_eq_true rfl) dX7_straightens_27 30 rfl h (fun r_3 h => ?_)
  refine z_istore C [(0, .ref (a0 99)), (1, .int x1), (2, .int x2), (3, .int x3), (4, .int r_3)] dX7_straightens_30 (Nat.le_of_ble_eq_true rfl) [1, 2, 3, 4, 0] rfl 32 rfl ?_
  refine z_iload_n C dX7_straightens_32 rfl 1 rfl 33 rfl ?_
  refine z_iconst C 1 dX7_straightens_33 (by decide) 34 rfl ?_
  refine z_isub C dX7_straightens_34 35 rfl ?_
  refine z_iload_n C dX7_straightens_35 rfl 2 rfl 36 rfl ?_
  refine z_callR C ([]) (fun v h => c_X7_cell l D T    (x1 - 1) x2 v h) ⟨rfl, rfl⟩ (z_cwS C 2 gX7_straightens_X7_cell rfl dd_X7_cell ⟨(Nat.le_of_ble_eq_true rfl), (Nat.le_of_ble_eq_true rfl)⟩) (hD.zaddr rfl) [] rfl rfl (fun h => absurd h (by decide)) (fun _ => rfl) rfl (Nat.le_of_ble_eq_true rfl) dX7_straightens_36 39 rfl h (fun r_4 h => ?_)
  refine z_istore C [(0, .ref (a0 99)), (1, .int x1), (2, .int x2), (3, .int x3), (4, .int r_3), (5, .int r_4)] dX7_straightens_39 (Nat.le_of_ble_eq_true rfl) [1, 2, 3, 4, 5, 0] rfl 41 rfl ?_
  refine z_aload_n C dX7_straightens_41 rfl 0 rfl 42 rfl ?_
  refine z_iload_n C dX7_straightens_42 rfl 1 rfl 43 rfl ?_
  refine z_iconst C 1 dX7_straightens_43 (by decide) 44 rfl ?_
  refine z_isub C dX7_straightens_44 45 rfl ?_
  refine z_iload C dX7_straightens_45 4 rfl 47 rfl ?_
  refine z_callR C (wX7 T a0 S0) (fun v h => c_X7_placeAt l D T a0  S0 (x1 - 1) r_3 v h) ⟨rfl, rfl⟩ (z_cwV C 2 gX7_straightens_X7_placeAt rfl rfl dd_X7_placeAt ⟨(Nat.le_of_ble_eq_true rfl), (Nat.le_of_ble_eq_true rfl)⟩) (hD.zaddr rfl) [0, 1, 2, 3, 4, 5, 6, 7, 8, 9, 10, 11, 12, 13, 14, 15, 16, 17] rfl rfl (fun _ => ⟨a0 99, [.int (x1 - 1), .int r_3], 6, 0, _, _, rfl, rfl, rfl, rfl, rfl⟩) (fun h => absurd rfl h) rfl (Nat.le_of_ble_eq_true rfl) dX7_straightens_47 50 rfl h (fun r_5 h => ?_)
  refine z_if_ge C 70 dX7_straightens_50 (by decide) 53 rfl h (fun h => ?_) (fun h => ?_)
  · exact z_locals (ks := [0, 1, 2, 3, 4, 5]) rfl (p_X7_straightens_J70 C hr S0 x1 x2 x3 r_3 r_4 (hD.zaddr rfl) h)
  · refine z_aload_n C dX7_straightens_53 rfl 0 rfl 54 rfl ?_
    refine z_iload_n C dX7_straightens_54 rfl 1 rfl 55 rfl ?_
    refine z_iconst C 1 dX7_straightens_55 (by decide) 56 rfl ?_
    refine z_isub C dX7_straightens_56 57 rfl ?_
    refine z_iload C dX7_straightens_57 4 rfl 59 rfl ?_
    refine z_callR C (wX7 T a0 S0) (fun v h => c_X7_manyTo l D T a0  S0 (x1 - 1) r_3 v h) ⟨rfl, rfl⟩ (z_cwV C 2 gX7_straightens_X7_manyTo rfl rfl dd_X7_manyTo ⟨(Nat.le_of_ble_eq_true rfl), (Nat.le_of_ble_eq_true rfl)⟩) (hD.zaddr rfl) [0, 1, 2, 3, 4, 5, 6, 7, 8, 9, 10, 11, 12, 13, 14, 15, 16, 17] rfl rfl (fun _ => ⟨a0 99, [.int (x1 - 1), .int r_3], 6, 0, _, _, rfl, rfl, rfl, rfl, rfl⟩) (fun h => absurd rfl h) rfl (Nat.le_of_ble_eq_true rfl) dX7_straightens_59 62 rfl h (fun r_16 h => ?_)
    refine z_iconst C 1 dX7_straightens_62 (by decide) 63 rfl ?_
    refine z_icmp_ne C 70 dX7_straightens_63 (by decide) 66 rfl h (fun h => ?_) (fun h => ?_)
    · exact z_locals (ks := [0, 1, 2, 3, 4, 5]) rfl (p_X7_straightens_J70 C hr S0 x1 x2 x3 r_3 r_4 (hD.zaddr rfl) h)
    · refine z_iconst C 1 dX7_straightens_66 (by decide) 67 rfl ?_
      refine z_goto C 71 dX7_straightens_67 (by decide) ?_
      exact z_locals (ks := [0, 1, 2, 3, 4, 5]) rfl (p_X7_straightens_J71 C hr S0 x1 x2 x3 r_3 r_4 1 (hD.zaddr rfl) h)

def f_X7_straightens (S0 : Nat → Nat → Int32) (v1 : Int32) (v2 : Int32) : Option (Int32 × (Nat → Nat → Int32)) := (f_X7_cell v1 v2).bind fun r_1 => zix r_1 240 fun _ => zlet (S0 26 (Int32.toNatClampNeg r_1)) fun u_2 => if u_2 = 1 then (f_X7_straightens_J23 S0 v1 v2 u_2) else (if u_2 = 2 then (f_X7_straightens_J23 S0 v1 v2 u_2) else (some (0, S0)))
theorem dd_X7_straightens : RX7 ≠ "java/lang/invoke/MethodHandle" ∧ RX7 ≠ "java/lang/invoke/VarHandle" ∧ (parseMethodDescriptor yX7_straightens.desc).map (fun d => d.parameters.length) = some 2 := by decide +kernel
set_option maxHeartbeats 4000000 in
set_option maxRecDepth 100000 in
theorem c_X7_straightens (l : Launch) (D : va_G) (T : Nat → ClassId) (a0 : Nat → Nat) (S0 : Nat → Nat → Int32) (v1 : Int32) (v2 : Int32) (ex : Int32 × (Nat → Nat → Int32)) (h : f_X7_straightens S0 v1 v2 = some ex) : zWI l yX7_straightens wsX7_straightens ({ frames := 4, cells := 0, slots := 0, locals := 92 } : Room) D T [.ref (a0 99), .int v1, .int v2] (wX7 T a0 S0) ex.1 (wX7 T a0 ex.2) := by
  refine z_begin (cc := cX7_straightens) (nL := 7) (own := RX7) (fr := 4) (lc := 92) (ret := some .boolean) (by decide) rfl (Nat.le_of_ble_eq_true rfl) (zA (wX7 T a0 S0)) rfl [(0, .ref (a0 99)), (1, .int v1), (2, .int v2)] rfl ⟨rfl, rfl⟩ rfl ?_
  intro p e s m args below meth c C hr hD
  have hD := hD.zself
  unfold f_X7_straightens at h
  refine z_aload_n C dX7_straightens_0 rfl 0 rfl 1 rfl ?_
  refine z_get C (in_X7_straightens_X7) 0 rfl rfl 26 (by decide) (List.mem_of_getElem? (i := 1) rfl) rfl rfl dX7_straightens_1 4 rfl ?_
  refine z_iload_n C dX7_straightens_4 rfl 1 rfl 5 rfl ?_
  refine z_iload_n C dX7_straightens_5 rfl 2 rfl 6 rfl ?_
  refine z_callR C ([]) (fun v h => c_X7_cell l D T    v1 v2 v h) ⟨rfl, rfl⟩ (z_cwS C 2 gX7_straightens_X7_cell rfl dd_X7_cell ⟨(Nat.le_of_ble_eq_true rfl), (Nat.le_of_ble_eq_true rfl)⟩) (hD.zaddr rfl) [] rfl rfl (fun h => absurd h (by decide)) (fun _ => rfl) rfl (Nat.le_of_ble_eq_true rfl) dX7_straightens_6 9 rfl h (fun r_1 h => ?_)
  refine z_iald C 9 rfl rfl dX7_straightens_9 10 rfl h (fun h => ?_)
  refine z_top h (fun u_2 h => ?_)
  refine z_istore_n C [(0, .ref (a0 99)), (1, .int v1), (2, .int v2), (3, .int u_2)] dX7_straightens_10 rfl (Nat.le_of_ble_eq_true rfl) [1, 2, 3, 0] rfl 11 rfl ?_
  refine z_iload_n C dX7_straightens_11 rfl 3 rfl 12 rfl ?_
  refine z_iconst C 1 dX7_straightens_12 (by decide) 13 rfl ?_
  refine z_icmp_eq C 23 dX7_straightens_13 (by decide) 16 rfl h (fun h => ?_) (fun h => ?_)
  · exact z_locals (ks := [0, 1, 2, 3]) rfl (p_X7_straightens_J23 C hr S0 v1 v2 u_2 (hD.zaddr rfl) h)
  · refine z_iload_n C dX7_straightens_16 rfl 3 rfl 17 rfl ?_
    refine z_iconst C 2 dX7_straightens_17 (by decide) 18 rfl ?_
    refine z_icmp_eq C 23 dX7_straightens_18 (by decide) 21 rfl h (fun h => ?_) (fun h => ?_)
    · exact z_locals (ks := [0, 1, 2, 3]) rfl (p_X7_straightens_J23 C hr S0 v1 v2 u_2 (hD.zaddr rfl) h)
    · refine z_iconst C 0 dX7_straightens_21 (by decide) 22 rfl ?_
      exact z_zretWc (x := S0) (ex := ex) (fun z => wX7 T a0 z) C hr dX7_straightens_22 (Or.inl rfl) h rfl

end
/-! StreamTreeModel.bestOf (II)I -/
section
variable {p : Program} {l : Launch} {e : Env} {R : Room} {s : State} {m : MethodId} {args : Array Value} {below : List Frame} {meth : Method} {c : Code} {Q : State → Prop} {A : Nat → Prop} {D : va_G} {T : Nat → ClassId} {a0 : Nat → Nat}
theorem in_X7_bestOf_X7 : ∀ w ∈ u_ws RX7 TX7 35, w ∈ wsX7_bestOf := fun _ h => (List.mem_cons_of_mem _ (List.mem_append_right _ h))
def f_X7_bestOf (S0 : Nat → Nat → Int32) (v1 : Int32) (v2 : Int32) : Option (Int32) := zix ((128 * v1) + v2) 30720 fun _ => some (S0 28 (Int32.toNatClampNeg ((128 * v1) + v2)))
theorem dd_X7_bestOf : RX7 ≠ "java/lang/invoke/MethodHandle" ∧ RX7 ≠ "java/lang/invoke/VarHandle" ∧ (parseMethodDescriptor yX7_bestOf.desc).map (fun d => d.parameters.length) = some 2 := by decide +kernel
set_option maxHeartbeats 4000000 in
set_option maxRecDepth 100000 in
theorem c_X7_bestOf (l : Launch) (D : va_G) (T : Nat → ClassId) (a0 : Nat → Nat) (S0 : Nat → Nat → Int32) (v1 : Int32) (v2 : Int32) (ex : Int32) (h : f_X7_bestOf S0 v1 v2 = some ex) : zRI l yX7_bestOf wsX7_bestOf ({ frames := 0, cells := 0, slots := 0, locals := 0 } : Room) D T [.ref (a0 99), .int v1, .int v2] (wX7 T a0 S0) ex := by
  refine z_begin (cc := cX7_bestOf) (nL := 3) (own := RX7) (fr := 0) (lc := 0) (ret := some .int) (by decide) rfl (Nat.le_of_ble_eq_true rfl) (fun _ => False) rfl [(0, .ref (a0 99)), (1, .int v1), (2, .int v2)] rfl ⟨rfl, rfl⟩ rfl ?_
  intro p e s m args below meth c C hr hD
  unfold f_X7_bestOf at h
  refine z_aload_n C dX7_bestOf_0 rfl 0 rfl 1 rfl ?_
  refine z_get C (in_X7_bestOf_X7) 0 rfl rfl 28 (by decide) (List.mem_of_getElem? (i := 1) rfl) rfl rfl dX7_bestOf_1 4 rfl ?_
  refine z_sipush C 128 dX7_bestOf_4 (by decide) 7 rfl ?_
  refine z_iload_n C dX7_bestOf_7 rfl 1 rfl 8 rfl ?_
  refine z_imul C dX7_bestOf_8 9 rfl ?_
  refine z_iload_n C dX7_bestOf_9 rfl 2 rfl 10 rfl ?_
  refine z_iadd C dX7_bestOf_10 11 rfl ?_
  refine z_iald C 11 rfl rfl dX7_bestOf_11 12 rfl h (fun h => ?_)
  exact z_iretR C hr dX7_bestOf_12 h

end
/-! StreamTreeModel.offers (III)V -/
section
variable {p : Program} {l : Launch} {e : Env} {R : Room} {s : State} {m : MethodId} {args : Array Value} {below : List Frame} {meth : Method} {c : Code} {Q : State → Prop} {A : Nat → Prop} {D : va_G} {T : Nat → ClassId} {a0 : Nat → Nat}
theorem in_X7_offers_X7 : ∀ w ∈ u_ws RX7 TX7 35, w ∈ wsX7_offers := fun _ h => (List.mem_cons_of_mem _ (List.mem_append_right _ h))
def f_X7_offers (S0 : Nat → Nat → Int32) (v1 : Int32) (v2 : Int32) (v3 : Int32) : Option ((Nat → Nat → Int32)) := zix v1 30720 fun _ => if (S0 28 (Int32.toNatClampNeg v1)) ≤ v2 then (some S0) else (zix v1 30720 fun j => zlet (zst S0 28 j v2) fun S0_1 => zix v1 30720 fun j => zlet (zst S0_1 29 j v3) fun S0_2 => some S0_2)
theorem dd_X7_offers : RX7 ≠ "java/lang/invoke/MethodHandle" ∧ RX7 ≠ "java/lang/invoke/VarHandle" ∧ (parseMethodDescriptor yX7_offers.desc).map (fun d => d.parameters.length) = some 3 := by decide +kernel
set_option maxHeartbeats 4000000 in
set_option maxRecDepth 100000 in
theorem c_X7_offers (l : Launch) (D : va_G) (T : Nat → ClassId) (a0 : Nat → Nat) (S0 : Nat → Nat → Int32) (v1 : Int32) (v2 : Int32) (v3 : Int32) (ex : (Nat → Nat → Int32)) (h : f_X7_offers S0 v1 v2 v3 = some ex) : zWV l yX7_offers wsX7_offers ({ frames := 0, cells := 0, slots := 0, locals := 0 } : Room) D T [.ref (a0 99), .int v1, .int v2, .int v3] (wX7 T a0 S0) (wX7 T a0 ex) := by
  refine z_begin (cc := cX7_offers) (nL := 4) (own := RX7) (fr := 0) (lc := 0) (ret := none) (by decide) rfl (Nat.le_of_ble_eq_true rfl) (zA (wX7 T a0 S0)) rfl [(0, .ref (a0 99)), (1, .int v1), (2, .int v2), (3, .int v3)] rfl ⟨rfl, rfl⟩ rfl ?_
  intro p e s m args below meth c C hr hD
  have hD := hD.zself
  unfold f_X7_offers at h
  refine z_iload_n C dX7_offers_0 rfl 2 rfl 1 rfl ?_
  refine z_aload_n C dX7_offers_1 rfl 0 rfl 2 rfl ?_
  refine z_get C (in_X7_offers_X7) 0 rfl rfl 28 (by decide) (List.mem_of_getElem? (i := 1) rfl) rfl rfl dX7_offers_2 5 rfl ?_
  refine z_iload_n C dX7_offers_5 rfl 1 rfl 6 rfl ?_
  refine z_iald C 11 rfl rfl dX7_offers_6 7 rfl h (fun h => ?_)
  refine z_icmp_ge C 24 dX7_offers_7 (by decide) 10 rfl h (fun h => ?_) (fun h => ?_)
  · exact z_vretW (x := S0) (ex := ex) (fun z => wX7 T a0 z) C hr dX7_offers_24 h rfl
  · refine z_aload_n C dX7_offers_10 rfl 0 rfl 11 rfl ?_
    refine z_get C (in_X7_offers_X7) 0 rfl rfl 28 (by decide) (List.mem_of_getElem? (i := 1) rfl) rfl rfl dX7_offers_11 14 rfl ?_
    refine z_iload_n C dX7_offers_14 rfl 1 rfl 15 rfl ?_
    refine z_iload_n C dX7_offers_15 rfl 2 rfl 16 rfl ?_
    refine z_iast C (fun z => wX7 T a0 z) S0 28 (hD.zaddr rfl) 11 rfl rfl (fun _ => rfl) dX7_offers_16 17 rfl h (fun S0_1 h => ?_)
    refine z_aload_n C dX7_offers_17 rfl 0 rfl 18 rfl ?_
    refine z_get C (in_X7_offers_X7) 0 rfl rfl 29 (by decide) (List.mem_of_getElem? (i := 2) rfl) rfl rfl dX7_offers_18 21 rfl ?_
    refine z_iload_n C dX7_offers_21 rfl 1 rfl 22 rfl ?_
    refine z_iload_n C dX7_offers_22 rfl 3 rfl 23 rfl ?_
    refine z_iast C (fun z => wX7 T a0 z) S0_1 29 (hD.zaddr rfl) 12 rfl rfl (fun _ => rfl) dX7_offers_23 24 rfl h (fun S0_2 h => ?_)
    exact z_vretW (x := S0_2) (ex := ex) (fun z => wX7 T a0 z) C hr dX7_offers_24 h rfl

end
/-! StreamTreeModel.offersFrom (IIIIII)V -/
section
variable {p : Program} {l : Launch} {e : Env} {R : Room} {s : State} {m : MethodId} {args : Array Value} {below : List Frame} {meth : Method} {c : Code} {Q : State → Prop} {A : Nat → Prop} {D : va_G} {T : Nat → ClassId} {a0 : Nat → Nat}
theorem in_X7_offersFrom_X7 : ∀ w ∈ u_ws RX7 TX7 35, w ∈ wsX7_offersFrom := fun _ h => (List.mem_cons_of_mem _ (List.mem_append_right _ h))
def f_X7_offersFrom (S0 : Nat → Nat → Int32) (v1 : Int32) (v2 : Int32) (v3 : Int32) (v4 : Int32) (v5 : Int32) (v6 : Int32) : Option ((Nat → Nat → Int32)) := (f_X7_cell v3 v4).bind fun r_1 => (f_X7_bestOf S0 r_1 v2).bind fun r_2 => if 1000000000 ≤ r_2 then (some S0) else ((f_X7_lengthOf S0 v3 v5).bind fun r_3 => zix v2 128 fun _ => (f_X7_offers S0 v1 (r_2 + (r_3 * ((S0 3 0) + (S0 30 (Int32.toNatClampNeg v2))))) v6).bind fun r_4 => some r_4)
theorem dd_X7_offersFrom : RX7 ≠ "java/lang/invoke/MethodHandle" ∧ RX7 ≠ "java/lang/invoke/VarHandle" ∧ (parseMethodDescriptor yX7_offersFrom.desc).map (fun d => d.parameters.length) = some 6 := by decide +kernel
set_option maxHeartbeats 4000000 in
set_option maxRecDepth 100000 in
theorem c_X7_offersFrom (l : Launch) (D : va_G) (T : Nat → ClassId) (a0 : Nat → Nat) (S0 : Nat → Nat → Int32) (v1 : Int32) (v2 : Int32) (v3 : Int32) (v4 : Int32) (v5 : Int32) (v6 : Int32) (ex : (Nat → Nat → Int32)) (h : f_X7_offersFrom S0 v1 v2 v3 v4 v5 v6 = some ex) : zWV l yX7_offersFrom wsX7_offersFrom ({ frames := 1, cells := 0, slots := 0, locals := 23 } : Room) D T [.ref (a0 99), .int v1, .int v2, .int v3, .int v4, .int v5, .int v6] (wX7 T a0 S0) (wX7 T a0 ex) := by
  refine z_begin (cc := cX7_offersFrom) (nL := 8) (own := RX7) (fr := 1) (lc := 23) (ret := none) (by decide) rfl (Nat.le_of_ble_eq_true rfl) (zA (wX7 T a0 S0)) rfl [(0, .ref (a0 99)), (1, .int v1), (2, .int v2), (3, .int v3), (4, .int v4), (5, .int v5), (6, .int v6)] rfl ⟨rfl, rfl⟩ rfl ?_
  intro p e s m args below meth c C hr hD
  have hD := hD.zself
  unfold f_X7_offersFrom at h
  refine z_aload_n C dX7_offersFrom_0 rfl 0 rfl 1 rfl ?_
  refine z_iload_n C dX7_offersFrom_1 rfl 3 rfl 2 rfl ?_
  refine z_iload C dX7_offersFrom_2 4 rfl 4 rfl ?_
  refine z_callR C ([]) (fun v h => c_X7_cell l D T    v3 v4 v h) ⟨rfl, rfl⟩ (z_cwS C 2 gX7_offersFrom_X7_cell rfl dd_X7_cell ⟨(Nat.le_of_ble_eq_true rfl), (Nat.le_of_ble_eq_true rfl)⟩) (hD.zaddr rfl) [] rfl rfl (fun h => absurd h (by decide)) (fun _ => rfl) rfl (Nat.le_of_ble_eq_true rfl) dX7_offersFrom_4 7 rfl h (fun r_1 h => ?_)
  refine z_iload_n C dX7_offersFrom_7 rfl 2 rfl 8 rfl ?_
  refine z_callR C (wX7 T a0 S0) (fun v h => c_X7_bestOf l D T a0  S0 r_1 v2 v h) ⟨rfl, rfl⟩ (z_cwV C 2 gX7_offersFrom_X7_bestOf rfl rfl dd_X7_bestOf ⟨(Nat.le_of_ble_eq_true rfl), (Nat.le_of_ble_eq_true rfl)⟩) (hD.zaddr rfl) [0, 1, 2, 3, 4, 5, 6, 7, 8, 9, 10, 11, 12, 13, 14, 15, 16, 17] rfl rfl (fun _ => ⟨a0 99, [.int r_1, .int v2], 6, 0, _, _, rfl, rfl, rfl, rfl, rfl⟩) (fun h => absurd rfl h) rfl (Nat.le_of_ble_eq_true rfl) dX7_offersFrom_8 11 rfl h (fun r_2 h => ?_)
  refine z_istore C [(0, .ref (a0 99)), (1, .int v1), (2, .int v2), (3, .int v3), (4, .int v4), (5, .int v5), (6, .int v6), (7, .int r_2)] dX7_offersFrom_11 (Nat.le_of_ble_eq_true rfl) [1, 2, 3, 4, 5, 6, 7, 0] rfl 13 rfl ?_
  refine z_iload C dX7_offersFrom_13 7 rfl 15 rfl ?_
  refine z_ldc C 1000000000 (List.mem_of_getElem? (i := 1) rfl) dX7_offersFrom_15 17 rfl ?_
  refine z_icmp_ge C 49 dX7_offersFrom_17 (by decide) 20 rfl h (fun h => ?_) (fun h => ?_)
  · exact z_vretW (x := S0) (ex := ex) (fun z => wX7 T a0 z) C hr dX7_offersFrom_49 h rfl
  · refine z_aload_n C dX7_offersFrom_20 rfl 0 rfl 21 rfl ?_
    refine z_iload_n C dX7_offersFrom_21 rfl 1 rfl 22 rfl ?_
    refine z_iload C dX7_offersFrom_22 7 rfl 24 rfl ?_
    refine z_aload_n C dX7_offersFrom_24 rfl 0 rfl 25 rfl ?_
    refine z_iload_n C dX7_offersFrom_25 rfl 3 rfl 26 rfl ?_
    refine z_iload C dX7_offersFrom_26 5 rfl 28 rfl ?_
    refine z_callR C (wX7 T a0 S0) (fun v h => c_X7_lengthOf l D T a0  S0 v3 v5 v h) ⟨rfl, rfl⟩ (z_cwV C 2 gX7_offersFrom_X7_lengthOf rfl rfl dd_X7_lengthOf ⟨(Nat.le_of_ble_eq_true rfl), (Nat.le_of_ble_eq_true rfl)⟩) (hD.zaddr rfl) [0, 1, 2, 3, 4, 5, 6, 7, 8, 9, 10, 11, 12, 13, 14, 15, 16, 17] rfl rfl (fun _ => ⟨a0 99, [.int v3, .int v5], 6, 0, _, _, rfl, rfl, rfl, rfl, rfl⟩) (fun h => absurd rfl h) rfl (Nat.le_of_ble_eq_true rfl) dX7_offersFrom_28 31 rfl h (fun r_3 h => ?_)
    refine z_aload_n C dX7_offersFrom_31 rfl 0 rfl 32 rfl ?_
    refine z_get C (in_X7_offersFrom_X7) 0 rfl rfl 3 (by decide) (List.mem_of_getElem? (i := 2) rfl) rfl rfl dX7_offersFrom_32 35 rfl ?_
    refine z_aload_n C dX7_offersFrom_35 rfl 0 rfl 36 rfl ?_
    refine z_get C (in_X7_offersFrom_X7) 0 rfl rfl 30 (by decide) (List.mem_of_getElem? (i := 3) rfl) rfl rfl dX7_offersFrom_36 39 rfl ?_
    refine z_iload_n C dX7_offersFrom_39 rfl 2 rfl 40 rfl ?_
    refine z_iald C 13 rfl rfl dX7_offersFrom_40 41 rfl h (fun h => ?_)
    refine z_iadd C dX7_offersFrom_41 42 rfl ?_
    refine z_imul C dX7_offersFrom_42 43 rfl ?_
    refine z_iadd C dX7_offersFrom_43 44 rfl ?_
    refine z_iload C dX7_offersFrom_44 6 rfl 46 rfl ?_
    refine z_callV C (wX7 T a0 S0) (([] : va_W)) (fun z => wX7 T a0 z) (fun z => wX7 T a0 z) (fun z h => c_X7_offers l D T a0  S0 v1 (r_2 + (r_3 * ((S0 3 0) + (S0 30 (Int32.toNatClampNeg v2))))) v6 z h) ⟨rfl, rfl⟩ (z_cwV C 3 gX7_offersFrom_X7_offers rfl rfl dd_X7_offers ⟨(Nat.le_of_ble_eq_true rfl), (Nat.le_of_ble_eq_true rfl)⟩) (hD.zaddr rfl) [0, 1, 2, 3, 4, 5, 6, 7, 8, 9, 10, 11, 12, 13, 14, 15, 16, 17] [] [0, 1, 2, 3, 4, 5, 6, 7, 8, 9, 10, 11, 12, 13, 14, 15, 16, 17] rfl rfl rfl (by decide) (fun _ => rfl) (fun _ => ⟨a0 99, [.int v1, .int (r_2 + (r_3 * ((S0 3 0) + (S0 30 (Int32.toNatClampNeg v2))))), .int v6], 6, 0, _, _, rfl, rfl, rfl, rfl, rfl⟩) (fun h => absurd rfl h) rfl (Nat.le_of_ble_eq_true rfl) dX7_offersFrom_46 49 rfl h (fun r_4 h => ?_)
    exact z_vretW (x := r_4) (ex := ex) (fun z => wX7 T a0 z) C hr dX7_offersFrom_49 h rfl

end
/-! StreamTreeModel.laysBest (III)V -/
section
variable {p : Program} {l : Launch} {e : Env} {R : Room} {s : State} {m : MethodId} {args : Array Value} {below : List Frame} {meth : Method} {c : Code} {Q : State → Prop} {A : Nat → Prop} {D : va_G} {T : Nat → ClassId} {a0 : Nat → Nat}
theorem in_X7_laysBest_X7 : ∀ w ∈ u_ws RX7 TX7 35, w ∈ wsX7_laysBest := fun _ h => (List.mem_cons_of_mem _ (List.mem_append_right _ h))
def f_X7_laysBest_J192 (rec : (Int32 × (Nat → Nat → Int32)) → Option ((Nat → Nat → Int32))) (S0 : Nat → Nat → Int32) (v1 : Int32) (v2 : Int32) (v3 : Int32) (v4 : Int32) (v5 : Int32) (v7 : Int32) (x8 : Int32)  : Option ((Nat → Nat → Int32)) := rec ((x8 + 1), S0)
set_option maxHeartbeats 4000000 in
set_option maxRecDepth 100000 in
theorem p_X7_laysBest_J192 (C : zC p R s m args meth c cX7_laysBest 10 RX7 wsX7_laysBest D T 2 50 0 0) (S0 : Nat → Nat → Int32) {v1 : Int32} {v2 : Int32} {v3 : Int32} {v4 : Int32} {v5 : Int32} {v7 : Int32} (x8 : Int32)  (hD : va_D A (wX7 T a0 S0)) {rec : (Int32 × (Nat → Nat → Int32)) → Option ((Nat → Nat → Int32))} (hrec : ∀ (c0 : Int32) (c1 : Nat → Nat → Int32) (b : (Nat → Nat → Int32)), rec (c0, c1) = some b → (zt p l e R s m args below meth c 10 A D 0 0 Q (wX7 T a0 b) [(0, .ref (a0 99)), (1, .int v1), (2, .int v2), (3, .int v3), (5, .int v5)] 198 []) → zt p l e R s m args below meth c 10 A D 0 0 Q (wX7 T a0 c1) [(0, .ref (a0 99)), (1, .int v1), (2, .int v2), (3, .int v3), (4, .int v4), (5, .int v5), (7, .int v7), (8, .int c0)] 101 []) {b : (Nat → Nat → Int32)} (K : zt p l e R s m args below meth c 10 A D 0 0 Q (wX7 T a0 b) [(0, .ref (a0 99)), (1, .int v1), (2, .int v2), (3, .int v3), (5, .int v5)] 198 []) (h : f_X7_laysBest_J192 rec S0 v1 v2 v3 v4 v5 v7 x8 = some b) : zt p l e R s m args below meth c 10 A D 0 0 Q (wX7 T a0 S0) [(0, .ref (a0 99)), (1, .int v1), (2, .int v2), (3, .int v3), (4, .int v4), (5, .int v5), (7, .int v7), (8, .int x8)] 192 [] := by
  unfold f_X7_laysBest_J192 at h
  refine z_iinc C (x8 + 1) [(0, .ref (a0 99)), (1, .int v1), (2, .int v2), (3, .int v3), (4, .int v4), (5, .int v5), (7, .int v7), (8, .int (x8 + 1))] dX7_laysBest_192 7 rfl rfl (Nat.le_of_ble_eq_true rfl) [1, 2, 3, 4, 5, 6, 7, 0] rfl 195 rfl ?_
  refine z_goto C 101 dX7_laysBest_195 (by decide) ?_
  exact z_locals (ks := [0, 1, 2, 3, 4, 5, 6, 7]) rfl (hrec _ _ _ h K)

def f_X7_laysBest_J129 (rec : (Int32 × (Nat → Nat → Int32)) → Option ((Nat → Nat → Int32))) (S0 : Nat → Nat → Int32) (v1 : Int32) (v2 : Int32) (v3 : Int32) (v4 : Int32) (v5 : Int32) (v7 : Int32) (x8 : Int32) (k0 : Int32) : Option ((Nat → Nat → Int32)) := if k0 = 0 then (f_X7_laysBest_J192 rec S0 v1 v2 v3 v4 v5 v7 x8) else ((f_X7_bestOf S0 v4 x8).bind fun r_7 => if 1000000000 ≤ r_7 then (f_X7_laysBest_J192 rec S0 v1 v2 v3 v4 v5 v7 x8) else ((f_X7_bestOf S0 v4 (v3 - x8)).bind fun r_8 => if 1000000000 ≤ r_8 then (f_X7_laysBest_J192 rec S0 v1 v2 v3 v4 v5 v7 x8) else ((f_X7_bestOf S0 v4 x8).bind fun r_9 => (f_X7_bestOf S0 v4 (v3 - x8)).bind fun r_10 => (f_X7_offers S0 v5 (r_9 + r_10) (-x8)).bind fun r_11 => f_X7_laysBest_J192 rec r_11 v1 v2 v3 v4 v5 v7 x8)))
set_option maxHeartbeats 4000000 in
set_option maxRecDepth 100000 in
theorem p_X7_laysBest_J129 (C : zC p R s m args meth c cX7_laysBest 10 RX7 wsX7_laysBest D T 2 50 0 0) (S0 : Nat → Nat → Int32) {v1 : Int32} {v2 : Int32} {v3 : Int32} {v4 : Int32} {v5 : Int32} {v7 : Int32} (x8 : Int32) (k0 : Int32) (hD : va_D A (wX7 T a0 S0)) {rec : (Int32 × (Nat → Nat → Int32)) → Option ((Nat → Nat → Int32))} (hrec : ∀ (c0 : Int32) (c1 : Nat → Nat → Int32) (b : (Nat → Nat → Int32)), rec (c0, c1) = some b → (zt p l e R s m args below meth c 10 A D 0 0 Q (wX7 T a0 b) [(0, .ref (a0 99)), (1, .int v1), (2, .int v2), (3, .int v3), (5, .int v5)] 198 []) → zt p l e R s m args below meth c 10 A D 0 0 Q (wX7 T a0 c1) [(0, .ref (a0 99)), (1, .int v1), (2, .int v2), (3, .int v3), (4, .int v4), (5, .int v5), (7, .int v7), (8, .int c0)] 101 []) {b : (Nat → Nat → Int32)} (K : zt p l e R s m args below meth c 10 A D 0 0 Q (wX7 T a0 b) [(0, .ref (a0 99)), (1, .int v1), (2, .int v2), (3, .int v3), (5, .int v5)] 198 []) (h : f_X7_laysBest_J129 rec S0 v1 v2 v3 v4 v5 v7 x8 k0 = some b) : zt p l e R s m args below meth c 10 A D 0 0 Q (wX7 T a0 S0) [(0, .ref (a0 99)), (1, .int v1), (2, .int v2), (3, .int v3), (4, .int v4), (5, .int v5), (7, .int v7), (8, .int x8)] 129 [.int k0] := by
  unfold f_X7_laysBest_J129 at h
  refine z_istore C [(0, .ref (a0 99)), (1, .int v1), (2, .int v2), (3, .int v3), (4, .int v4), (5, .int v5), (7, .int v7), (8, .int x8), (9, .int k0)] dX7_laysBest_129 (Nat.le_of_ble_eq_true rfl) [1, 2, 3, 4, 5, 6, 7, 8, 0] rfl 131 rfl ?_
  refine z_iload C dX7_laysBest_131 8 rfl 133 rfl ?_
  refine z_if_eq C 192 dX7_laysBest_133 (by decide) 136 rfl h (fun h => ?_) (fun h => ?_)
  · exact z_locals (ks := [0, 1, 2, 3, 4, 5, 6, 7]) rfl (p_X7_laysBest_J192 C S0 x8 (hD.zaddr rfl) hrec K h)
  · refine z_aload_n C dX7_laysBest_136 rfl 0 rfl 137 rfl ?_
    refine z_iload C dX7_laysBest_137 4 rfl 139 rfl ?_
    refine z_iload C dX7_laysBest_139 7 rfl 141 rfl ?_
    refine z_callR C (wX7 T a0 S0) (fun v h => c_X7_bestOf l D T a0  S0 v4 x8 v h) ⟨rfl, rfl⟩ (z_cwV C 2 gX7_laysBest_X7_bestOf rfl rfl dd_X7_bestOf ⟨(Nat.le_of_ble_eq_true rfl), (Nat.le_of_ble_eq_true rfl)⟩) (hD.zaddr rfl) [0, 1, 2, 3, 4, 5, 6, 7, 8, 9, 10, 11, 12, 13, 14, 15, 16, 17] rfl rfl (fun _ => ⟨a0 99, [.int v4, .int x8], 6, 0, _, _, rfl, rfl, rfl, rfl, rfl⟩) (fun h => absurd rfl h) rfl (Nat.le_of_ble_eq_true rfl) dX7_laysBest_141 144 rfl h (fun r_7 h => ?_)
    refine z_ldc C 1000000000 (List.mem_of_getElem? (i := 2) rfl) dX7_laysBest_144 146 rfl ?_
    refine z_icmp_ge C 192 dX7_laysBest_146 (by decide) 149 rfl h (fun h => ?_) (fun h => ?_)
    · exact z_locals (ks := [0, 1, 2, 3, 4, 5, 6, 7]) rfl (p_X7_laysBest_J192 C S0 x8 (hD.zaddr rfl) hrec K h)
    · refine z_aload_n C dX7_laysBest_149 rfl 0 rfl 150 rfl ?_
      refine z_iload C dX7_laysBest_150 4 rfl 152 rfl ?_
      refine z_iload_n C dX7_laysBest_152 rfl 3 rfl 153 rfl ?_
      refine z_iload C dX7_laysBest_153 7 rfl 155 rfl ?_
      refine z_isub C dX7_laysBest_155 156 rfl ?_
      refine z_callR C (wX7 T a0 S0) (fun v h => c_X7_bestOf l D T a0  S0 v4 (v3 - x8) v h) ⟨rfl, rfl⟩ (z_cwV C 2 gX7_laysBest_X7_bestOf rfl rfl dd_X7_bestOf ⟨(Nat.le_of_ble_eq_true rfl), (Nat.le_of_ble_eq_true rfl)⟩) (hD.zaddr rfl) [0, 1, 2, 3, 4, 5, 6, 7, 8, 9, 10, 11, 12, 13, 14, 15, 16, 17] rfl rfl (fun _ => ⟨a0 99, [.int v4, .int (v3 - x8)], 6, 0, _, _, rfl, rfl, rfl, rfl, rfl⟩) (fun h => absurd rfl h) rfl (Nat.le_of_ble_eq_true rfl) dX7_laysBest_156 159 rfl h (fun r_8 h => ?_)
      refine z_ldc C 1000000000 (List.mem_of_getElem? (i := 2) rfl) dX7_laysBest_159 161 rfl ?_
      refine z_icmp_ge C 192 dX7_laysBest_161 (by decide) 164 rfl h (fun h => ?_) (fun h => ?_)
      · exact z_locals (ks := [0, 1, 2, 3, 4, 5, 6, 7]) rfl (p_X7_laysBest_J192 C S0 x8 (hD.zaddr rfl) hrec K h)
      · refine z_aload_n C dX7_laysBest_164 rfl 0 rfl 165 rfl ?_
        refine z_iload C dX7_laysBest_165 5 rfl 167 rfl ?_
        refine z_aload_n C dX7_laysBest_167 rfl 0 rfl 168 rfl ?_
        refine z_iload C dX7_laysBest_168 4 rfl 170 rfl ?_
        refine z_iload C dX7_laysBest_170 7 rfl 172 rfl ?_
        refine z_callR C (wX7 T a0 S0) (fun v h => c_X7_bestOf l D T a0  S0 v4 x8 v h) ⟨rfl, rfl⟩ (z_cwV C 2 gX7_laysBest_X7_bestOf rfl rfl dd_X7_bestOf ⟨(Nat.le_of_ble_eq_true rfl), (Nat.le_of_ble_eq_true rfl)⟩) (hD.zaddr rfl) [0, 1, 2, 3, 4, 5, 6, 7, 8, 9, 10, 11, 12, 13, 14, 15, 16, 17] rfl rfl (fun _ => ⟨a0 99, [.int v4, .int x8], 6, 0, _, _, rfl, rfl, rfl, rfl, rfl⟩) (fun h => absurd rfl h) rfl (Nat.le_of_ble_eq_true rfl) dX7_laysBest_172 175 rfl h (fun r_9 h => ?_)
        refine z_aload_n C dX7_laysBest_175 rfl 0 rfl 176 rfl ?_
        refine z_iload C dX7_laysBest_176 4 rfl 178 rfl ?_
        refine z_iload_n C dX7_laysBest_178 rfl 3 rfl 179 rfl ?_
        refine z_iload C dX7_laysBest_179 7 rfl 181 rfl ?_
        refine z_isub C dX7_laysBest_181 182 rfl ?_
        refine z_callR C (wX7 T a0 S0) (fun v h => c_X7_bestOf l D T a0  S0 v4 (v3 - x8) v h) ⟨rfl, rfl⟩ (z_cwV C 2 gX7_laysBest_X7_bestOf rfl rfl dd_X7_bestOf ⟨(Nat.le_of_ble_eq_true rfl), (Nat.le_of_ble_eq_true rfl)⟩) (hD.zaddr rfl) [0, 1, 2, 3, 4, 5, 6, 7, 8, 9, 10, 11, 12, 13, 14, 15, 16, 17] rfl rfl (fun _ => ⟨a0 99, [.int v4, .int (v3 - x8)], 6, 0, _, _, rfl, rfl, rfl, rfl, rfl⟩) (fun h => absurd rfl h) rfl (Nat.le_of_ble_eq_true rfl) dX7_laysBest_182 185 rfl h (fun r_10 h => ?_)
        refine z_iadd C dX7_laysBest_185 186 rfl ?_
        refine z_iload C dX7_laysBest_186 7 rfl 188 rfl ?_
        refine z_ineg C dX7_laysBest_188 189 rfl ?_
        refine z_callV C (wX7 T a0 S0) (([] : va_W)) (fun z => wX7 T a0 z) (fun z => wX7 T a0 z) (fun z h => c_X7_offers l D T a0  S0 v5 (r_9 + r_10) (-x8) z h) ⟨rfl, rfl⟩ (z_cwV C 3 gX7_laysBest_X7_offers rfl rfl dd_X7_offers ⟨(Nat.le_of_ble_eq_true rfl), (Nat.le_of_ble_eq_true rfl)⟩) (hD.zaddr rfl) [0, 1, 2, 3, 4, 5, 6, 7, 8, 9, 10, 11, 12, 13, 14, 15, 16, 17] [] [0, 1, 2, 3, 4, 5, 6, 7, 8, 9, 10, 11, 12, 13, 14, 15, 16, 17] rfl rfl rfl (by decide) (fun _ => rfl) (fun _ => ⟨a0 99, [.int v5, .int (r_9 + r_10), .int (-x8)], 6, 0, _, _, rfl, rfl, rfl, rfl, rfl⟩) (fun h => absurd rfl h) rfl (Nat.le_of_ble_eq_true rfl) dX7_laysBest_189 192 rfl h (fun r_11 h => ?_)
        exact z_locals (ks := [0, 1, 2, 3, 4, 5, 6, 7]) rfl (p_X7_laysBest_J192 C r_11 x8 (hD.zaddr rfl) hrec K h)

def f_X7_laysBest_J128 (rec : (Int32 × (Nat → Nat → Int32)) → Option ((Nat → Nat → Int32))) (S0 : Nat → Nat → Int32) (v1 : Int32) (v2 : Int32) (v3 : Int32) (v4 : Int32) (v5 : Int32) (v7 : Int32) (x8 : Int32)  : Option ((Nat → Nat → Int32)) := f_X7_laysBest_J129 rec S0 v1 v2 v3 v4 v5 v7 x8 0
set_option maxHeartbeats 4000000 in
set_option maxRecDepth 100000 in
theorem p_X7_laysBest_J128 (C : zC p R s m args meth c cX7_laysBest 10 RX7 wsX7_laysBest D T 2 50 0 0) (S0 : Nat → Nat → Int32) {v1 : Int32} {v2 : Int32} {v3 : Int32} {v4 : Int32} {v5 : Int32} {v7 : Int32} (x8 : Int32)  (hD : va_D A (wX7 T a0 S0)) {rec : (Int32 × (Nat → Nat → Int32)) → Option ((Nat → Nat → Int32))} (hrec : ∀ (c0 : Int32) (c1 : Nat → Nat → Int32) (b : (Nat → Nat → Int32)), rec (c0, c1) = some b → (zt p l e R s m args below meth c 10 A D 0 0 Q (wX7 T a0 b) [(0, .ref (a0 99)), (1, .int v1), (2, .int v2), (3, .int v3), (5, .int v5)] 198 []) → zt p l e R s m args below meth c 10 A D 0 0 Q (wX7 T a0 c1) [(0, .ref (a0 99)), (1, .int v1), (2, .int v2), (3, .int v3), (4, .int v4), (5, .int v5), (7, .int v7), (8, .int c0)] 101 []) {b : (Nat → Nat → Int32)} (K : zt p l e R s m args below meth c 10 A D 0 0 Q (wX7 T a0 b) [(0, .ref (a0 99)), (1, .int v1), (2, .int v2), (3, .int v3), (5, .int v5)] 198 []) (h : f_X7_laysBest_J128 rec S0 v1 v2 v3 v4 v5 v7 x8 = some b) : zt p l e R s m args below meth c 10 A D 0 0 Q (wX7 T a0 S0) [(0, .ref (a0 99)), (1, .int v1), (2, .int v2), (3, .int v3), (4, .int v4), (5, .int v5), (7, .int v7), (8, .int x8)] 128 [] := by
  unfold f_X7_laysBest_J128 at h
  refine z_iconst C 0 dX7_laysBest_128 (by decide) 129 rfl ?_
  exact z_locals (ks := [0, 1, 2, 3, 4, 5, 6, 7]) rfl (p_X7_laysBest_J129 C S0 x8 0 (hD.zaddr rfl) hrec K h)

def f_X7_laysBest_L101b  (v1 : Int32) (v2 : Int32) (v3 : Int32) (v4 : Int32) (v5 : Int32) (v7 : Int32) (rec : (Int32 × (Nat → Nat → Int32)) → Option ((Nat → Nat → Int32))) (a : Int32 × (Nat → Nat → Int32)) : Option ((Nat → Nat → Int32)) := if v3 ≤ a.1 then (some a.2) else (if (a.1 &&& (v3 ^^^ (-1))) = 0 then (if (a.1 &&& v7) = 0 then (f_X7_laysBest_J128 rec a.2 v1 v2 v3 v4 v5 v7 a.1) else (f_X7_laysBest_J129 rec a.2 v1 v2 v3 v4 v5 v7 a.1 1)) else (f_X7_laysBest_J128 rec a.2 v1 v2 v3 v4 v5 v7 a.1))
def f_X7_laysBest_L101  (v1 : Int32) (v2 : Int32) (v3 : Int32) (v4 : Int32) (v5 : Int32) (v7 : Int32) : Nat → (Int32 × (Nat → Nat → Int32)) → Option ((Nat → Nat → Int32)) := zloop (fun rec a => f_X7_laysBest_L101b v1 v2 v3 v4 v5 v7 rec a)
set_option maxHeartbeats 4000000 in
set_option maxRecDepth 100000 in
theorem p_X7_laysBest_L101 (C : zC p R s m args meth c cX7_laysBest 10 RX7 wsX7_laysBest D T 2 50 0 0) (S0 : Nat → Nat → Int32) (v1 : Int32) (v2 : Int32) (v3 : Int32) (v4 : Int32) (v5 : Int32) (v7 : Int32) (hD : va_D A (wX7 T a0 S0)) : ∀ (n : Nat) (c0 : Int32) (c1 : Nat → Nat → Int32) (b : (Nat → Nat → Int32)), f_X7_laysBest_L101 v1 v2 v3 v4 v5 v7 n (c0, c1) = some b → (zt p l e R s m args below meth c 10 A D 0 0 Q (wX7 T a0 b) [(0, .ref (a0 99)), (1, .int v1), (2, .int v2), (3, .int v3), (5, .int v5)] 198 []) → zt p l e R s m args below meth c 10 A D 0 0 Q (wX7 T a0 c1) [(0, .ref (a0 99)), (1, .int v1), (2, .int v2), (3, .int v3), (4, .int v4), (5, .int v5), (7, .int v7), (8, .int c0)] 101 [] := by
  intro n c0 c1 b h K
  refine zloop_ind (P := fun a b => (zt p l e R s m args below meth c 10 A D 0 0 Q (wX7 T a0 b) [(0, .ref (a0 99)), (1, .int v1), (2, .int v2), (3, .int v3), (5, .int v5)] 198 []) → zt p l e R s m args below meth c 10 A D 0 0 Q (wX7 T a0 a.2) [(0, .ref (a0 99)), (1, .int v1), (2, .int v2), (3, .int v3), (4, .int v4), (5, .int v5), (7, .int v7), (8, .int a.1)] 101 []) ?_ n (c0, c1) b h K
  clear h K b c0 c1
  intro rec hrec a b h K
  have hrec : ∀ (c0 : Int32) (c1 : Nat → Nat → Int32) (b : (Nat → Nat → Int32)), rec (c0, c1) = some b → (zt p l e R s m args below meth c 10 A D 0 0 Q (wX7 T a0 b) [(0, .ref (a0 99)), (1, .int v1), (2, .int v2), (3, .int v3), (5, .int v5)] 198 []) → zt p l e R s m args below meth c 10 A D 0 0 Q (wX7 T a0 c1) [(0, .ref (a0 99)), (1, .int v1), (2, .int v2), (3, .int v3), (4, .int v4), (5, .int v5), (7, .int v7), (8, .int c0)] 101 [] := fun c0 c1 b h K => hrec (c0, c1) b h K
  unfold f_X7_laysBest_L101b at h
  refine z_iload C dX7_laysBest_101 7 rfl 103 rfl ?_
  refine z_iload_n C dX7_laysBest_103 rfl 3 rfl 104 rfl ?_
  refine z_icmp_ge C 198 dX7_laysBest_104 (by decide) 107 rfl h (fun h => ?_) (fun h => ?_)
  · refine z_locals (ks := [0, 1, 2, 3, 5]) (lv' := [(0, .ref (a0 99)), (1, .int v1), (2, .int v2), (3, .int v3), (5, .int v5)]) rfl ?_
    exact zex1 (F := (fun e0 => zt p l e R s m args below meth c 10 A D 0 0 Q (wX7 T a0 e0) [(0, .ref (a0 99)), (1, .int v1), (2, .int v2), (3, .int v3), (5, .int v5)] 198 [])) h K
  · refine z_iload C dX7_laysBest_107 7 rfl 109 rfl ?_
    refine z_iload_n C dX7_laysBest_109 rfl 3 rfl 110 rfl ?_
    refine z_iconst C (-1) dX7_laysBest_110 (by decide) 111 rfl ?_
    refine z_ixor C dX7_laysBest_111 112 rfl ?_
    refine z_iand C dX7_laysBest_112 113 rfl ?_
    refine z_if_ne C 128 dX7_laysBest_113 (by decide) 116 rfl h (fun h => ?_) (fun h => ?_)
    · exact z_locals (ks := [0, 1, 2, 3, 4, 5, 6, 7]) rfl (p_X7_laysBest_J128 C a.2 a.1 (hD.zaddr rfl) hrec K h)
    · refine z_iload C dX7_laysBest_116 7 rfl 118 rfl ?_
      refine z_iload C dX7_laysBest_118 6 rfl 120 rfl ?_
      refine z_iand C dX7_laysBest_120 121 rfl ?_
      refine z_if_eq C 128 dX7_laysBest_121 (by decide) 124 rfl h (fun h => ?_) (fun h => ?_)
      · exact z_locals (ks := [0, 1, 2, 3, 4, 5, 6, 7]) rfl (p_X7_laysBest_J128 C a.2 a.1 (hD.zaddr rfl) hrec K h)
      · refine z_iconst C 1 dX7_laysBest_124 (by decide) 125 rfl ?_
        refine z_goto C 129 dX7_laysBest_125 (by decide) ?_
        exact z_locals (ks := [0, 1, 2, 3, 4, 5, 6, 7]) rfl (p_X7_laysBest_J129 C a.2 a.1 1 (hD.zaddr rfl) hrec K h)

def f_X7_laysBest_L205b  (v3 : Int32) (v5 : Int32) (rec : (Int32 × (Nat → Nat → Int32)) → Option ((Nat → Nat → Int32))) (a : Int32 × (Nat → Nat → Int32)) : Option ((Nat → Nat → Int32)) := if (a.2 2 0) ≤ a.1 then (some a.2) else ((f_X7_offersFrom a.2 v5 v3 1 a.1 0 (1 + a.1)).bind fun r_18 => rec ((a.1 + 1), r_18))
def f_X7_laysBest_L205  (v3 : Int32) (v5 : Int32) : Nat → (Int32 × (Nat → Nat → Int32)) → Option ((Nat → Nat → Int32)) := zloop (fun rec a => f_X7_laysBest_L205b v3 v5 rec a)
set_option maxHeartbeats 4000000 in
set_option maxRecDepth 100000 in
theorem p_X7_laysBest_L205 (C : zC p R s m args meth c cX7_laysBest 10 RX7 wsX7_laysBest D T 2 50 0 0) (S0 : Nat → Nat → Int32) (v3 : Int32) (v5 : Int32) (hD : va_D A (wX7 T a0 S0)) : ∀ (n : Nat) (c0 : Int32) (c1 : Nat → Nat → Int32) (b : (Nat → Nat → Int32)), f_X7_laysBest_L205 v3 v5 n (c0, c1) = some b → (zt p l e R s m args below meth c 10 A D 0 0 Q (wX7 T a0 b) [] 235 []) → zt p l e R s m args below meth c 10 A D 0 0 Q (wX7 T a0 c1) [(0, .ref (a0 99)), (3, .int v3), (5, .int v5), (8, .int c0)] 205 [] := by
  intro n c0 c1 b h K
  refine zloop_ind (P := fun a b => (zt p l e R s m args below meth c 10 A D 0 0 Q (wX7 T a0 b) [] 235 []) → zt p l e R s m args below meth c 10 A D 0 0 Q (wX7 T a0 a.2) [(0, .ref (a0 99)), (3, .int v3), (5, .int v5), (8, .int a.1)] 205 []) ?_ n (c0, c1) b h K
  clear h K b c0 c1
  intro rec hrec a b h K
  have hrec : ∀ (c0 : Int32) (c1 : Nat → Nat → Int32) (b : (Nat → Nat → Int32)), rec (c0, c1) = some b → (zt p l e R s m args below meth c 10 A D 0 0 Q (wX7 T a0 b) [] 235 []) → zt p l e R s m args below meth c 10 A D 0 0 Q (wX7 T a0 c1) [(0, .ref (a0 99)), (3, .int v3), (5, .int v5), (8, .int c0)] 205 [] := fun c0 c1 b h K => hrec (c0, c1) b h K
  unfold f_X7_laysBest_L205b at h
  refine z_iload C dX7_laysBest_205 3 rfl 207 rfl ?_
  refine z_aload_n C dX7_laysBest_207 rfl 0 rfl 208 rfl ?_
  refine z_get C (in_X7_laysBest_X7) 0 rfl rfl 2 (by decide) (List.mem_of_getElem? (i := 5) rfl) rfl rfl dX7_laysBest_208 211 rfl ?_
  refine z_icmp_ge C 235 dX7_laysBest_211 (by decide) 214 rfl h (fun h => ?_) (fun h => ?_)
  · refine z_locals (ks := []) (lv' := []) rfl ?_
    exact zex1 (F := (fun e0 => zt p l e R s m args below meth c 10 A D 0 0 Q (wX7 T a0 e0) [] 235 [])) h K
  · refine z_aload_n C dX7_laysBest_214 rfl 0 rfl 215 rfl ?_
    refine z_iload C dX7_laysBest_215 2 rfl 217 rfl ?_
    refine z_iload_n C dX7_laysBest_217 rfl 1 rfl 218 rfl ?_
    refine z_iconst C 1 dX7_laysBest_218 (by decide) 219 rfl ?_
    refine z_iload C dX7_laysBest_219 3 rfl 221 rfl ?_
    refine z_iconst C 0 dX7_laysBest_221 (by decide) 222 rfl ?_
    refine z_iconst C 1 dX7_laysBest_222 (by decide) 223 rfl ?_
    refine z_iload C dX7_laysBest_223 3 rfl 225 rfl ?_
    refine z_iadd C dX7_laysBest_225 226 rfl ?_
    refine z_callV C (wX7 T a0 a.2) (([] : va_W)) (fun z => wX7 T a0 z) (fun z => wX7 T a0 z) (fun z h => c_X7_offersFrom l D T a0  a.2 v5 v3 1 a.1 0 (1 + a.1) z h) ⟨rfl, rfl⟩ (z_cwV C 6 gX7_laysBest_X7_offersFrom rfl rfl dd_X7_offersFrom ⟨(Nat.le_of_ble_eq_true rfl), (Nat.le_of_ble_eq_true rfl)⟩) (hD.zaddr rfl) [0, 1, 2, 3, 4, 5, 6, 7, 8, 9, 10, 11, 12, 13, 14, 15, 16, 17] [] [0, 1, 2, 3, 4, 5, 6, 7, 8, 9, 10, 11, 12, 13, 14, 15, 16, 17] rfl rfl rfl (by decide) (fun _ => rfl) (fun _ => ⟨a0 99, [.int v5, .int v3, .int 1, .int a.1, .int 0, .int (1 + a.1)], 6, 0, _, _, rfl, rfl, rfl, rfl, rfl⟩) (fun h => absurd rfl h) rfl (Nat.le_of_ble_eq_true rfl) dX7_laysBest_226 229 rfl h (fun r_18 h => ?_)
    refine z_iinc C (a.1 + 1) [(0, .ref (a0 99)), (3, .int v3), (5, .int v5), (8, .int (a.1 + 1))] dX7_laysBest_229 3 rfl rfl (Nat.le_of_ble_eq_true rfl) [1, 2, 3, 0] rfl 232 rfl ?_
    refine z_goto C 205 dX7_laysBest_232 (by decide) ?_
    exact z_locals (ks := [0, 1, 2, 3]) rfl (hrec _ _ _ h K)

def f_X7_laysBest_J91 (S0 : Nat → Nat → Int32) (x1 : Int32) (x2 : Int32) (x3 : Int32) (x4 : Int32) (x5 : Int32)  : Option ((Nat → Nat → Int32)) := zlet (x3 &&& (-x3)) fun u_6 => (f_X7_laysBest_L101 x1 x2 x3 x4 x5 u_6 zfuel (u_6, S0)).bind fun y_12 => if x1 = 0 then ((f_X7_laysBest_L205 x3 x5 zfuel (0, y_12)).bind fun y_19 => some y_19) else (if (y_12 1 0) ≤ x1 then (some y_12) else ((f_X7_offersFrom y_12 x5 x3 (x1 + 1) x2 0 1).bind fun r_13 => (f_X7_around r_13 (x2 - 1)).bind fun r_14 => (f_X7_offersFrom r_13 x5 x3 (x1 + 1) r_14 2 2).bind fun r_15 => (f_X7_around r_15 (x2 + 1)).bind fun r_16 => (f_X7_offersFrom r_15 x5 x3 (x1 + 1) r_16 1 3).bind fun r_17 => some r_17))
set_option maxHeartbeats 4000000 in
set_option maxRecDepth 100000 in
theorem p_X7_laysBest_J91 {w0 : va_W} (C : zC p R s m args meth c cX7_laysBest 10 RX7 wsX7_laysBest D T 2 50 0 0) (hr : meth.sig.returnType = none) (S0 : Nat → Nat → Int32) (x1 : Int32) (x2 : Int32) (x3 : Int32) (x4 : Int32) (x5 : Int32)  (hD : va_D (zA w0) (wX7 T a0 S0)) {ex : (Nat → Nat → Int32)} (h : f_X7_laysBest_J91 S0 x1 x2 x3 x4 x5 = some ex) : zt p l e R s m args below meth c 10 (zA w0) D 0 0 (MQ below (zQV D w0 (wX7 T a0 ex)) args s 0 0 (zA w0)) (wX7 T a0 S0) [(0, .ref (a0 99)), (1, .int x1), (2, .int x2), (3, .int x3), (4, .int x4), (5, .int x5)] 91 [] := by
  unfold f_X7_laysBest_J91 at h
  refine z_iload_n C dX7_laysBest_91 rfl 3 rfl 92 rfl ?_
  refine z_iload_n C dX7_laysBest_92 rfl 3 rfl 93 rfl ?_
  refine z_ineg C dX7_laysBest_93 94 rfl ?_
  refine z_iand C dX7_laysBest_94 95 rfl ?_
  refine z_top h (fun u_6 h => ?_)
  refine z_istore C [(0, .ref (a0 99)), (1, .int x1), (2, .int x2), (3, .int x3), (4, .int x4), (5, .int x5), (7, .int u_6)] dX7_laysBest_95 (Nat.le_of_ble_eq_true rfl) [1, 2, 3, 4, 5, 6, 0] rfl 97 rfl ?_
  refine z_iload C dX7_laysBest_97 6 rfl 99 rfl ?_
  refine z_istore C [(0, .ref (a0 99)), (1, .int x1), (2, .int x2), (3, .int x3), (4, .int x4), (5, .int x5), (7, .int u_6), (8, .int u_6)] dX7_laysBest_99 (Nat.le_of_ble_eq_true rfl) [1, 2, 3, 4, 5, 6, 7, 0] rfl 101 rfl ?_
  obtain ⟨y_12, hl_y_12, h⟩ := Option.bind_eq_some_iff.mp h
  refine z_locals (ks := [0, 1, 2, 3, 4, 5, 6, 7]) rfl (p_X7_laysBest_L101 C S0 x1 x2 x3 x4 x5 u_6 (hD.zaddr rfl) _ _ _ _ hl_y_12 ?_)
  refine z_iload_n C dX7_laysBest_198 rfl 1 rfl 199 rfl ?_
  refine z_if_ne C 238 dX7_laysBest_199 (by decide) 202 rfl h (fun h => ?_) (fun h => ?_)
  · refine z_iload_n C dX7_laysBest_238 rfl 1 rfl 239 rfl ?_
    refine z_aload_n C dX7_laysBest_239 rfl 0 rfl 240 rfl ?_
    refine z_get C (in_X7_laysBest_X7) 0 rfl rfl 1 (by decide) (List.mem_of_getElem? (i := 6) rfl) rfl rfl dX7_laysBest_240 243 rfl ?_
    refine z_icmp_ge C 297 dX7_laysBest_243 (by decide) 246 rfl h (fun h => ?_) (fun h => ?_)
    · exact z_vretW (x := y_12) (ex := ex) (fun z => wX7 T a0 z) C hr dX7_laysBest_297 h rfl
    · refine z_aload_n C dX7_laysBest_246 rfl 0 rfl 247 rfl ?_
      refine z_iload C dX7_laysBest_247 4 rfl 249 rfl ?_
      refine z_iload_n C dX7_laysBest_249 rfl 3 rfl 250 rfl ?_
      refine z_iload_n C dX7_laysBest_250 rfl 1 rfl 251 rfl ?_
      refine z_iconst C 1 dX7_laysBest_251 (by decide) 252 rfl ?_
      refine z_iadd C dX7_laysBest_252 253 rfl ?_
      refine z_iload_n C dX7_laysBest_253 rfl 2 rfl 254 rfl ?_
      refine z_iconst C 0 dX7_laysBest_254 (by decide) 255 rfl ?_
      refine z_iconst C 1 dX7_laysBest_255 (by decide) 256 rfl ?_
      refine z_callV C (wX7 T a0 y_12) (([] : va_W)) (fun z => wX7 T a0 z) (fun z => wX7 T a0 z) (fun z h => c_X7_offersFrom l D T a0  y_12 x5 x3 (x1 + 1) x2 0 1 z h) ⟨rfl, rfl⟩ (z_cwV C 6 gX7_laysBest_X7_offersFrom rfl rfl dd_X7_offersFrom ⟨(Nat.le_of_ble_eq_true rfl), (Nat.le_of_ble_eq_true rfl)⟩) (hD.zaddr rfl) [0, 1, 2, 3, 4, 5, 6, 7, 8, 9, 10, 11, 12, 13, 14, 15, 16, 17] [] [0, 1, 2, 3, 4, 5, 6, 7, 8, 9, 10, 11, 12, 13, 14, 15, 16, 17] rfl rfl rfl (by decide) (fun _ => rfl) (fun _ => ⟨a0 99, [.int x5, .int x3, .int (x1 + 1), .int x2, .int 0, .int 1], 6, 0, _, _, rfl, rfl, rfl, rfl, rfl⟩) (fun h => absurd rfl h) rfl (Nat.le_of_ble_eq_true rfl) dX7_laysBest_256 259 rfl h (fun r_13 h => ?_)
      refine z_aload_n C dX7_laysBest_259 rfl 0 rfl 260 rfl ?_
      refine z_iload C dX7_laysBest_260 4 rfl 262 rfl ?_
      refine z_iload_n C dX7_laysBest_262 rfl 3 rfl 263 rfl ?_
      refine z_iload_n C dX7_laysBest_263 rfl 1 rfl 264 rfl ?_
      refine z_iconst C 1 dX7_laysBest_264 (by decide) 265 rfl ?_
      refine z_iadd C dX7_laysBest_265 266 rfl ?_
      refine z_aload_n C dX7_laysBest_266 rfl 0 rfl 267 rfl ?_
      refine z_iload_n C dX7_laysBest_267 rfl 2 rfl 268 rfl ?_
      refine z_iconst C 1 dX7_laysBest_268 (by decide) 269 rfl ?_
      refine z_isub C dX7_laysBest_269 270 rfl ?_
      refine z_callR C (wX7 T a0 r_13) (fun v h => c_X7_around l D T a0  r_13 (x2 - 1) v h) ⟨rfl, rfl⟩ (z_cwV C 1 gX7_laysBest_X7_around rfl rfl dd_X7_around ⟨(Nat.le_of_ble_eq_true rfl), (Nat.le_of_ble_eq_true rfl)⟩) (hD.zaddr rfl) [0, 1, 2, 3, 4, 5, 6, 7, 8, 9, 10, 11, 12, 13, 14, 15, 16, 17] rfl rfl (fun _ => ⟨a0 99, [.int (x2 - 1)], 6, 0, _, _, rfl, rfl, rfl, rfl, rfl⟩) (fun h => absurd rfl h) rfl (Nat.le_of_ble_eq_true rfl) dX7_laysBest_270 273 rfl h (fun r_14 h => ?_)
      refine z_iconst C 2 dX7_laysBest_273 (by decide) 274 rfl ?_
      refine z_iconst C 2 dX7_laysBest_274 (by decide) 275 rfl ?_
      refine z_callV C (wX7 T a0 r_13) (([] : va_W)) (fun z => wX7 T a0 z) (fun z => wX7 T a0 z) (fun z h => c_X7_offersFrom l D T a0  r_13 x5 x3 (x1 + 1) r_14 2 2 z h) ⟨rfl, rfl⟩ (z_cwV C 6 gX7_laysBest_X7_offersFrom rfl rfl dd_X7_offersFrom ⟨(Nat.le_of_ble_eq_true rfl), (Nat.le_of_ble_eq_true rfl)⟩) (hD.zaddr rfl) [0, 1, 2, 3, 4, 5, 6, 7, 8, 9, 10, 11, 12, 13, 14, 15, 16, 17] [] [0, 1, 2, 3, 4, 5, 6, 7, 8, 9, 10, 11, 12, 13, 14, 15, 16, 17] rfl rfl rfl (by decide) (fun _ => rfl) (fun _ => ⟨a0 99, [.int x5, .int x3, .int (x1 + 1), .int r_14, .int 2, .int 2], 6, 0, _, _, rfl, rfl, rfl, rfl, rfl⟩) (fun h => absurd rfl h) rfl (Nat.le_of_ble_eq_true rfl) dX7_laysBest_275 278 rfl h (fun r_15 h => ?_)
      refine z_aload_n C dX7_laysBest_278 rfl 0 rfl 279 rfl ?_
      refine z_iload C dX7_laysBest_279 4 rfl 281 rfl ?_
      refine z_iload_n C dX7_laysBest_281 rfl 3 rfl 282 rfl ?_
      refine z_iload_n C dX7_laysBest_282 rfl 1 rfl 283 rfl ?_
      refine z_iconst C 1 dX7_laysBest_283 (by decide) 284 rfl ?_
      refine z_iadd C dX7_laysBest_284 285 rfl ?_
      refine z_aload_n C dX7_laysBest_285 rfl 0 rfl 286 rfl ?_
      refine z_iload_n C dX7_laysBest_286 rfl 2 rfl 287 rfl ?_
      refine z_iconst C 1 dX7_laysBest_287 (by decide) 288 rfl ?_
      refine z_iadd C dX7_laysBest_288 289 rfl ?_
      refine z_callR C (wX7 T a0 r_15) (fun v h => c_X7_around l D T a0  r_15 (x2 + 1) v h) ⟨rfl, rfl⟩ (z_cwV C 1 gX7_laysBest_X7_around rfl rfl dd_X7_around ⟨(Nat.le_of_ble_eq_true rfl), (Nat.le_of_ble_eq_true rfl)⟩) (hD.zaddr rfl) [0, 1, 2, 3, 4, 5, 6, 7, 8, 9, 10, 11, 12, 13, 14, 15, 16, 17] rfl rfl (fun _ => ⟨a0 99, [.int (x2 + 1)], 6, 0, _, _, rfl, rfl, rfl, rfl, rfl⟩) (fun h => absurd rfl h) rfl (Nat.le_of_ble_eq_true rfl) dX7_laysBest_289 292 rfl h (fun r_16 h => ?_)
      refine z_iconst C 1 dX7_laysBest_292 (by decide) 293 rfl ?_
      refine z_iconst C 3 dX7_laysBest_293 (by decide) 294 rfl ?_
      refine z_callV C (wX7 T a0 r_15) (([] : va_W)) (fun z => wX7 T a0 z) (fun z => wX7 T a0 z) (fun z h => c_X7_offersFrom l D T a0  r_15 x5 x3 (x1 + 1) r_16 1 3 z h) ⟨rfl, rfl⟩ (z_cwV C 6 gX7_laysBest_X7_offersFrom rfl rfl dd_X7_offersFrom ⟨(Nat.le_of_ble_eq_true rfl), (Nat.le_of_ble_eq_true rfl)⟩) (hD.zaddr rfl) [0, 1, 2, 3, 4, 5, 6, 7, 8, 9, 10, 11, 12, 13, 14, 15, 16, 17] [] [0, 1, 2, 3, 4, 5, 6, 7, 8, 9, 10, 11, 12, 13, 14, 15, 16, 17] rfl rfl rfl (by decide) (fun _ => rfl) (fun _ => ⟨a0 99, [.int x5, .int x3, .int (x1 + 1), .int r_16, .int 1, .int 3], 6, 0, _, _, rfl, rfl, rfl, rfl, rfl⟩) (fun h => absurd rfl h) rfl (Nat.le_of_ble_eq_true rfl) dX7_laysBest_294 297 rfl h (fun r_17 h => ?_)
      exact z_vretW (x := r_17) (ex := ex) (fun z => wX7 T a0 z) C hr dX7_laysBest_297 h rfl
  · refine z_iconst C 0 dX7_laysBest_202 (by decide) 203 rfl ?_
    refine z_istore C [(0, .ref (a0 99)), (1, .int x1), (2, .int x2), (3, .int x3), (5, .int x5), (8, .int 0)] dX7_laysBest_203 (Nat.le_of_ble_eq_true rfl) [1, 2, 3, 4, 5, 0] rfl 205 rfl ?_
    obtain ⟨y_19, hl_y_19, h⟩ := Option.bind_eq_some_iff.mp h
    refine z_locals (ks := [0, 3, 4, 5]) rfl (p_X7_laysBest_L205 C y_12 x3 x5 (hD.zaddr rfl) _ _ _ _ hl_y_19 ?_)
    refine z_goto C 297 dX7_laysBest_235 (by decide) ?_
    exact z_vretW (x := y_19) (ex := ex) (fun z => wX7 T a0 z) C hr dX7_laysBest_297 h rfl

def f_X7_laysBest_J49 (S0 : Nat → Nat → Int32) (x1 : Int32) (x2 : Int32) (x3 : Int32) (x4 : Int32) (x5 : Int32)  : Option ((Nat → Nat → Int32)) := (f_X7_placeAt S0 x1 x2).bind fun r_5 => if x1 ≤ 0 then (f_X7_laysBest_J91 S0 x1 x2 x3 x4 x5) else (if r_5 < 0 then (f_X7_laysBest_J91 S0 x1 x2 x3 x4 x5) else (if x3 = (1 <<< (r_5 &&& 31)) then (zix x5 30720 fun j => zlet (zst S0 28 j 0) fun S0_20 => zix x5 30720 fun j => zlet (zst S0_20 29 j 0) fun S0_21 => some S0_21) else (f_X7_laysBest_J91 S0 x1 x2 x3 x4 x5)))
set_option maxHeartbeats 4000000 in
set_option maxRecDepth 100000 in
theorem p_X7_laysBest_J49 {w0 : va_W} (C : zC p R s m args meth c cX7_laysBest 10 RX7 wsX7_laysBest D T 2 50 0 0) (hr : meth.sig.returnType = none) (S0 : Nat → Nat → Int32) (x1 : Int32) (x2 : Int32) (x3 : Int32) (x4 : Int32) (x5 : Int32)  (hD : va_D (zA w0) (wX7 T a0 S0)) {ex : (Nat → Nat → Int32)} (h : f_X7_laysBest_J49 S0 x1 x2 x3 x4 x5 = some ex) : zt p l e R s m args below meth c 10 (zA w0) D 0 0 (MQ below (zQV D w0 (wX7 T a0 ex)) args s 0 0 (zA w0)) (wX7 T a0 S0) [(0, .ref (a0 99)), (1, .int x1), (2, .int x2), (3, .int x3), (4, .int x4), (5, .int x5)] 49 [] := by
  unfold f_X7_laysBest_J49 at h
  refine z_aload_n C dX7_laysBest_49 rfl 0 rfl 50 rfl ?_
  refine z_iload_n C dX7_laysBest_50 rfl 1 rfl 51 rfl ?_
  refine z_iload_n C dX7_laysBest_51 rfl 2 rfl 52 rfl ?_
  refine z_callR C (wX7 T a0 S0) (fun v h => c_X7_placeAt l D T a0  S0 x1 x2 v h) ⟨rfl, rfl⟩ (z_cwV C 2 gX7_laysBest_X7_placeAt rfl rfl dd_X7_placeAt ⟨(Nat.le_of_ble_eq_true rfl), (Nat.le_of_ble_eq_true rfl)⟩) (hD.zaddr rfl) [0, 1, 2, 3, 4, 5, 6, 7, 8, 9, 10, 11, 12, 13, 14, 15, 16, 17] rfl rfl (fun _ => ⟨a0 99, [.int x1, .int x2], 6, 0, _, _, rfl, rfl, rfl, rfl, rfl⟩) (fun h => absurd rfl h) rfl (Nat.le_of_ble_eq_true rfl) dX7_laysBest_52 55 rfl h (fun r_5 h => ?_)
  refine z_istore C [(0, .ref (a0 99)), (1, .int x1), (2, .int x2), (3, .int x3), (4, .int x4), (5, .int x5), (6, .int r_5)] dX7_laysBest_55 (Nat.le_of_ble_eq_true rfl) [1, 2, 3, 4, 5, 6, 0] rfl 57 rfl ?_
  refine z_iload_n C dX7_laysBest_57 rfl 1 rfl 58 rfl ?_
  refine z_if_le C 91 dX7_laysBest_58 (by decide) 61 rfl h (fun h => ?_) (fun h => ?_)
  · exact z_locals (ks := [0, 1, 2, 3, 4, 5]) rfl (p_X7_laysBest_J91 C hr S0 x1 x2 x3 x4 x5 (hD.zaddr rfl) h)
  · refine z_iload C dX7_laysBest_61 6 rfl 63 rfl ?_
    refine z_if_lt C 91 dX7_laysBest_63 (by decide) 66 rfl h (fun h => ?_) (fun h => ?_)
    · exact z_locals (ks := [0, 1, 2, 3, 4, 5]) rfl (p_X7_laysBest_J91 C hr S0 x1 x2 x3 x4 x5 (hD.zaddr rfl) h)
    · refine z_iload_n C dX7_laysBest_66 rfl 3 rfl 67 rfl ?_
      refine z_iconst C 1 dX7_laysBest_67 (by decide) 68 rfl ?_
      refine z_iload C dX7_laysBest_68 6 rfl 70 rfl ?_
      refine z_ishl C dX7_laysBest_70 71 rfl ?_
      refine z_icmp_ne C 91 dX7_laysBest_71 (by decide) 74 rfl h (fun h => ?_) (fun h => ?_)
      · exact z_locals (ks := [0, 1, 2, 3, 4, 5]) rfl (p_X7_laysBest_J91 C hr S0 x1 x2 x3 x4 x5 (hD.zaddr rfl) h)
      · refine z_aload_n C dX7_laysBest_74 rfl 0 rfl 75 rfl ?_
        refine z_get C (in_X7_laysBest_X7) 0 rfl rfl 28 (by decide) (List.mem_of_getElem? (i := 1) rfl) rfl rfl dX7_laysBest_75 78 rfl ?_
        refine z_iload C dX7_laysBest_78 5 rfl 80 rfl ?_
        refine z_iconst C 0 dX7_laysBest_80 (by decide) 81 rfl ?_
        refine z_iast C (fun z => wX7 T a0 z) S0 28 (hD.zaddr rfl) 11 rfl rfl (fun _ => rfl) dX7_laysBest_81 82 rfl h (fun S0_20 h => ?_)
        refine z_aload_n C dX7_laysBest_82 rfl 0 rfl 83 rfl ?_
        refine z_get C (in_X7_laysBest_X7) 0 rfl rfl 29 (by decide) (List.mem_of_getElem? (i := 3) rfl) rfl rfl dX7_laysBest_83 86 rfl ?_
        refine z_iload C dX7_laysBest_86 5 rfl 88 rfl ?_
        refine z_iconst C 0 dX7_laysBest_88 (by decide) 89 rfl ?_
        refine z_iast C (fun z => wX7 T a0 z) S0_20 29 (hD.zaddr rfl) 12 rfl rfl (fun _ => rfl) dX7_laysBest_89 90 rfl h (fun S0_21 h => ?_)
        exact z_vretW (x := S0_21) (ex := ex) (fun z => wX7 T a0 z) C hr dX7_laysBest_90 h rfl

def f_X7_laysBest (S0 : Nat → Nat → Int32) (v1 : Int32) (v2 : Int32) (v3 : Int32) : Option ((Nat → Nat → Int32)) := (f_X7_cell v1 v2).bind fun r_1 => zlet ((128 * r_1) + v3) fun u_2 => zix u_2 30720 fun j => zlet (zst S0 28 j 1000000000) fun S0_3 => zix u_2 30720 fun j => zlet (zst S0_3 29 j (-1)) fun S0_4 => if v1 ≤ 0 then (f_X7_laysBest_J49 S0_4 v1 v2 v3 r_1 u_2) else (zix r_1 240 fun _ => if (S0_4 10 (Int32.toNatClampNeg r_1)) = 0 then (f_X7_laysBest_J49 S0_4 v1 v2 v3 r_1 u_2) else (some S0_4))
theorem dd_X7_laysBest : RX7 ≠ "java/lang/invoke/MethodHandle" ∧ RX7 ≠ "java/lang/invoke/VarHandle" ∧ (parseMethodDescriptor yX7_laysBest.desc).map (fun d => d.parameters.length) = some 3 := by decide +kernel
set_option maxHeartbeats 4000000 in
set_option maxRecDepth 100000 in
theorem c_X7_laysBest (l : Launch) (D : va_G) (T : Nat → ClassId) (a0 : Nat → Nat) (S0 : Nat → Nat → Int32) (v1 : Int32) (v2 : Int32) (v3 : Int32) (ex : (Nat → Nat → Int32)) (h : f_X7_laysBest S0 v1 v2 v3 = some ex) : zWV l yX7_laysBest wsX7_laysBest ({ frames := 2, cells := 0, slots := 0, locals := 50 } : Room) D T [.ref (a0 99), .int v1, .int v2, .int v3] (wX7 T a0 S0) (wX7 T a0 ex) := by
  refine z_begin (cc := cX7_laysBest) (nL := 10) (own := RX7) (fr := 2) (lc := 50) (ret := none) (by decide) rfl (Nat.le_of_ble_eq_true rfl) (zA (wX7 T a0 S0)) rfl [(0, .ref (a0 99)), (1, .int v1), (2, .int v2), (3, .int v3)] rfl ⟨rfl, rfl⟩ rfl ?_
  intro p e s m args below meth c C hr hD
  have hD := hD.zself
  unfold f_X7_laysBest at h
  refine z_iload_n C dX7_laysBest_0 rfl 1 rfl 1 rfl ?_
  refine z_iload_n C dX7_laysBest_1 rfl 2 rfl 2 rfl ?_
  refine z_callR C ([]) (fun v h => c_X7_cell l D T    v1 v2 v h) ⟨rfl, rfl⟩ (z_cwS C 2 gX7_laysBest_X7_cell rfl dd_X7_cell ⟨(Nat.le_of_ble_eq_true rfl), (Nat.le_of_ble_eq_true rfl)⟩) (hD.zaddr rfl) [] rfl rfl (fun h => absurd h (by decide)) (fun _ => rfl) rfl (Nat.le_of_ble_eq_true rfl) dX7_laysBest_2 5 rfl h (fun r_1 h => ?_)
  refine z_istore C [(0, .ref (a0 99)), (1, .int v1), (2, .int v2), (3, .int v3), (4, .int r_1)] dX7_laysBest_5 (Nat.le_of_ble_eq_true rfl) [1, 2, 3, 4, 0] rfl 7 rfl ?_
  refine z_sipush C 128 dX7_laysBest_7 (by decide) 10 rfl ?_
  refine z_iload C dX7_laysBest_10 4 rfl 12 rfl ?_
  refine z_imul C dX7_laysBest_12 13 rfl ?_
  refine z_iload_n C dX7_laysBest_13 rfl 3 rfl 14 rfl ?_
  refine z_iadd C dX7_laysBest_14 15 rfl ?_
  refine z_top h (fun u_2 h => ?_)
  refine z_istore C [(0, .ref (a0 99)), (1, .int v1), (2, .int v2), (3, .int v3), (4, .int r_1), (5, .int u_2)] dX7_laysBest_15 (Nat.le_of_ble_eq_true rfl) [1, 2, 3, 4, 5, 0] rfl 17 rfl ?_
  refine z_aload_n C dX7_laysBest_17 rfl 0 rfl 18 rfl ?_
  refine z_get C (in_X7_laysBest_X7) 0 rfl rfl 28 (by decide) (List.mem_of_getElem? (i := 1) rfl) rfl rfl dX7_laysBest_18 21 rfl ?_
  refine z_iload C dX7_laysBest_21 5 rfl 23 rfl ?_
  refine z_ldc C 1000000000 (List.mem_of_getElem? (i := 2) rfl) dX7_laysBest_23 25 rfl ?_
  refine z_iast C (fun z => wX7 T a0 z) S0 28 (hD.zaddr rfl) 11 rfl rfl (fun _ => rfl) dX7_laysBest_25 26 rfl h (fun S0_3 h => ?_)
  refine z_aload_n C dX7_laysBest_26 rfl 0 rfl 27 rfl ?_
  refine z_get C (in_X7_laysBest_X7) 0 rfl rfl 29 (by decide) (List.mem_of_getElem? (i := 3) rfl) rfl rfl dX7_laysBest_27 30 rfl ?_
  refine z_iload C dX7_laysBest_30 5 rfl 32 rfl ?_
  refine z_iconst C (-1) dX7_laysBest_32 (by decide) 33 rfl ?_
  refine z_iast C (fun z => wX7 T a0 z) S0_3 29 (hD.zaddr rfl) 12 rfl rfl (fun _ => rfl) dX7_laysBest_33 34 rfl h (fun S0_4 h => ?_)
  refine z_iload_n C dX7_laysBest_34 rfl 1 rfl 35 rfl ?_
  refine z_if_le C 49 dX7_laysBest_35 (by decide) 38 rfl h (fun h => ?_) (fun h => ?_)
  · exact z_locals (ks := [0, 1, 2, 3, 4, 5]) rfl (p_X7_laysBest_J49 C hr S0_4 v1 v2 v3 r_1 u_2 (hD.zaddr rfl) h)
  · refine z_aload_n C dX7_laysBest_38 rfl 0 rfl 39 rfl ?_
    refine z_get C (in_X7_laysBest_X7) 0 rfl rfl 10 (by decide) (List.mem_of_getElem? (i := 4) rfl) rfl rfl dX7_laysBest_39 42 rfl ?_
    refine z_iload C dX7_laysBest_42 4 rfl 44 rfl ?_
    refine z_zald C 4 rfl rfl dX7_laysBest_44 45 rfl h (fun h => ?_)
    refine z_if_eq C 49 dX7_laysBest_45 (by decide) 48 rfl h (fun h => ?_) (fun h => ?_)
    · exact z_locals (ks := [0, 1, 2, 3, 4, 5]) rfl (p_X7_laysBest_J49 C hr S0_4 v1 v2 v3 r_1 u_2 (hD.zaddr rfl) h)
    · exact z_vretW (x := S0_4) (ex := ex) (fun z => wX7 T a0 z) C hr dX7_laysBest_48 h rfl

end
/-! StreamTreeModel.laysAllBest ()V -/
section
variable {p : Program} {l : Launch} {e : Env} {R : Room} {s : State} {m : MethodId} {args : Array Value} {below : List Frame} {meth : Method} {c : Code} {Q : State → Prop} {A : Nat → Prop} {D : va_G} {T : Nat → ClassId} {a0 : Nat → Nat}
theorem in_X7_laysAllBest_X7 : ∀ w ∈ u_ws RX7 TX7 35, w ∈ wsX7_laysAllBest := fun _ h => (List.mem_cons_of_mem _ (List.mem_append_right _ h))
def f_X7_laysAllBest_J52 (rec : (Int32 × (Nat → Nat → Int32)) → Option ((Nat → Nat → Int32))) (S0 : Nat → Nat → Int32) (v1 : Int32) (x2 : Int32) (k1 : Int32) (k2 : Int32) (k3 : Int32) : Option ((Nat → Nat → Int32)) := zix k1 128 fun j => zlet (zst S0 30 j (k2 + k3)) fun S0_2 => rec ((x2 + 1), S0_2)
set_option maxHeartbeats 4000000 in
set_option maxRecDepth 100000 in
theorem p_X7_laysAllBest_J52 (C : zC p R s m args meth c cX7_laysAllBest 4 RX7 wsX7_laysAllBest D T 3 79 0 0) (S0 : Nat → Nat → Int32) {v1 : Int32} (x2 : Int32) (k1 : Int32) (k2 : Int32) (k3 : Int32) (hD : va_D A (wX7 T a0 S0)) {rec : (Int32 × (Nat → Nat → Int32)) → Option ((Nat → Nat → Int32))} (hrec : ∀ (c0 : Int32) (c1 : Nat → Nat → Int32) (b : (Nat → Nat → Int32)), rec (c0, c1) = some b → (zt p l e R s m args below meth c 4 A D 0 0 Q (wX7 T a0 b) [(0, .ref (a0 99)), (1, .int v1)] 60 []) → zt p l e R s m args below meth c 4 A D 0 0 Q (wX7 T a0 c1) [(0, .ref (a0 99)), (1, .int v1), (2, .int c0)] 18 []) {b : (Nat → Nat → Int32)} (K : zt p l e R s m args below meth c 4 A D 0 0 Q (wX7 T a0 b) [(0, .ref (a0 99)), (1, .int v1)] 60 []) (h : f_X7_laysAllBest_J52 rec S0 v1 x2 k1 k2 k3 = some b) : zt p l e R s m args below meth c 4 A D 0 0 Q (wX7 T a0 S0) [(0, .ref (a0 99)), (1, .int v1), (2, .int x2)] 52 [.int k3, .int k2, .int k1, .ref (a0 30)] := by
  unfold f_X7_laysAllBest_J52 at h
  refine z_iadd C dX7_laysAllBest_52 53 rfl ?_
  refine z_iast C (fun z => wX7 T a0 z) S0 30 (hD.zaddr rfl) 13 rfl rfl (fun _ => rfl) dX7_laysAllBest_53 54 rfl h (fun S0_2 h => ?_)
  refine z_iinc C (x2 + 1) [(0, .ref (a0 99)), (1, .int v1), (2, .int (x2 + 1))] dX7_laysAllBest_54 2 rfl rfl (Nat.le_of_ble_eq_true rfl) [1, 2, 0] rfl 57 rfl ?_
  refine z_goto C 18 dX7_laysAllBest_57 (by decide) ?_
  exact z_locals (ks := [0, 1, 2]) rfl (hrec _ _ _ h K)

def f_X7_laysAllBest_L18b  (v1 : Int32) (rec : (Int32 × (Nat → Nat → Int32)) → Option ((Nat → Nat → Int32))) (a : Int32 × (Nat → Nat → Int32)) : Option ((Nat → Nat → Int32)) := if (a.2 9 0) ≤ a.1 then (some a.2) else (zix v1 128 fun _ => if ((v1 >>> (a.1 &&& 31)) &&& 1) = 1 then (zix a.1 8 fun _ => f_X7_laysAllBest_J52 rec a.2 v1 a.1 v1 (a.2 30 (Int32.toNatClampNeg v1)) (a.2 8 (Int32.toNatClampNeg a.1))) else (f_X7_laysAllBest_J52 rec a.2 v1 a.1 v1 (a.2 30 (Int32.toNatClampNeg v1)) 0))
def f_X7_laysAllBest_L18  (v1 : Int32) : Nat → (Int32 × (Nat → Nat → Int32)) → Option ((Nat → Nat → Int32)) := zloop (fun rec a => f_X7_laysAllBest_L18b v1 rec a)
set_option maxHeartbeats 4000000 in
set_option maxRecDepth 100000 in
theorem p_X7_laysAllBest_L18 (C : zC p R s m args meth c cX7_laysAllBest 4 RX7 wsX7_laysAllBest D T 3 79 0 0) (S0 : Nat → Nat → Int32) (v1 : Int32) (hD : va_D A (wX7 T a0 S0)) : ∀ (n : Nat) (c0 : Int32) (c1 : Nat → Nat → Int32) (b : (Nat → Nat → Int32)), f_X7_laysAllBest_L18 v1 n (c0, c1) = some b → (zt p l e R s m args below meth c 4 A D 0 0 Q (wX7 T a0 b) [(0, .ref (a0 99)), (1, .int v1)] 60 []) → zt p l e R s m args below meth c 4 A D 0 0 Q (wX7 T a0 c1) [(0, .ref (a0 99)), (1, .int v1), (2, .int c0)] 18 [] := by
  intro n c0 c1 b h K
  refine zloop_ind (P := fun a b => (zt p l e R s m args below meth c 4 A D 0 0 Q (wX7 T a0 b) [(0, .ref (a0 99)), (1, .int v1)] 60 []) → zt p l e R s m args below meth c 4 A D 0 0 Q (wX7 T a0 a.2) [(0, .ref (a0 99)), (1, .int v1), (2, .int a.1)] 18 []) ?_ n (c0, c1) b h K
  clear h K b c0 c1
  intro rec hrec a b h K
  have hrec : ∀ (c0 : Int32) (c1 : Nat → Nat → Int32) (b : (Nat → Nat → Int32)), rec (c0, c1) = some b → (zt p l e R s m args below meth c 4 A D 0 0 Q (wX7 T a0 b) [(0, .ref (a0 99)), (1, .int v1)] 60 []) → zt p l e R s m args below meth c 4 A D 0 0 Q (wX7 T a0 c1) [(0, .ref (a0 99)), (1, .int v1), (2, .int c0)] 18 [] := fun c0 c1 b h K => hrec (c0, c1) b h K
  unfold f_X7_laysAllBest_L18b at h
  refine z_iload_n C dX7_laysAllBest_18 rfl 2 rfl 19 rfl ?_
  refine z_aload_n C dX7_laysAllBest_19 rfl 0 rfl 20 rfl ?_
  refine z_get C (in_X7_laysAllBest_X7) 0 rfl rfl 9 (by decide) (List.mem_of_getElem? (i := 2) rfl) rfl rfl dX7_laysAllBest_20 23 rfl ?_
  refine z_icmp_ge C 60 dX7_laysAllBest_23 (by decide) 26 rfl h (fun h => ?_) (fun h => ?_)
  · refine z_locals (ks := [0, 1]) (lv' := [(0, .ref (a0 99)), (1, .int v1)]) rfl ?_
    exact zex1 (F := (fun e0 => zt p l e R s m args below meth c 4 A D 0 0 Q (wX7 T a0 e0) [(0, .ref (a0 99)), (1, .int v1)] 60 [])) h K
  · refine z_aload_n C dX7_laysAllBest_26 rfl 0 rfl 27 rfl ?_
    refine z_get C (in_X7_laysAllBest_X7) 0 rfl rfl 30 (by decide) (List.mem_of_getElem? (i := 1) rfl) rfl rfl dX7_laysAllBest_27 30 rfl ?_
    refine z_iload_n C dX7_laysAllBest_30 rfl 1 rfl 31 rfl ?_
    refine z_dup2 C dX7_laysAllBest_31 rfl rfl 32 rfl ?_
    refine z_iald C 13 rfl rfl dX7_laysAllBest_32 33 rfl h (fun h => ?_)
    refine z_iload_n C dX7_laysAllBest_33 rfl 1 rfl 34 rfl ?_
    refine z_iload_n C dX7_laysAllBest_34 rfl 2 rfl 35 rfl ?_
    refine z_ishr C dX7_laysAllBest_35 36 rfl ?_
    refine z_iconst C 1 dX7_laysAllBest_36 (by decide) 37 rfl ?_
    refine z_iand C dX7_laysAllBest_37 38 rfl ?_
    refine z_iconst C 1 dX7_laysAllBest_38 (by decide) 39 rfl ?_
    refine z_icmp_ne C 51 dX7_laysAllBest_39 (by decide) 42 rfl h (fun h => ?_) (fun h => ?_)
    · refine z_iconst C 0 dX7_laysAllBest_51 (by decide) 52 rfl ?_
      exact z_locals (ks := [0, 1, 2]) rfl (p_X7_laysAllBest_J52 C a.2 a.1 v1 (a.2 30 (Int32.toNatClampNeg v1)) 0 (hD.zaddr rfl) hrec K h)
    · refine z_aload_n C dX7_laysAllBest_42 rfl 0 rfl 43 rfl ?_
      refine z_get C (in_X7_laysAllBest_X7) 0 rfl rfl 8 (by decide) (List.mem_of_getElem? (i := 3) rfl) rfl rfl dX7_laysAllBest_43 46 rfl ?_
      refine z_iload_n C dX7_laysAllBest_46 rfl 2 rfl 47 rfl ?_
      refine z_iald C 3 rfl rfl dX7_laysAllBest_47 48 rfl h (fun h => ?_)
      refine z_goto C 52 dX7_laysAllBest_48 (by decide) ?_
      exact z_locals (ks := [0, 1, 2]) rfl (p_X7_laysAllBest_J52 C a.2 a.1 v1 (a.2 30 (Int32.toNatClampNeg v1)) (a.2 8 (Int32.toNatClampNeg a.1)) (hD.zaddr rfl) hrec K h)

def f_X7_laysAllBest_L2b   (rec : (Int32 × (Nat → Nat → Int32)) → Option ((Nat → Nat → Int32))) (a : Int32 × (Nat → Nat → Int32)) : Option ((Nat → Nat → Int32)) := if 128 ≤ a.1 then (some a.2) else (zix a.1 128 fun j => zlet (zst a.2 30 j 0) fun S0_1 => (f_X7_laysAllBest_L18 a.1 zfuel (0, S0_1)).bind fun y_3 => rec ((a.1 + 1), y_3))
def f_X7_laysAllBest_L2   : Nat → (Int32 × (Nat → Nat → Int32)) → Option ((Nat → Nat → Int32)) := zloop (fun rec a => f_X7_laysAllBest_L2b  rec a)
set_option maxHeartbeats 4000000 in
set_option maxRecDepth 100000 in
theorem p_X7_laysAllBest_L2 (C : zC p R s m args meth c cX7_laysAllBest 4 RX7 wsX7_laysAllBest D T 3 79 0 0) (S0 : Nat → Nat → Int32)  (hD : va_D A (wX7 T a0 S0)) : ∀ (n : Nat) (c0 : Int32) (c1 : Nat → Nat → Int32) (b : (Nat → Nat → Int32)), f_X7_laysAllBest_L2  n (c0, c1) = some b → (zt p l e R s m args below meth c 4 A D 0 0 Q (wX7 T a0 b) [(0, .ref (a0 99))] 66 []) → zt p l e R s m args below meth c 4 A D 0 0 Q (wX7 T a0 c1) [(0, .ref (a0 99)), (1, .int c0)] 2 [] := by
  intro n c0 c1 b h K
  refine zloop_ind (P := fun a b => (zt p l e R s m args below meth c 4 A D 0 0 Q (wX7 T a0 b) [(0, .ref (a0 99))] 66 []) → zt p l e R s m args below meth c 4 A D 0 0 Q (wX7 T a0 a.2) [(0, .ref (a0 99)), (1, .int a.1)] 2 []) ?_ n (c0, c1) b h K
  clear h K b c0 c1
  intro rec hrec a b h K
  have hrec : ∀ (c0 : Int32) (c1 : Nat → Nat → Int32) (b : (Nat → Nat → Int32)), rec (c0, c1) = some b → (zt p l e R s m args below meth c 4 A D 0 0 Q (wX7 T a0 b) [(0, .ref (a0 99))] 66 []) → zt p l e R s m args below meth c 4 A D 0 0 Q (wX7 T a0 c1) [(0, .ref (a0 99)), (1, .int c0)] 2 [] := fun c0 c1 b h K => hrec (c0, c1) b h K
  unfold f_X7_laysAllBest_L2b at h
  refine z_iload_n C dX7_laysAllBest_2 rfl 1 rfl 3 rfl ?_
  refine z_sipush C 128 dX7_laysAllBest_3 (by decide) 6 rfl ?_
  refine z_icmp_ge C 66 dX7_laysAllBest_6 (by decide) 9 rfl h (fun h => ?_) (fun h => ?_)
  · refine z_locals (ks := [0]) (lv' := [(0, .ref (a0 99))]) rfl ?_
    exact zex1 (F := (fun e0 => zt p l e R s m args below meth c 4 A D 0 0 Q (wX7 T a0 e0) [(0, .ref (a0 99))] 66 [])) h K
  · refine z_aload_n C dX7_laysAllBest_9 rfl 0 rfl 10 rfl ?_
    refine z_get C (in_X7_laysAllBest_X7) 0 rfl rfl 30 (by decide) (List.mem_of_getElem? (i := 1) rfl) rfl rfl dX7_laysAllBest_10 13 rfl ?_
    refine z_iload_n C dX7_laysAllBest_13 rfl 1 rfl 14 rfl ?_
    refine z_iconst C 0 dX7_laysAllBest_14 (by decide) 15 rfl ?_
    refine z_iast C (fun z => wX7 T a0 z) a.2 30 (hD.zaddr rfl) 13 rfl rfl (fun _ => rfl) dX7_laysAllBest_15 16 rfl h (fun S0_1 h => ?_)
    refine z_iconst C 0 dX7_laysAllBest_16 (by decide) 17 rfl ?_
    refine z_istore_n C [(0, .ref (a0 99)), (1, .int a.1), (2, .int 0)] dX7_laysAllBest_17 rfl (Nat.le_of_ble_eq_true rfl) [1, 2, 0] rfl 18 rfl ?_
    obtain ⟨y_3, hl_y_3, h⟩ := Option.bind_eq_some_iff.mp h
    refine z_locals (ks := [0, 1, 2]) rfl (p_X7_laysAllBest_L18 C S0_1 a.1 (hD.zaddr rfl) _ _ _ _ hl_y_3 ?_)
    refine z_iinc C (a.1 + 1) [(0, .ref (a0 99)), (1, .int (a.1 + 1))] dX7_laysAllBest_60 1 rfl rfl (Nat.le_of_ble_eq_true rfl) [1, 0] rfl 63 rfl ?_
    refine z_goto C 2 dX7_laysAllBest_63 (by decide) ?_
    exact z_locals (ks := [0, 1]) rfl (hrec _ _ _ h K)

def f_X7_laysAllBest_L95b  (v1 : Int32) (v2 : Int32) (rec : (Int32 × (Nat → Nat → Int32)) → Option ((Nat → Nat → Int32))) (a : Int32 × (Nat → Nat → Int32)) : Option ((Nat → Nat → Int32)) := if (1 <<< ((a.2 9 0) &&& 31)) ≤ a.1 then (some a.2) else ((f_X7_laysBest a.2 v1 v2 a.1).bind fun r_6 => rec ((a.1 + 1), r_6))
def f_X7_laysAllBest_L95  (v1 : Int32) (v2 : Int32) : Nat → (Int32 × (Nat → Nat → Int32)) → Option ((Nat → Nat → Int32)) := zloop (fun rec a => f_X7_laysAllBest_L95b v1 v2 rec a)
set_option maxHeartbeats 4000000 in
set_option maxRecDepth 100000 in
theorem p_X7_laysAllBest_L95 (C : zC p R s m args meth c cX7_laysAllBest 4 RX7 wsX7_laysAllBest D T 3 79 0 0) (S0 : Nat → Nat → Int32) (v1 : Int32) (v2 : Int32) (hD : va_D A (wX7 T a0 S0)) : ∀ (n : Nat) (c0 : Int32) (c1 : Nat → Nat → Int32) (b : (Nat → Nat → Int32)), f_X7_laysAllBest_L95 v1 v2 n (c0, c1) = some b → (zt p l e R s m args below meth c 4 A D 0 0 Q (wX7 T a0 b) [(0, .ref (a0 99)), (1, .int v1), (2, .int v2)] 118 []) → zt p l e R s m args below meth c 4 A D 0 0 Q (wX7 T a0 c1) [(0, .ref (a0 99)), (1, .int v1), (2, .int v2), (3, .int c0)] 95 [] := by
  intro n c0 c1 b h K
  refine zloop_ind (P := fun a b => (zt p l e R s m args below meth c 4 A D 0 0 Q (wX7 T a0 b) [(0, .ref (a0 99)), (1, .int v1), (2, .int v2)] 118 []) → zt p l e R s m args below meth c 4 A D 0 0 Q (wX7 T a0 a.2) [(0, .ref (a0 99)), (1, .int v1), (2, .int v2), (3, .int a.1)] 95 []) ?_ n (c0, c1) b h K
  clear h K b c0 c1
  intro rec hrec a b h K
  have hrec : ∀ (c0 : Int32) (c1 : Nat → Nat → Int32) (b : (Nat → Nat → Int32)), rec (c0, c1) = some b → (zt p l e R s m args below meth c 4 A D 0 0 Q (wX7 T a0 b) [(0, .ref (a0 99)), (1, .int v1), (2, .int v2)] 118 []) → zt p l e R s m args below meth c 4 A D 0 0 Q (wX7 T a0 c1) [(0, .ref (a0 99)), (1, .int v1), (2, .int v2), (3, .int c0)] 95 [] := fun c0 c1 b h K => hrec (c0, c1) b h K
  unfold f_X7_laysAllBest_L95b at h
  refine z_iload_n C dX7_laysAllBest_95 rfl 3 rfl 96 rfl ?_
  refine z_iconst C 1 dX7_laysAllBest_96 (by decide) 97 rfl ?_
  refine z_aload_n C dX7_laysAllBest_97 rfl 0 rfl 98 rfl ?_
  refine z_get C (in_X7_laysAllBest_X7) 0 rfl rfl 9 (by decide) (List.mem_of_getElem? (i := 2) rfl) rfl rfl dX7_laysAllBest_98 101 rfl ?_
  refine z_ishl C dX7_laysAllBest_101 102 rfl ?_
  refine z_icmp_ge C 118 dX7_laysAllBest_102 (by decide) 105 rfl h (fun h => ?_) (fun h => ?_)
  · refine z_locals (ks := [0, 1, 2]) (lv' := [(0, .ref (a0 99)), (1, .int v1), (2, .int v2)]) rfl ?_
    exact zex1 (F := (fun e0 => zt p l e R s m args below meth c 4 A D 0 0 Q (wX7 T a0 e0) [(0, .ref (a0 99)), (1, .int v1), (2, .int v2)] 118 [])) h K
  · refine z_aload_n C dX7_laysAllBest_105 rfl 0 rfl 106 rfl ?_
    refine z_iload_n C dX7_laysAllBest_106 rfl 1 rfl 107 rfl ?_
    refine z_iload_n C dX7_laysAllBest_107 rfl 2 rfl 108 rfl ?_
    refine z_iload_n C dX7_laysAllBest_108 rfl 3 rfl 109 rfl ?_
    refine z_callV C (wX7 T a0 a.2) (([] : va_W)) (fun z => wX7 T a0 z) (fun z => wX7 T a0 z) (fun z h => c_X7_laysBest l D T a0  a.2 v1 v2 a.1 z h) ⟨rfl, rfl⟩ (z_cwV C 3 gX7_laysAllBest_X7_laysBest rfl rfl dd_X7_laysBest ⟨(Nat.le_of_ble_eq_true rfl), (Nat.le_of_ble_eq_true rfl)⟩) (hD.zaddr rfl) [0, 1, 2, 3, 4, 5, 6, 7, 8, 9, 10, 11, 12, 13, 14, 15, 16, 17] [] [0, 1, 2, 3, 4, 5, 6, 7, 8, 9, 10, 11, 12, 13, 14, 15, 16, 17] rfl rfl rfl (by decide) (fun _ => rfl) (fun _ => ⟨a0 99, [.int v1, .int v2, .int a.1], 6, 0, _, _, rfl, rfl, rfl, rfl, rfl⟩) (fun h => absurd rfl h) rfl (Nat.le_of_ble_eq_true rfl) dX7_laysAllBest_109 112 rfl h (fun r_6 h => ?_)
    refine z_iinc C (a.1 + 1) [(0, .ref (a0 99)), (1, .int v1), (2, .int v2), (3, .int (a.1 + 1))] dX7_laysAllBest_112 3 rfl rfl (Nat.le_of_ble_eq_true rfl) [1, 2, 3, 0] rfl 115 rfl ?_
    refine z_goto C 95 dX7_laysAllBest_115 (by decide) ?_
    exact z_locals (ks := [0, 1, 2, 3]) rfl (hrec _ _ _ h K)

def f_X7_laysAllBest_J90 (rec : (Int32 × (Nat → Nat → Int32)) → Option ((Nat → Nat → Int32))) (S0 : Nat → Nat → Int32) (v1 : Int32) (x2 : Int32) (k0 : Int32) (k1 : Int32) : Option ((Nat → Nat → Int32)) := if k1 ≤ k0 then (some S0) else ((f_X7_laysAllBest_L95 v1 x2 zfuel (1, S0)).bind fun y_7 => rec ((x2 + 1), y_7))
set_option maxHeartbeats 4000000 in
set_option maxRecDepth 100000 in
theorem p_X7_laysAllBest_J90 (C : zC p R s m args meth c cX7_laysAllBest 4 RX7 wsX7_laysAllBest D T 3 79 0 0) (S0 : Nat → Nat → Int32) {v1 : Int32} (x2 : Int32) (k0 : Int32) (k1 : Int32) (hD : va_D A (wX7 T a0 S0)) {rec : (Int32 × (Nat → Nat → Int32)) → Option ((Nat → Nat → Int32))} (hrec : ∀ (c0 : Int32) (c1 : Nat → Nat → Int32) (b : (Nat → Nat → Int32)), rec (c0, c1) = some b → (zt p l e R s m args below meth c 4 A D 0 0 Q (wX7 T a0 b) [(0, .ref (a0 99)), (1, .int v1)] 124 []) → zt p l e R s m args below meth c 4 A D 0 0 Q (wX7 T a0 c1) [(0, .ref (a0 99)), (1, .int v1), (2, .int c0)] 77 []) {b : (Nat → Nat → Int32)} (K : zt p l e R s m args below meth c 4 A D 0 0 Q (wX7 T a0 b) [(0, .ref (a0 99)), (1, .int v1)] 124 []) (h : f_X7_laysAllBest_J90 rec S0 v1 x2 k0 k1 = some b) : zt p l e R s m args below meth c 4 A D 0 0 Q (wX7 T a0 S0) [(0, .ref (a0 99)), (1, .int v1), (2, .int x2)] 90 [.int k1, .int k0] := by
  unfold f_X7_laysAllBest_J90 at h
  refine z_icmp_ge C 124 dX7_laysAllBest_90 (by decide) 93 rfl h (fun h => ?_) (fun h => ?_)
  · refine z_locals (ks := [0, 1]) (lv' := [(0, .ref (a0 99)), (1, .int v1)]) rfl ?_
    exact zex1 (F := (fun e0 => zt p l e R s m args below meth c 4 A D 0 0 Q (wX7 T a0 e0) [(0, .ref (a0 99)), (1, .int v1)] 124 [])) h K
  · refine z_iconst C 1 dX7_laysAllBest_93 (by decide) 94 rfl ?_
    refine z_istore_n C [(0, .ref (a0 99)), (1, .int v1), (2, .int x2), (3, .int 1)] dX7_laysAllBest_94 rfl (Nat.le_of_ble_eq_true rfl) [1, 2, 3, 0] rfl 95 rfl ?_
    obtain ⟨y_7, hl_y_7, h⟩ := Option.bind_eq_some_iff.mp h
    refine z_locals (ks := [0, 1, 2, 3]) rfl (p_X7_laysAllBest_L95 C S0 v1 x2 (hD.zaddr rfl) _ _ _ _ hl_y_7 ?_)
    refine z_iinc C (x2 + 1) [(0, .ref (a0 99)), (1, .int v1), (2, .int (x2 + 1))] dX7_laysAllBest_118 2 rfl rfl (Nat.le_of_ble_eq_true rfl) [1, 2, 0] rfl 121 rfl ?_
    refine z_goto C 77 dX7_laysAllBest_121 (by decide) ?_
    exact z_locals (ks := [0, 1, 2]) rfl (hrec _ _ _ h K)

def f_X7_laysAllBest_L77b  (v1 : Int32) (rec : (Int32 × (Nat → Nat → Int32)) → Option ((Nat → Nat → Int32))) (a : Int32 × (Nat → Nat → Int32)) : Option ((Nat → Nat → Int32)) := if v1 = 0 then (f_X7_laysAllBest_J90 rec a.2 v1 a.1 a.1 1) else (f_X7_laysAllBest_J90 rec a.2 v1 a.1 a.1 (a.2 2 0))
def f_X7_laysAllBest_L77  (v1 : Int32) : Nat → (Int32 × (Nat → Nat → Int32)) → Option ((Nat → Nat → Int32)) := zloop (fun rec a => f_X7_laysAllBest_L77b v1 rec a)
set_option maxHeartbeats 4000000 in
set_option maxRecDepth 100000 in
theorem p_X7_laysAllBest_L77 (C : zC p R s m args meth c cX7_laysAllBest 4 RX7 wsX7_laysAllBest D T 3 79 0 0) (S0 : Nat → Nat → Int32) (v1 : Int32) (hD : va_D A (wX7 T a0 S0)) : ∀ (n : Nat) (c0 : Int32) (c1 : Nat → Nat → Int32) (b : (Nat → Nat → Int32)), f_X7_laysAllBest_L77 v1 n (c0, c1) = some b → (zt p l e R s m args below meth c 4 A D 0 0 Q (wX7 T a0 b) [(0, .ref (a0 99)), (1, .int v1)] 124 []) → zt p l e R s m args below meth c 4 A D 0 0 Q (wX7 T a0 c1) [(0, .ref (a0 99)), (1, .int v1), (2, .int c0)] 77 [] := by
  intro n c0 c1 b h K
  refine zloop_ind (P := fun a b => (zt p l e R s m args below meth c 4 A D 0 0 Q (wX7 T a0 b) [(0, .ref (a0 99)), (1, .int v1)] 124 []) → zt p l e R s m args below meth c 4 A D 0 0 Q (wX7 T a0 a.2) [(0, .ref (a0 99)), (1, .int v1), (2, .int a.1)] 77 []) ?_ n (c0, c1) b h K
  clear h K b c0 c1
  intro rec hrec a b h K
  have hrec : ∀ (c0 : Int32) (c1 : Nat → Nat → Int32) (b : (Nat → Nat → Int32)), rec (c0, c1) = some b → (zt p l e R s m args below meth c 4 A D 0 0 Q (wX7 T a0 b) [(0, .ref (a0 99)), (1, .int v1)] 124 []) → zt p l e R s m args below meth c 4 A D 0 0 Q (wX7 T a0 c1) [(0, .ref (a0 99)), (1, .int v1), (2, .int c0)] 77 [] := fun c0 c1 b h K => hrec (c0, c1) b h K
  unfold f_X7_laysAllBest_L77b at h
  refine z_iload_n C dX7_laysAllBest_77 rfl 2 rfl 78 rfl ?_
  refine z_iload_n C dX7_laysAllBest_78 rfl 1 rfl 79 rfl ?_
  refine z_if_ne C 86 dX7_laysAllBest_79 (by decide) 82 rfl h (fun h => ?_) (fun h => ?_)
  · refine z_aload_n C dX7_laysAllBest_86 rfl 0 rfl 87 rfl ?_
    refine z_get C (in_X7_laysAllBest_X7) 0 rfl rfl 2 (by decide) (List.mem_of_getElem? (i := 5) rfl) rfl rfl dX7_laysAllBest_87 90 rfl ?_
    exact z_locals (ks := [0, 1, 2]) rfl (p_X7_laysAllBest_J90 C a.2 a.1 a.1 (a.2 2 0) (hD.zaddr rfl) hrec K h)
  · refine z_iconst C 1 dX7_laysAllBest_82 (by decide) 83 rfl ?_
    refine z_goto C 90 dX7_laysAllBest_83 (by decide) ?_
    exact z_locals (ks := [0, 1, 2]) rfl (p_X7_laysAllBest_J90 C a.2 a.1 a.1 1 (hD.zaddr rfl) hrec K h)

def f_X7_laysAllBest_L71b   (rec : (Int32 × (Nat → Nat → Int32)) → Option ((Nat → Nat → Int32))) (a : Int32 × (Nat → Nat → Int32)) : Option ((Nat → Nat → Int32)) := if a.1 < 0 then (some a.2) else ((f_X7_laysAllBest_L77 a.1 zfuel (0, a.2)).bind fun y_8 => rec ((a.1 + (-1)), y_8))
def f_X7_laysAllBest_L71   : Nat → (Int32 × (Nat → Nat → Int32)) → Option ((Nat → Nat → Int32)) := zloop (fun rec a => f_X7_laysAllBest_L71b  rec a)
set_option maxHeartbeats 4000000 in
set_option maxRecDepth 100000 in
theorem p_X7_laysAllBest_L71 (C : zC p R s m args meth c cX7_laysAllBest 4 RX7 wsX7_laysAllBest D T 3 79 0 0) (S0 : Nat → Nat → Int32)  (hD : va_D A (wX7 T a0 S0)) : ∀ (n : Nat) (c0 : Int32) (c1 : Nat → Nat → Int32) (b : (Nat → Nat → Int32)), f_X7_laysAllBest_L71  n (c0, c1) = some b → (zt p l e R s m args below meth c 4 A D 0 0 Q (wX7 T a0 b) [] 130 []) → zt p l e R s m args below meth c 4 A D 0 0 Q (wX7 T a0 c1) [(0, .ref (a0 99)), (1, .int c0)] 71 [] := by
  intro n c0 c1 b h K
  refine zloop_ind (P := fun a b => (zt p l e R s m args below meth c 4 A D 0 0 Q (wX7 T a0 b) [] 130 []) → zt p l e R s m args below meth c 4 A D 0 0 Q (wX7 T a0 a.2) [(0, .ref (a0 99)), (1, .int a.1)] 71 []) ?_ n (c0, c1) b h K
  clear h K b c0 c1
  intro rec hrec a b h K
  have hrec : ∀ (c0 : Int32) (c1 : Nat → Nat → Int32) (b : (Nat → Nat → Int32)), rec (c0, c1) = some b → (zt p l e R s m args below meth c 4 A D 0 0 Q (wX7 T a0 b) [] 130 []) → zt p l e R s m args below meth c 4 A D 0 0 Q (wX7 T a0 c1) [(0, .ref (a0 99)), (1, .int c0)] 71 [] := fun c0 c1 b h K => hrec (c0, c1) b h K
  unfold f_X7_laysAllBest_L71b at h
  refine z_iload_n C dX7_laysAllBest_71 rfl 1 rfl 72 rfl ?_
  refine z_if_lt C 130 dX7_laysAllBest_72 (by decide) 75 rfl h (fun h => ?_) (fun h => ?_)
  · refine z_locals (ks := []) (lv' := []) rfl ?_
    exact zex1 (F := (fun e0 => zt p l e R s m args below meth c 4 A D 0 0 Q (wX7 T a0 e0) [] 130 [])) h K
  · refine z_iconst C 0 dX7_laysAllBest_75 (by decide) 76 rfl ?_
    refine z_istore_n C [(0, .ref (a0 99)), (1, .int a.1), (2, .int 0)] dX7_laysAllBest_76 rfl (Nat.le_of_ble_eq_true rfl) [1, 2, 0] rfl 77 rfl ?_
    obtain ⟨y_8, hl_y_8, h⟩ := Option.bind_eq_some_iff.mp h
    refine z_locals (ks := [0, 1, 2]) rfl (p_X7_laysAllBest_L77 C a.2 a.1 (hD.zaddr rfl) _ _ _ _ hl_y_8 ?_)
    refine z_iinc C (a.1 + (-1)) [(0, .ref (a0 99)), (1, .int (a.1 + (-1)))] dX7_laysAllBest_124 1 rfl rfl (Nat.le_of_ble_eq_true rfl) [1, 0] rfl 127 rfl ?_
    refine z_goto C 71 dX7_laysAllBest_127 (by decide) ?_
    exact z_locals (ks := [0, 1]) rfl (hrec _ _ _ h K)

def f_X7_laysAllBest (S0 : Nat → Nat → Int32)  : Option ((Nat → Nat → Int32)) := (f_X7_laysAllBest_L2  zfuel (0, S0)).bind fun y_4 => zlet (y_4 1 0) fun u_5 => (f_X7_laysAllBest_L71  zfuel (u_5, y_4)).bind fun y_9 => some y_9
theorem dd_X7_laysAllBest : RX7 ≠ "java/lang/invoke/MethodHandle" ∧ RX7 ≠ "java/lang/invoke/VarHandle" ∧ (parseMethodDescriptor yX7_laysAllBest.desc).map (fun d => d.parameters.length) = some 0 := by decide +kernel
set_option maxHeartbeats 4000000 in
set_option maxRecDepth 100000 in
theorem c_X7_laysAllBest (l : Launch) (D : va_G) (T : Nat → ClassId) (a0 : Nat → Nat) (S0 : Nat → Nat → Int32)  (ex : (Nat → Nat → Int32)) (h : f_X7_laysAllBest S0 = some ex) : zWV l yX7_laysAllBest wsX7_laysAllBest ({ frames := 3, cells := 0, slots := 0, locals := 79 } : Room) D T [.ref (a0 99)] (wX7 T a0 S0) (wX7 T a0 ex) := by
  refine z_begin (cc := cX7_laysAllBest) (nL := 4) (own := RX7) (fr := 3) (lc := 79) (ret := none) (by decide) rfl (Nat.le_of_ble_eq_true rfl) (zA (wX7 T a0 S0)) rfl [(0, .ref (a0 99))] rfl ⟨rfl, rfl⟩ rfl ?_
  intro p e s m args below meth c C hr hD
  have hD := hD.zself
  unfold f_X7_laysAllBest at h
  refine z_iconst C 0 dX7_laysAllBest_0 (by decide) 1 rfl ?_
  refine z_istore_n C [(0, .ref (a0 99)), (1, .int 0)] dX7_laysAllBest_1 rfl (Nat.le_of_ble_eq_true rfl) [1, 0] rfl 2 rfl ?_
  obtain ⟨y_4, hl_y_4, h⟩ := Option.bind_eq_some_iff.mp h
  refine z_locals (ks := [0, 1]) rfl (p_X7_laysAllBest_L2 C S0  (hD.zaddr rfl) _ _ _ _ hl_y_4 ?_)
  refine z_aload_n C dX7_laysAllBest_66 rfl 0 rfl 67 rfl ?_
  refine z_get C (in_X7_laysAllBest_X7) 0 rfl rfl 1 (by decide) (List.mem_of_getElem? (i := 4) rfl) rfl rfl dX7_laysAllBest_67 70 rfl ?_
  refine z_top h (fun u_5 h => ?_)
  refine z_istore_n C [(0, .ref (a0 99)), (1, .int u_5)] dX7_laysAllBest_70 rfl (Nat.le_of_ble_eq_true rfl) [1, 0] rfl 71 rfl ?_
  obtain ⟨y_9, hl_y_9, h⟩ := Option.bind_eq_some_iff.mp h
  refine z_locals (ks := [0, 1]) rfl (p_X7_laysAllBest_L71 C y_4  (hD.zaddr rfl) _ _ _ _ hl_y_9 ?_)
  exact z_vretW (x := y_9) (ex := ex) (fun z => wX7 T a0 z) C hr dX7_laysAllBest_130 h rfl

end
/-! StreamTreeModel.all ()I -/
section
variable {p : Program} {l : Launch} {e : Env} {R : Room} {s : State} {m : MethodId} {args : Array Value} {below : List Frame} {meth : Method} {c : Code} {Q : State → Prop} {A : Nat → Prop} {D : va_G} {T : Nat → ClassId} {a0 : Nat → Nat}
theorem in_X7_all_X7 : ∀ w ∈ u_ws RX7 TX7 35, w ∈ wsX7_all := fun _ h => (List.mem_cons_of_mem _ (List.mem_append_right _ h))
def f_X7_all (S0 : Nat → Nat → Int32)  : Option (Int32) := some ((1 <<< ((S0 9 0) &&& 31)) - 1)
theorem dd_X7_all : RX7 ≠ "java/lang/invoke/MethodHandle" ∧ RX7 ≠ "java/lang/invoke/VarHandle" ∧ (parseMethodDescriptor yX7_all.desc).map (fun d => d.parameters.length) = some 0 := by decide +kernel
set_option maxHeartbeats 4000000 in
set_option maxRecDepth 100000 in
theorem c_X7_all (l : Launch) (D : va_G) (T : Nat → ClassId) (a0 : Nat → Nat) (S0 : Nat → Nat → Int32)  (ex : Int32) (h : f_X7_all S0 = some ex) : zRI l yX7_all wsX7_all ({ frames := 0, cells := 0, slots := 0, locals := 0 } : Room) D T [.ref (a0 99)] (wX7 T a0 S0) ex := by
  refine z_begin (cc := cX7_all) (nL := 1) (own := RX7) (fr := 0) (lc := 0) (ret := some .int) (by decide) rfl (Nat.le_of_ble_eq_true rfl) (fun _ => False) rfl [(0, .ref (a0 99))] rfl ⟨rfl, rfl⟩ rfl ?_
  intro p e s m args below meth c C hr hD
  unfold f_X7_all at h
  refine z_iconst C 1 dX7_all_0 (by decide) 1 rfl ?_
  refine z_aload_n C dX7_all_1 rfl 0 rfl 2 rfl ?_
  refine z_get C (in_X7_all_X7) 0 rfl rfl 9 (by decide) (List.mem_of_getElem? (i := 1) rfl) rfl rfl dX7_all_2 5 rfl ?_
  refine z_ishl C dX7_all_5 6 rfl ?_
  refine z_iconst C 1 dX7_all_6 (by decide) 7 rfl ?_
  refine z_isub C dX7_all_7 8 rfl ?_
  exact z_iretR C hr dX7_all_8 h

end
/-! StreamTreeModel.leastInk ()I -/
section
variable {p : Program} {l : Launch} {e : Env} {R : Room} {s : State} {m : MethodId} {args : Array Value} {below : List Frame} {meth : Method} {c : Code} {Q : State → Prop} {A : Nat → Prop} {D : va_G} {T : Nat → ClassId} {a0 : Nat → Nat}
theorem in_X7_leastInk_X7 : ∀ w ∈ u_ws RX7 TX7 35, w ∈ wsX7_leastInk := fun _ h => (List.mem_cons_of_mem _ (List.mem_append_right _ h))
def f_X7_leastInk (S0 : Nat → Nat → Int32)  : Option (Int32 × (Nat → Nat → Int32)) := (f_X7_laysAllBest S0).bind fun r_1 => if (r_1 9 0) = 0 then (some (0, r_1)) else ((f_X7_all r_1).bind fun r_2 => (f_X7_bestOf r_1 0 r_2).bind fun r_3 => if 1000000000 ≤ r_3 then (some ((-2), r_1)) else ((f_X7_all r_1).bind fun r_4 => (f_X7_bestOf r_1 0 r_4).bind fun r_5 => some (r_5, r_1)))
theorem dd_X7_leastInk : RX7 ≠ "java/lang/invoke/MethodHandle" ∧ RX7 ≠ "java/lang/invoke/VarHandle" ∧ (parseMethodDescriptor yX7_leastInk.desc).map (fun d => d.parameters.length) = some 0 := by decide +kernel
set_option maxHeartbeats 4000000 in
set_option maxRecDepth 100000 in
theorem c_X7_leastInk (l : Launch) (D : va_G) (T : Nat → ClassId) (a0 : Nat → Nat) (S0 : Nat → Nat → Int32)  (ex : Int32 × (Nat → Nat → Int32)) (h : f_X7_leastInk S0 = some ex) : zWI l yX7_leastInk wsX7_leastInk ({ frames := 4, cells := 0, slots := 0, locals := 102 } : Room) D T [.ref (a0 99)] (wX7 T a0 S0) ex.1 (wX7 T a0 ex.2) := by
  refine z_begin (cc := cX7_leastInk) (nL := 1) (own := RX7) (fr := 4) (lc := 102) (ret := some .int) (by decide) rfl (Nat.le_of_ble_eq_true rfl) (zA (wX7 T a0 S0)) rfl [(0, .ref (a0 99))] rfl ⟨rfl, rfl⟩ rfl ?_
  intro p e s m args below meth c C hr hD
  have hD := hD.zself
  unfold f_X7_leastInk at h
  refine z_aload_n C dX7_leastInk_0 rfl 0 rfl 1 rfl ?_
  refine z_callV C (wX7 T a0 S0) (([] : va_W)) (fun z => wX7 T a0 z) (fun z => wX7 T a0 z) (fun z h => c_X7_laysAllBest l D T a0  S0  z h) ⟨rfl, rfl⟩ (z_cwV C 0 gX7_leastInk_X7_laysAllBest rfl rfl dd_X7_laysAllBest ⟨(Nat.le_of_ble_eq_true rfl), (Nat.le_of_ble_eq_true rfl)⟩) (hD.zaddr rfl) [0, 1, 2, 3, 4, 5, 6, 7, 8, 9, 10, 11, 12, 13, 14, 15, 16, 17] [] [0, 1, 2, 3, 4, 5, 6, 7, 8, 9, 10, 11, 12, 13, 14, 15, 16, 17] rfl rfl rfl (by decide) (fun _ => rfl) (fun _ => ⟨a0 99, [], 6, 0, _, _, rfl, rfl, rfl, rfl, rfl⟩) (fun h => absurd rfl h) rfl (Nat.le_of_ble_eq_true rfl) dX7_leastInk_1 4 rfl h (fun r_1 h => ?_)
  refine z_aload_n C dX7_leastInk_4 rfl 0 rfl 5 rfl ?_
  refine z_get C (in_X7_leastInk_X7) 0 rfl rfl 9 (by decide) (List.mem_of_getElem? (i := 1) rfl) rfl rfl dX7_leastInk_5 8 rfl ?_
  refine z_if_ne C 15 dX7_leastInk_8 (by decide) 11 rfl h (fun h => ?_) (fun h => ?_)
  · refine z_aload_n C dX7_leastInk_15 rfl 0 rfl 16 rfl ?_
    refine z_iconst C 0 dX7_leastInk_16 (by decide) 17 rfl ?_
    refine z_aload_n C dX7_leastInk_17 rfl 0 rfl 18 rfl ?_
    refine z_callR C (wX7 T a0 r_1) (fun v h => c_X7_all l D T a0  r_1  v h) ⟨rfl, rfl⟩ (z_cwV C 0 gX7_leastInk_X7_all rfl rfl dd_X7_all ⟨(Nat.le_of_ble_eq_true rfl), (Nat.le_of_ble_eq_true rfl)⟩) (hD.zaddr rfl) [0, 1, 2, 3, 4, 5, 6, 7, 8, 9, 10, 11, 12, 13, 14, 15, 16, 17] rfl rfl (fun _ => ⟨a0 99, [], 6, 0, _, _, rfl, rfl, rfl, rfl, rfl⟩) (fun h => absurd rfl h) rfl (Nat.le_of_ble_eq_true rfl) dX7_leastInk_18 21 rfl h (fun r_2 h => ?_)
    refine z_callR C (wX7 T a0 r_1) (fun v h => c_X7_bestOf l D T a0  r_1 0 r_2 v h) ⟨rfl, rfl⟩ (z_cwV C 2 gX7_leastInk_X7_bestOf rfl rfl dd_X7_bestOf ⟨(Nat.le_of_ble_eq_true rfl), (Nat.le_of_ble_eq_true rfl)⟩) (hD.zaddr rfl) [0, 1, 2, 3, 4, 5, 6, 7, 8, 9, 10, 11, 12, 13, 14, 15, 16, 17] rfl rfl (fun _ => ⟨a0 99, [.int 0, .int r_2], 6, 0, _, _, rfl, rfl, rfl, rfl, rfl⟩) (fun h => absurd rfl h) rfl (Nat.le_of_ble_eq_true rfl) dX7_leastInk_21 24 rfl h (fun r_3 h => ?_)
    refine z_ldc C 1000000000 (List.mem_of_getElem? (i := 2) rfl) dX7_leastInk_24 26 rfl ?_
    refine z_icmp_ge C 41 dX7_leastInk_26 (by decide) 29 rfl h (fun h => ?_) (fun h => ?_)
    · refine z_bipush C (-2) dX7_leastInk_41 (by decide) 43 rfl ?_
      exact z_iretW (x := r_1) (ex := ex) (fun z => wX7 T a0 z) C hr dX7_leastInk_43 h rfl
    · refine z_aload_n C dX7_leastInk_29 rfl 0 rfl 30 rfl ?_
      refine z_iconst C 0 dX7_leastInk_30 (by decide) 31 rfl ?_
      refine z_aload_n C dX7_leastInk_31 rfl 0 rfl 32 rfl ?_
      refine z_callR C (wX7 T a0 r_1) (fun v h => c_X7_all l D T a0  r_1  v h) ⟨rfl, rfl⟩ (z_cwV C 0 gX7_leastInk_X7_all rfl rfl dd_X7_all ⟨(Nat.le_of_ble_eq_true rfl), (Nat.le_of_ble_eq_true rfl)⟩) (hD.zaddr rfl) [0, 1, 2, 3, 4, 5, 6, 7, 8, 9, 10, 11, 12, 13, 14, 15, 16, 17] rfl rfl (fun _ => ⟨a0 99, [], 6, 0, _, _, rfl, rfl, rfl, rfl, rfl⟩) (fun h => absurd rfl h) rfl (Nat.le_of_ble_eq_true rfl) dX7_leastInk_32 35 rfl h (fun r_4 h => ?_)
      refine z_callR C (wX7 T a0 r_1) (fun v h => c_X7_bestOf l D T a0  r_1 0 r_4 v h) ⟨rfl, rfl⟩ (z_cwV C 2 gX7_leastInk_X7_bestOf rfl rfl dd_X7_bestOf ⟨(Nat.le_of_ble_eq_true rfl), (Nat.le_of_ble_eq_true rfl)⟩) (hD.zaddr rfl) [0, 1, 2, 3, 4, 5, 6, 7, 8, 9, 10, 11, 12, 13, 14, 15, 16, 17] rfl rfl (fun _ => ⟨a0 99, [.int 0, .int r_4], 6, 0, _, _, rfl, rfl, rfl, rfl, rfl⟩) (fun h => absurd rfl h) rfl (Nat.le_of_ble_eq_true rfl) dX7_leastInk_35 38 rfl h (fun r_5 h => ?_)
      refine z_goto C 43 dX7_leastInk_38 (by decide) ?_
      exact z_iretW (x := r_1) (ex := ex) (fun z => wX7 T a0 z) C hr dX7_leastInk_43 h rfl
  · refine z_iconst C 0 dX7_leastInk_11 (by decide) 12 rfl ?_
    refine z_goto C 43 dX7_leastInk_12 (by decide) ?_
    exact z_iretW (x := r_1) (ex := ex) (fun z => wX7 T a0 z) C hr dX7_leastInk_43 h rfl

end
