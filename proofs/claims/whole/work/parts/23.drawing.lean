/-! StreamTree$Drawing.turnsToNext (LStreamTree$Chart;LStreamTree$Tree;III)I -/
section
variable {p : Program} {l : Launch} {e : Env} {R : Room} {s : State} {m : MethodId} {args : Array Value} {below : List Frame} {meth : Method} {c : Code} {Q : State → Prop} {A : Nat → Prop} {D : va_G} {T : Nat → ClassId} {a0 : Nat → Nat} {a1 : Nat → Nat}
theorem in_X2_turnsToNext_X5 : ∀ w ∈ u_ws RX5 TX5 5, w ∈ wsX2_turnsToNext := fun _ h => (List.mem_cons_of_mem _ (List.mem_append_right _ h))
theorem in_X2_turnsToNext_X1 : ∀ w ∈ u_ws RX1 TX1 10, w ∈ wsX2_turnsToNext := fun _ h => (List.mem_cons_of_mem _ (List.mem_append_left _ (List.mem_append_right _ h)))
def f_X2_turnsToNext_L6b (S0 : Nat → Nat → Int32) (S1 : Nat → Nat → Int32) (v2 : Int32) (v4 : Int32) (rec : (Int32 × Int32) → Option (Nat × Int32)) (a : Int32 × Int32) : Option (Nat × Int32) := if (S0 1 0) ≤ a.2 then (some (1, 0)) else ((f_X1_turnBeside S0 a.1 v4).bind fun r_1 => (f_X6_cellOf v2 r_1).bind fun r_2 => zix r_2 240 fun _ => if (S1 3 (Int32.toNatClampNeg r_2)) = 0 then (rec (r_1, (a.2 + 1))) else (some (0, a.2)))
def f_X2_turnsToNext_L6 (S0 : Nat → Nat → Int32) (S1 : Nat → Nat → Int32) (v2 : Int32) (v4 : Int32) : Nat → (Int32 × Int32) → Option (Nat × Int32) := zloop (fun rec a => f_X2_turnsToNext_L6b S0 S1 v2 v4 rec a)
set_option maxHeartbeats 4000000 in
set_option maxRecDepth 100000 in
theorem p_X2_turnsToNext_L6 (C : zC p R s m args meth c cX2_turnsToNext 7 RX2 wsX2_turnsToNext D T 1 22 0 0) (S0 : Nat → Nat → Int32) (S1 : Nat → Nat → Int32) (v2 : Int32) (v4 : Int32) (hD : va_D (fun _ => True) (wX1 T a0 S0 ++ wX5 T a1 S1)) : ∀ (n : Nat) (c0 : Int32) (c1 : Int32) (b : Nat × Int32), f_X2_turnsToNext_L6 S0 S1 v2 v4 n (c0, c1) = some b → ((b.1 = 0 → zt p l e R s m args below meth c 7 A D 0 0 Q (wX1 T a0 S0 ++ wX5 T a1 S1) [(6, .int b.2)] 39 []) ∧ (b.1 = 1 → zt p l e R s m args below meth c 7 A D 0 0 Q (wX1 T a0 S0 ++ wX5 T a1 S1) [(0, .ref (a0 99))] 48 [])) → zt p l e R s m args below meth c 7 A D 0 0 Q (wX1 T a0 S0 ++ wX5 T a1 S1) [(0, .ref (a0 99)), (1, .ref (a1 99)), (2, .int v2), (4, .int v4), (5, .int c0), (6, .int c1)] 6 [] := by
  intro n c0 c1 b h K
  refine zloop_ind (P := fun a b => ((b.1 = 0 → zt p l e R s m args below meth c 7 A D 0 0 Q (wX1 T a0 S0 ++ wX5 T a1 S1) [(6, .int b.2)] 39 []) ∧ (b.1 = 1 → zt p l e R s m args below meth c 7 A D 0 0 Q (wX1 T a0 S0 ++ wX5 T a1 S1) [(0, .ref (a0 99))] 48 [])) → zt p l e R s m args below meth c 7 A D 0 0 Q (wX1 T a0 S0 ++ wX5 T a1 S1) [(0, .ref (a0 99)), (1, .ref (a1 99)), (2, .int v2), (4, .int v4), (5, .int a.1), (6, .int a.2)] 6 []) ?_ n (c0, c1) b h K
  clear h K b c0 c1
  intro rec hrec a b h K
  have hrec : ∀ (c0 : Int32) (c1 : Int32) (b : Nat × Int32), rec (c0, c1) = some b → ((b.1 = 0 → zt p l e R s m args below meth c 7 A D 0 0 Q (wX1 T a0 S0 ++ wX5 T a1 S1) [(6, .int b.2)] 39 []) ∧ (b.1 = 1 → zt p l e R s m args below meth c 7 A D 0 0 Q (wX1 T a0 S0 ++ wX5 T a1 S1) [(0, .ref (a0 99))] 48 [])) → zt p l e R s m args below meth c 7 A D 0 0 Q (wX1 T a0 S0 ++ wX5 T a1 S1) [(0, .ref (a0 99)), (1, .ref (a1 99)), (2, .int v2), (4, .int v4), (5, .int c0), (6, .int c1)] 6 [] := fun c0 c1 b h K => hrec (c0, c1) b h K
  unfold f_X2_turnsToNext_L6b at h
  refine z_iload C dX2_turnsToNext_6 5 rfl 8 rfl ?_
  refine z_aload_n C dX2_turnsToNext_8 rfl 0 rfl 9 rfl ?_
  refine z_get C (in_X2_turnsToNext_X1) 0 rfl rfl 1 (by decide) (List.mem_of_getElem? (i := 1) rfl) rfl rfl dX2_turnsToNext_9 12 rfl ?_
  refine z_icmp_ge C 48 dX2_turnsToNext_12 (by decide) 15 rfl h (fun h => ?_) (fun h => ?_)
  · refine z_locals (ks := [0]) (lv' := [(0, .ref (a0 99))]) rfl ?_
    exact zexT1 (F := (fun e0 => zt p l e R s m args below meth c 7 A D 0 0 Q (wX1 T a0 S0 ++ wX5 T a1 S1) [(0, .ref (a0 99))] 48 [])) h K.2
  · refine z_aload_n C dX2_turnsToNext_15 rfl 0 rfl 16 rfl ?_
    refine z_iload C dX2_turnsToNext_16 4 rfl 18 rfl ?_
    refine z_iload C dX2_turnsToNext_18 3 rfl 20 rfl ?_
    refine z_callR C (wX1 T a0 S0) (fun v h => c_X1_turnBeside l D T a0  S0 a.1 v4 v h) ⟨rfl, rfl⟩ (z_cwV C 2 gX2_turnsToNext_X1_turnBeside rfl rfl dd_X1_turnBeside ⟨(Nat.le_of_ble_eq_true rfl), (Nat.le_of_ble_eq_true rfl)⟩) (hD.zaddr rfl) [0, 1, 2, 3, 4] rfl rfl (fun _ => ⟨a0 99, [.int a.1, .int v4], 1, 0, _, _, rfl, rfl, rfl, rfl, rfl⟩) (fun h => absurd rfl h) rfl (Nat.le_of_ble_eq_true rfl) dX2_turnsToNext_20 23 rfl h (fun r_1 h => ?_)
    refine z_istore C [(0, .ref (a0 99)), (1, .ref (a1 99)), (2, .int v2), (4, .int v4), (5, .int r_1), (6, .int a.2)] dX2_turnsToNext_23 (Nat.le_of_ble_eq_true rfl) [1, 2, 3, 4, 0, 5] rfl 25 rfl ?_
    refine z_aload_n C dX2_turnsToNext_25 rfl 1 rfl 26 rfl ?_
    refine z_get C (in_X2_turnsToNext_X5) 5 rfl rfl 3 (by decide) (List.mem_of_getElem? (i := 2) rfl) rfl rfl dX2_turnsToNext_26 29 rfl ?_
    refine z_iload_n C dX2_turnsToNext_29 rfl 2 rfl 30 rfl ?_
    refine z_iload C dX2_turnsToNext_30 4 rfl 32 rfl ?_
    refine z_callR C ([]) (fun v h => c_X6_cellOf l D T    v2 r_1 v h) ⟨rfl, rfl⟩ (z_cwN C 2 gX2_turnsToNext_X6_cellOf_n28 rfl (List.mem_of_getElem? (i := 11) rfl) (List.mem_of_getElem? (i := 9) rfl) (List.mem_of_getElem? (i := 10) rfl) dd_X6_cellOf ⟨(Nat.le_of_ble_eq_true rfl), (Nat.le_of_ble_eq_true rfl)⟩) (hD.zaddr rfl) [] rfl rfl (fun h => absurd h (by decide)) (fun _ => rfl) rfl (Nat.le_of_ble_eq_true rfl) dX2_turnsToNext_32 35 rfl h (fun r_2 h => ?_)
    refine z_iald C 6 rfl rfl dX2_turnsToNext_35 36 rfl h (fun h => ?_)
    refine z_if_eq C 42 dX2_turnsToNext_36 (by decide) 39 rfl h (fun h => ?_) (fun h => ?_)
    · refine z_iinc C (a.2 + 1) [(0, .ref (a0 99)), (1, .ref (a1 99)), (2, .int v2), (4, .int v4), (5, .int r_1), (6, .int (a.2 + 1))] dX2_turnsToNext_42 5 rfl rfl (Nat.le_of_ble_eq_true rfl) [1, 2, 3, 4, 5, 0] rfl 45 rfl ?_
      refine z_goto C 6 dX2_turnsToNext_45 (by decide) ?_
      exact z_locals (ks := [0, 1, 2, 3, 4, 5]) rfl (hrec _ _ _ h K)
    · refine z_locals (ks := [5]) (lv' := [(6, .int a.2)]) rfl ?_
      exact zexT1 (F := (fun e0 => zt p l e R s m args below meth c 7 A D 0 0 Q (wX1 T a0 S0 ++ wX5 T a1 S1) [(6, .int e0)] 39 [])) h K.1

def f_X2_turnsToNext (S0 : Nat → Nat → Int32) (S1 : Nat → Nat → Int32) (v2 : Int32) (v3 : Int32) (v4 : Int32) : Option (Int32) := (f_X2_turnsToNext_L6 S0 S1 v2 v4 zfuel (v3, 1)).bind fun y_3 => if y_3.1 = 0 then (some y_3.2) else (some (S0 1 0))
theorem dd_X2_turnsToNext : RX2 ≠ "java/lang/invoke/MethodHandle" ∧ RX2 ≠ "java/lang/invoke/VarHandle" ∧ (parseMethodDescriptor yX2_turnsToNext.desc).map (fun d => d.parameters.length) = some 5 := by decide +kernel
set_option maxHeartbeats 4000000 in
set_option maxRecDepth 100000 in
theorem c_X2_turnsToNext (l : Launch) (D : va_G) (T : Nat → ClassId) (a0 : Nat → Nat) (a1 : Nat → Nat) (S0 : Nat → Nat → Int32) (S1 : Nat → Nat → Int32) (v2 : Int32) (v3 : Int32) (v4 : Int32) (ex : Int32) (h : f_X2_turnsToNext S0 S1 v2 v3 v4 = some ex) : zRI l yX2_turnsToNext wsX2_turnsToNext ({ frames := 1, cells := 0, slots := 0, locals := 22 } : Room) D T [.ref (a0 99), .ref (a1 99), .int v2, .int v3, .int v4] (wX1 T a0 S0 ++ wX5 T a1 S1) ex := by
  refine z_begin (cc := cX2_turnsToNext) (nL := 7) (own := RX2) (fr := 1) (lc := 22) (ret := some .int) (by decide) rfl (Nat.le_of_ble_eq_true rfl) (fun _ => False) rfl [(0, .ref (a0 99)), (1, .ref (a1 99)), (2, .int v2), (3, .int v3), (4, .int v4)] rfl ⟨rfl, rfl⟩ rfl ?_
  intro p e s m args below meth c C hr hD
  unfold f_X2_turnsToNext at h
  refine z_iload_n C dX2_turnsToNext_0 rfl 3 rfl 1 rfl ?_
  refine z_istore C [(0, .ref (a0 99)), (1, .ref (a1 99)), (2, .int v2), (3, .int v3), (4, .int v4), (5, .int v3)] dX2_turnsToNext_1 (Nat.le_of_ble_eq_true rfl) [1, 2, 3, 4, 5, 0] rfl 3 rfl ?_
  refine z_iconst C 1 dX2_turnsToNext_3 (by decide) 4 rfl ?_
  refine z_istore C [(0, .ref (a0 99)), (1, .ref (a1 99)), (2, .int v2), (3, .int v3), (4, .int v4), (5, .int v3), (6, .int 1)] dX2_turnsToNext_4 (Nat.le_of_ble_eq_true rfl) [1, 2, 3, 4, 5, 6, 0] rfl 6 rfl ?_
  obtain ⟨y_3, hl_y_3, h⟩ := Option.bind_eq_some_iff.mp h
  refine z_locals (ks := [0, 1, 2, 4, 5, 6]) rfl (p_X2_turnsToNext_L6 C S0 S1 v2 v4 (hD.zaddr rfl) _ _ _ _ hl_y_3 ⟨fun ht => ?_, fun ht => ?_⟩)
  · replace h := z_pos ht h
    refine z_iload C dX2_turnsToNext_39 0 rfl 41 rfl ?_
    exact z_iretR C hr dX2_turnsToNext_41 h
  · replace h := z_neg (by rw [ht]; decide) h
    refine z_aload_n C dX2_turnsToNext_48 rfl 0 rfl 49 rfl ?_
    refine z_get C (in_X2_turnsToNext_X1) 0 rfl rfl 1 (by decide) (List.mem_of_getElem? (i := 1) rfl) rfl rfl dX2_turnsToNext_49 52 rfl ?_
    exact z_iretR C hr dX2_turnsToNext_52 h

end
/-! StreamTree$Drawing.passableSide (LStreamTree$Chart;III)I -/
section
variable {p : Program} {l : Launch} {e : Env} {R : Room} {s : State} {m : MethodId} {args : Array Value} {below : List Frame} {meth : Method} {c : Code} {Q : State → Prop} {A : Nat → Prop} {D : va_G} {T : Nat → ClassId} {a0 : Nat → Nat}
theorem in_X2_passableSide_X1 : ∀ w ∈ u_ws RX1 TX1 10, w ∈ wsX2_passableSide := fun _ h => (List.mem_cons_of_mem _ (List.mem_append_right _ h))
def f_X2_passableSide_L20b (S0 : Nat → Nat → Int32) (v1 : Int32) (v2 : Int32) (rec : Int32 → Option (Nat × Int32)) (a : Int32) : Option (Nat × Int32) := if 2 < a then (some (1, 0)) else ((f_X1_cellInwards S0 v1 v2 a).bind fun r_2 => zix r_2 240 fun _ => if (S0 9 (Int32.toNatClampNeg r_2)) = 0 then (some (0, a)) else (rec (a + 1)))
def f_X2_passableSide_L20 (S0 : Nat → Nat → Int32) (v1 : Int32) (v2 : Int32) : Nat → Int32 → Option (Nat × Int32) := zloop (fun rec a => f_X2_passableSide_L20b S0 v1 v2 rec a)
set_option maxHeartbeats 4000000 in
set_option maxRecDepth 100000 in
theorem p_X2_passableSide_L20 (C : zC p R s m args meth c cX2_passableSide 5 RX2 wsX2_passableSide D T 2 45 0 0) (S0 : Nat → Nat → Int32) (v1 : Int32) (v2 : Int32) (hD : va_D (fun _ => True) (wX1 T a0 S0)) : ∀ (n : Nat) (c0 : Int32) (b : Nat × Int32), f_X2_passableSide_L20 S0 v1 v2 n c0 = some b → ((b.1 = 0 → zt p l e R s m args below meth c 5 A D 0 0 Q (wX1 T a0 S0) [(4, .int b.2)] 42 []) ∧ (b.1 = 1 → zt p l e R s m args below meth c 5 A D 0 0 Q (wX1 T a0 S0) [] 51 [])) → zt p l e R s m args below meth c 5 A D 0 0 Q (wX1 T a0 S0) [(0, .ref (a0 99)), (1, .int v1), (2, .int v2), (4, .int c0)] 20 [] := by
  intro n c0 b h K
  refine zloop_ind (P := fun a b => ((b.1 = 0 → zt p l e R s m args below meth c 5 A D 0 0 Q (wX1 T a0 S0) [(4, .int b.2)] 42 []) ∧ (b.1 = 1 → zt p l e R s m args below meth c 5 A D 0 0 Q (wX1 T a0 S0) [] 51 [])) → zt p l e R s m args below meth c 5 A D 0 0 Q (wX1 T a0 S0) [(0, .ref (a0 99)), (1, .int v1), (2, .int v2), (4, .int a)] 20 []) ?_ n c0 b h K
  clear h K b c0
  intro rec hrec a b h K
  have hrec : ∀ (c0 : Int32) (b : Nat × Int32), rec c0 = some b → ((b.1 = 0 → zt p l e R s m args below meth c 5 A D 0 0 Q (wX1 T a0 S0) [(4, .int b.2)] 42 []) ∧ (b.1 = 1 → zt p l e R s m args below meth c 5 A D 0 0 Q (wX1 T a0 S0) [] 51 [])) → zt p l e R s m args below meth c 5 A D 0 0 Q (wX1 T a0 S0) [(0, .ref (a0 99)), (1, .int v1), (2, .int v2), (4, .int c0)] 20 [] := fun c0 b h K => hrec c0 b h K
  unfold f_X2_passableSide_L20b at h
  refine z_iload C dX2_passableSide_20 3 rfl 22 rfl ?_
  refine z_iconst C 2 dX2_passableSide_22 (by decide) 23 rfl ?_
  refine z_icmp_gt C 51 dX2_passableSide_23 (by decide) 26 rfl h (fun h => ?_) (fun h => ?_)
  · refine z_locals (ks := []) (lv' := []) rfl ?_
    exact zexT1 (F := (fun e0 => zt p l e R s m args below meth c 5 A D 0 0 Q (wX1 T a0 S0) [] 51 [])) h K.2
  · refine z_aload_n C dX2_passableSide_26 rfl 0 rfl 27 rfl ?_
    refine z_get C (in_X2_passableSide_X1) 0 rfl rfl 9 (by decide) (List.mem_of_getElem? (i := 1) rfl) rfl rfl dX2_passableSide_27 30 rfl ?_
    refine z_aload_n C dX2_passableSide_30 rfl 0 rfl 31 rfl ?_
    refine z_iload_n C dX2_passableSide_31 rfl 1 rfl 32 rfl ?_
    refine z_iload_n C dX2_passableSide_32 rfl 2 rfl 33 rfl ?_
    refine z_iload C dX2_passableSide_33 3 rfl 35 rfl ?_
    refine z_callR C (wX1 T a0 S0) (fun v h => c_X1_cellInwards l D T a0  S0 v1 v2 a v h) ⟨rfl, rfl⟩ (z_cwV C 3 gX2_passableSide_X1_cellInwards rfl rfl dd_X1_cellInwards ⟨(Nat.le_of_ble_eq_true rfl), (Nat.le_of_ble_eq_true rfl)⟩) (hD.zaddr rfl) [0, 1, 2, 3, 4] rfl rfl (fun _ => ⟨a0 99, [.int v1, .int v2, .int a], 1, 0, _, _, rfl, rfl, rfl, rfl, rfl⟩) (fun h => absurd rfl h) rfl (Nat.le_of_ble_eq_true rfl) dX2_passableSide_35 38 rfl h (fun r_2 h => ?_)
    refine z_zald C 4 rfl rfl dX2_passableSide_38 39 rfl h (fun h => ?_)
    refine z_if_ne C 45 dX2_passableSide_39 (by decide) 42 rfl h (fun h => ?_) (fun h => ?_)
    · refine z_iinc C (a + 1) [(0, .ref (a0 99)), (1, .int v1), (2, .int v2), (4, .int (a + 1))] dX2_passableSide_45 3 rfl rfl (Nat.le_of_ble_eq_true rfl) [1, 2, 3, 0] rfl 48 rfl ?_
      refine z_goto C 20 dX2_passableSide_48 (by decide) ?_
      exact z_locals (ks := [0, 1, 2, 3]) rfl (hrec _ _ h K)
    · refine z_locals (ks := [3]) (lv' := [(4, .int a)]) rfl ?_
      exact zexT1 (F := (fun e0 => zt p l e R s m args below meth c 5 A D 0 0 Q (wX1 T a0 S0) [(4, .int e0)] 42 [])) h K.1

def f_X2_passableSide (S0 : Nat → Nat → Int32) (v1 : Int32) (v2 : Int32) (v3 : Int32) : Option (Int32) := (f_X1_cellInwards S0 v1 v2 v3).bind fun r_1 => zix r_1 240 fun _ => if (S0 9 (Int32.toNatClampNeg r_1)) = 0 then (some v3) else ((f_X2_passableSide_L20 S0 v1 v2 zfuel 0).bind fun y_3 => if y_3.1 = 0 then (some y_3.2) else (some (-1)))
theorem dd_X2_passableSide : RX2 ≠ "java/lang/invoke/MethodHandle" ∧ RX2 ≠ "java/lang/invoke/VarHandle" ∧ (parseMethodDescriptor yX2_passableSide.desc).map (fun d => d.parameters.length) = some 4 := by decide +kernel
set_option maxHeartbeats 4000000 in
set_option maxRecDepth 100000 in
theorem c_X2_passableSide (l : Launch) (D : va_G) (T : Nat → ClassId) (a0 : Nat → Nat) (S0 : Nat → Nat → Int32) (v1 : Int32) (v2 : Int32) (v3 : Int32) (ex : Int32) (h : f_X2_passableSide S0 v1 v2 v3 = some ex) : zRI l yX2_passableSide wsX2_passableSide ({ frames := 2, cells := 0, slots := 0, locals := 45 } : Room) D T [.ref (a0 99), .int v1, .int v2, .int v3] (wX1 T a0 S0) ex := by
  refine z_begin (cc := cX2_passableSide) (nL := 5) (own := RX2) (fr := 2) (lc := 45) (ret := some .int) (by decide) rfl (Nat.le_of_ble_eq_true rfl) (fun _ => False) rfl [(0, .ref (a0 99)), (1, .int v1), (2, .int v2), (3, .int v3)] rfl ⟨rfl, rfl⟩ rfl ?_
  intro p e s m args below meth c C hr hD
  unfold f_X2_passableSide at h
  refine z_aload_n C dX2_passableSide_0 rfl 0 rfl 1 rfl ?_
  refine z_get C (in_X2_passableSide_X1) 0 rfl rfl 9 (by decide) (List.mem_of_getElem? (i := 1) rfl) rfl rfl dX2_passableSide_1 4 rfl ?_
  refine z_aload_n C dX2_passableSide_4 rfl 0 rfl 5 rfl ?_
  refine z_iload_n C dX2_passableSide_5 rfl 1 rfl 6 rfl ?_
  refine z_iload_n C dX2_passableSide_6 rfl 2 rfl 7 rfl ?_
  refine z_iload_n C dX2_passableSide_7 rfl 3 rfl 8 rfl ?_
  refine z_callR C (wX1 T a0 S0) (fun v h => c_X1_cellInwards l D T a0  S0 v1 v2 v3 v h) ⟨rfl, rfl⟩ (z_cwV C 3 gX2_passableSide_X1_cellInwards rfl rfl dd_X1_cellInwards ⟨(Nat.le_of_ble_eq_true rfl), (Nat.le_of_ble_eq_true rfl)⟩) (hD.zaddr rfl) [0, 1, 2, 3, 4] rfl rfl (fun _ => ⟨a0 99, [.int v1, .int v2, .int v3], 1, 0, _, _, rfl, rfl, rfl, rfl, rfl⟩) (fun h => absurd rfl h) rfl (Nat.le_of_ble_eq_true rfl) dX2_passableSide_8 11 rfl h (fun r_1 h => ?_)
  refine z_zald C 4 rfl rfl dX2_passableSide_11 12 rfl h (fun h => ?_)
  refine z_if_ne C 17 dX2_passableSide_12 (by decide) 15 rfl h (fun h => ?_) (fun h => ?_)
  · refine z_iconst C 0 dX2_passableSide_17 (by decide) 18 rfl ?_
    refine z_istore C [(0, .ref (a0 99)), (1, .int v1), (2, .int v2), (3, .int v3), (4, .int 0)] dX2_passableSide_18 (Nat.le_of_ble_eq_true rfl) [1, 2, 3, 4, 0] rfl 20 rfl ?_
    obtain ⟨y_3, hl_y_3, h⟩ := Option.bind_eq_some_iff.mp h
    refine z_locals (ks := [0, 1, 2, 4]) rfl (p_X2_passableSide_L20 C S0 v1 v2 (hD.zaddr rfl) _ _ _ hl_y_3 ⟨fun ht => ?_, fun ht => ?_⟩)
    · replace h := z_pos ht h
      refine z_iload C dX2_passableSide_42 0 rfl 44 rfl ?_
      exact z_iretR C hr dX2_passableSide_44 h
    · replace h := z_neg (by rw [ht]; decide) h
      refine z_iconst C (-1) dX2_passableSide_51 (by decide) 52 rfl ?_
      exact z_iretR C hr dX2_passableSide_52 h
  · refine z_iload_n C dX2_passableSide_15 rfl 3 rfl 16 rfl ?_
    exact z_iretR C hr dX2_passableSide_16 h

end
/-! StreamTree$Drawing.go (LStreamTree$Chart;LStreamTree$Tree;III)V -/
section
variable {p : Program} {l : Launch} {e : Env} {R : Room} {s : State} {m : MethodId} {args : Array Value} {below : List Frame} {meth : Method} {c : Code} {Q : State → Prop} {A : Nat → Prop} {D : va_G} {T : Nat → ClassId} {a0 : Nat → Nat} {a1 : Nat → Nat}
theorem in_X2_go_X5 : ∀ w ∈ u_ws RX5 TX5 5, w ∈ wsX2_go := fun _ h => (List.mem_cons_of_mem _ (List.mem_append_left _ (List.mem_append_right _ h)))
def f_X2_go (S0 : Nat → Nat → Int32) (S1 : Nat → Nat → Int32) (v2 : Int32) (v3 : Int32) (v4 : Int32) : Option ((Nat → Nat → Int32)) := (f_X6_cellOf v2 v3).bind fun r_1 => zix r_1 240 fun _ => if (S1 3 (Int32.toNatClampNeg r_1)) = 0 then (some S1) else (zix r_1 240 fun j => zlet (zst S1 4 j v4) fun S1_2 => (f_X1_cellInwards S0 v2 v3 v4).bind fun r_3 => zix r_3 240 fun _ => zix r_1 240 fun _ => zix r_3 240 fun j => zlet (zst S1_2 3 j ((S1_2 3 (Int32.toNatClampNeg r_3)) ||| (S1_2 3 (Int32.toNatClampNeg r_1)))) fun S1_4 => some S1_4)
theorem dd_X2_go : RX2 ≠ "java/lang/invoke/MethodHandle" ∧ RX2 ≠ "java/lang/invoke/VarHandle" ∧ (parseMethodDescriptor yX2_go.desc).map (fun d => d.parameters.length) = some 5 := by decide +kernel
set_option maxHeartbeats 4000000 in
set_option maxRecDepth 100000 in
theorem c_X2_go (l : Launch) (D : va_G) (T : Nat → ClassId) (a0 : Nat → Nat) (a1 : Nat → Nat) (S0 : Nat → Nat → Int32) (S1 : Nat → Nat → Int32) (v2 : Int32) (v3 : Int32) (v4 : Int32) (ex : (Nat → Nat → Int32)) (h : f_X2_go S0 S1 v2 v3 v4 = some ex) : zWV l yX2_go wsX2_go ({ frames := 2, cells := 0, slots := 0, locals := 45 } : Room) D T [.ref (a0 99), .ref (a1 99), .int v2, .int v3, .int v4] (wX1 T a0 S0 ++ wX5 T a1 S1) (wX1 T a0 S0 ++ wX5 T a1 ex) := by
  refine z_begin (cc := cX2_go) (nL := 6) (own := RX2) (fr := 2) (lc := 45) (ret := none) (by decide) rfl (Nat.le_of_ble_eq_true rfl) (zA (wX1 T a0 S0 ++ wX5 T a1 S1)) rfl [(0, .ref (a0 99)), (1, .ref (a1 99)), (2, .int v2), (3, .int v3), (4, .int v4)] rfl ⟨rfl, rfl⟩ rfl ?_
  intro p e s m args below meth c C hr hD
  have hD := hD.zself
  unfold f_X2_go at h
  refine z_iload_n C dX2_go_0 rfl 2 rfl 1 rfl ?_
  refine z_iload_n C dX2_go_1 rfl 3 rfl 2 rfl ?_
  refine z_callR C ([]) (fun v h => c_X6_cellOf l D T    v2 v3 v h) ⟨rfl, rfl⟩ (z_cwN C 2 gX2_go_X6_cellOf_n28 rfl (List.mem_of_getElem? (i := 11) rfl) (List.mem_of_getElem? (i := 3) rfl) (List.mem_of_getElem? (i := 4) rfl) dd_X6_cellOf ⟨(Nat.le_of_ble_eq_true rfl), (Nat.le_of_ble_eq_true rfl)⟩) (hD.zaddr rfl) [] rfl rfl (fun h => absurd h (by decide)) (fun _ => rfl) rfl (Nat.le_of_ble_eq_true rfl) dX2_go_2 5 rfl h (fun r_1 h => ?_)
  refine z_istore C [(0, .ref (a0 99)), (1, .ref (a1 99)), (2, .int v2), (3, .int v3), (4, .int v4), (5, .int r_1)] dX2_go_5 (Nat.le_of_ble_eq_true rfl) [1, 2, 3, 4, 5, 0] rfl 7 rfl ?_
  refine z_aload_n C dX2_go_7 rfl 1 rfl 8 rfl ?_
  refine z_get C (in_X2_go_X5) 5 rfl rfl 3 (by decide) (List.mem_of_getElem? (i := 1) rfl) rfl rfl dX2_go_8 11 rfl ?_
  refine z_iload C dX2_go_11 5 rfl 13 rfl ?_
  refine z_iald C 6 rfl rfl dX2_go_13 14 rfl h (fun h => ?_)
  refine z_if_eq C 49 dX2_go_14 (by decide) 17 rfl h (fun h => ?_) (fun h => ?_)
  · exact z_vretW (x := S1) (ex := ex) (fun z => wX1 T a0 S0 ++ wX5 T a1 z) C hr dX2_go_49 h rfl
  · refine z_aload_n C dX2_go_17 rfl 1 rfl 18 rfl ?_
    refine z_get C (in_X2_go_X5) 5 rfl rfl 4 (by decide) (List.mem_of_getElem? (i := 2) rfl) rfl rfl dX2_go_18 21 rfl ?_
    refine z_iload C dX2_go_21 5 rfl 23 rfl ?_
    refine z_iload C dX2_go_23 4 rfl 25 rfl ?_
    refine z_iast C (fun z => wX1 T a0 S0 ++ wX5 T a1 z) S1 4 (hD.zaddr rfl) 7 rfl rfl (fun _ => rfl) dX2_go_25 26 rfl h (fun S1_2 h => ?_)
    refine z_aload_n C dX2_go_26 rfl 1 rfl 27 rfl ?_
    refine z_get C (in_X2_go_X5) 5 rfl rfl 3 (by decide) (List.mem_of_getElem? (i := 1) rfl) rfl rfl dX2_go_27 30 rfl ?_
    refine z_aload_n C dX2_go_30 rfl 0 rfl 31 rfl ?_
    refine z_iload_n C dX2_go_31 rfl 2 rfl 32 rfl ?_
    refine z_iload_n C dX2_go_32 rfl 3 rfl 33 rfl ?_
    refine z_iload C dX2_go_33 4 rfl 35 rfl ?_
    refine z_callR C (wX1 T a0 S0) (fun v h => c_X1_cellInwards l D T a0  S0 v2 v3 v4 v h) ⟨rfl, rfl⟩ (z_cwV C 3 gX2_go_X1_cellInwards rfl rfl dd_X1_cellInwards ⟨(Nat.le_of_ble_eq_true rfl), (Nat.le_of_ble_eq_true rfl)⟩) (hD.zaddr rfl) [0, 1, 2, 3, 4] rfl rfl (fun _ => ⟨a0 99, [.int v2, .int v3, .int v4], 1, 0, _, _, rfl, rfl, rfl, rfl, rfl⟩) (fun h => absurd rfl h) rfl (Nat.le_of_ble_eq_true rfl) dX2_go_35 38 rfl h (fun r_3 h => ?_)
    refine z_dup2 C dX2_go_38 rfl rfl 39 rfl ?_
    refine z_iald C 6 rfl rfl dX2_go_39 40 rfl h (fun h => ?_)
    refine z_aload_n C dX2_go_40 rfl 1 rfl 41 rfl ?_
    refine z_get C (in_X2_go_X5) 5 rfl rfl 3 (by decide) (List.mem_of_getElem? (i := 1) rfl) rfl rfl dX2_go_41 44 rfl ?_
    refine z_iload C dX2_go_44 5 rfl 46 rfl ?_
    refine z_iald C 6 rfl rfl dX2_go_46 47 rfl h (fun h => ?_)
    refine z_ior C dX2_go_47 48 rfl ?_
    refine z_iast C (fun z => wX1 T a0 S0 ++ wX5 T a1 z) S1_2 3 (hD.zaddr rfl) 6 rfl rfl (fun _ => rfl) dX2_go_48 49 rfl h (fun S1_4 h => ?_)
    exact z_vretW (x := S1_4) (ex := ex) (fun z => wX1 T a0 S0 ++ wX5 T a1 z) C hr dX2_go_49 h rfl

end
/-! StreamTree$Drawing.straighten (LStreamTree$Chart;LStreamTree$Tree;II)V -/
section
variable {p : Program} {l : Launch} {e : Env} {R : Room} {s : State} {m : MethodId} {args : Array Value} {below : List Frame} {meth : Method} {c : Code} {Q : State → Prop} {A : Nat → Prop} {D : va_G} {T : Nat → ClassId} {a0 : Nat → Nat} {a1 : Nat → Nat}
theorem in_X2_straighten_X5 : ∀ w ∈ u_ws RX5 TX5 5, w ∈ wsX2_straighten := fun _ h => (List.mem_cons_of_mem _ (List.mem_append_left _ (List.mem_append_right _ h)))
def f_X2_straighten (S0 : Nat → Nat → Int32) (S1 : Nat → Nat → Int32) (v2 : Int32) (v3 : Int32) : Option ((Nat → Nat → Int32)) := (f_X6_cellOf v2 v3).bind fun r_1 => zix r_1 240 fun _ => (f_X1_cellInwards S0 v2 v3 (S1 4 (Int32.toNatClampNeg r_1))).bind fun r_2 => (f_X6_cellOf (v2 - 1) v3).bind fun r_3 => zix r_2 240 fun j => zlet (zst S1 3 j 0) fun S1_4 => zix r_2 240 fun j => zlet (zst S1_4 4 j (-1)) fun S1_5 => zix r_1 240 fun _ => zix r_3 240 fun j => zlet (zst S1_5 3 j (S1_5 3 (Int32.toNatClampNeg r_1))) fun S1_6 => zix r_3 240 fun j => zlet (zst S1_6 4 j 0) fun S1_7 => zix r_1 240 fun j => zlet (zst S1_7 4 j 0) fun S1_8 => some S1_8
theorem dd_X2_straighten : RX2 ≠ "java/lang/invoke/MethodHandle" ∧ RX2 ≠ "java/lang/invoke/VarHandle" ∧ (parseMethodDescriptor yX2_straighten.desc).map (fun d => d.parameters.length) = some 4 := by decide +kernel
set_option maxHeartbeats 4000000 in
set_option maxRecDepth 100000 in
theorem c_X2_straighten (l : Launch) (D : va_G) (T : Nat → ClassId) (a0 : Nat → Nat) (a1 : Nat → Nat) (S0 : Nat → Nat → Int32) (S1 : Nat → Nat → Int32) (v2 : Int32) (v3 : Int32) (ex : (Nat → Nat → Int32)) (h : f_X2_straighten S0 S1 v2 v3 = some ex) : zWV l yX2_straighten wsX2_straighten ({ frames := 2, cells := 0, slots := 0, locals := 45 } : Room) D T [.ref (a0 99), .ref (a1 99), .int v2, .int v3] (wX1 T a0 S0 ++ wX5 T a1 S1) (wX1 T a0 S0 ++ wX5 T a1 ex) := by
  refine z_begin (cc := cX2_straighten) (nL := 7) (own := RX2) (fr := 2) (lc := 45) (ret := none) (by decide) rfl (Nat.le_of_ble_eq_true rfl) (zA (wX1 T a0 S0 ++ wX5 T a1 S1)) rfl [(0, .ref (a0 99)), (1, .ref (a1 99)), (2, .int v2), (3, .int v3)] rfl ⟨rfl, rfl⟩ rfl ?_
  intro p e s m args below meth c C hr hD
  have hD := hD.zself
  unfold f_X2_straighten at h
  refine z_iload_n C dX2_straighten_0 rfl 2 rfl 1 rfl ?_
  refine z_iload_n C dX2_straighten_1 rfl 3 rfl 2 rfl ?_
  refine z_callR C ([]) (fun v h => c_X6_cellOf l D T    v2 v3 v h) ⟨rfl, rfl⟩ (z_cwN C 2 gX2_straighten_X6_cellOf_n28 rfl (List.mem_of_getElem? (i := 11) rfl) (List.mem_of_getElem? (i := 3) rfl) (List.mem_of_getElem? (i := 4) rfl) dd_X6_cellOf ⟨(Nat.le_of_ble_eq_true rfl), (Nat.le_of_ble_eq_true rfl)⟩) (hD.zaddr rfl) [] rfl rfl (fun h => absurd h (by decide)) (fun _ => rfl) rfl (Nat.le_of_ble_eq_true rfl) dX2_straighten_2 5 rfl h (fun r_1 h => ?_)
  refine z_istore C [(0, .ref (a0 99)), (1, .ref (a1 99)), (2, .int v2), (3, .int v3), (4, .int r_1)] dX2_straighten_5 (Nat.le_of_ble_eq_true rfl) [1, 2, 3, 4, 0] rfl 7 rfl ?_
  refine z_aload_n C dX2_straighten_7 rfl 0 rfl 8 rfl ?_
  refine z_iload_n C dX2_straighten_8 rfl 2 rfl 9 rfl ?_
  refine z_iload_n C dX2_straighten_9 rfl 3 rfl 10 rfl ?_
  refine z_aload_n C dX2_straighten_10 rfl 1 rfl 11 rfl ?_
  refine z_get C (in_X2_straighten_X5) 5 rfl rfl 4 (by decide) (List.mem_of_getElem? (i := 1) rfl) rfl rfl dX2_straighten_11 14 rfl ?_
  refine z_iload C dX2_straighten_14 4 rfl 16 rfl ?_
  refine z_iald C 7 rfl rfl dX2_straighten_16 17 rfl h (fun h => ?_)
  refine z_callR C (wX1 T a0 S0) (fun v h => c_X1_cellInwards l D T a0  S0 v2 v3 (S1 4 (Int32.toNatClampNeg r_1)) v h) ⟨rfl, rfl⟩ (z_cwV C 3 gX2_straighten_X1_cellInwards rfl rfl dd_X1_cellInwards ⟨(Nat.le_of_ble_eq_true rfl), (Nat.le_of_ble_eq_true rfl)⟩) (hD.zaddr rfl) [0, 1, 2, 3, 4] rfl rfl (fun _ => ⟨a0 99, [.int v2, .int v3, .int (S1 4 (Int32.toNatClampNeg r_1))], 1, 0, _, _, rfl, rfl, rfl, rfl, rfl⟩) (fun h => absurd rfl h) rfl (Nat.le_of_ble_eq_true rfl) dX2_straighten_17 20 rfl h (fun r_2 h => ?_)
  refine z_istore C [(0, .ref (a0 99)), (1, .ref (a1 99)), (2, .int v2), (3, .int v3), (4, .int r_1), (5, .int r_2)] dX2_straighten_20 (Nat.le_of_ble_eq_true rfl) [1, 2, 3, 4, 5, 0] rfl 22 rfl ?_
  refine z_iload_n C dX2_straighten_22 rfl 2 rfl 23 rfl ?_
  refine z_iconst C 1 dX2_straighten_23 (by decide) 24 rfl ?_
  refine z_isub C dX2_straighten_24 25 rfl ?_
  refine z_iload_n C dX2_straighten_25 rfl 3 rfl 26 rfl ?_
  refine z_callR C ([]) (fun v h => c_X6_cellOf l D T    (v2 - 1) v3 v h) ⟨rfl, rfl⟩ (z_cwN C 2 gX2_straighten_X6_cellOf_n28 rfl (List.mem_of_getElem? (i := 11) rfl) (List.mem_of_getElem? (i := 3) rfl) (List.mem_of_getElem? (i := 4) rfl) dd_X6_cellOf ⟨(Nat.le_of_ble_eq_true rfl), (Nat.le_of_ble_eq_true rfl)⟩) (hD.zaddr rfl) [] rfl rfl (fun h => absurd h (by decide)) (fun _ => rfl) rfl (Nat.le_of_ble_eq_true rfl) dX2_straighten_26 29 rfl h (fun r_3 h => ?_)
  refine z_istore C [(0, .ref (a0 99)), (1, .ref (a1 99)), (2, .int v2), (3, .int v3), (4, .int r_1), (5, .int r_2), (6, .int r_3)] dX2_straighten_29 (Nat.le_of_ble_eq_true rfl) [1, 2, 3, 4, 5, 6, 0] rfl 31 rfl ?_
  refine z_aload_n C dX2_straighten_31 rfl 1 rfl 32 rfl ?_
  refine z_get C (in_X2_straighten_X5) 5 rfl rfl 3 (by decide) (List.mem_of_getElem? (i := 2) rfl) rfl rfl dX2_straighten_32 35 rfl ?_
  refine z_iload C dX2_straighten_35 5 rfl 37 rfl ?_
  refine z_iconst C 0 dX2_straighten_37 (by decide) 38 rfl ?_
  refine z_iast C (fun z => wX1 T a0 S0 ++ wX5 T a1 z) S1 3 (hD.zaddr rfl) 6 rfl rfl (fun _ => rfl) dX2_straighten_38 39 rfl h (fun S1_4 h => ?_)
  refine z_aload_n C dX2_straighten_39 rfl 1 rfl 40 rfl ?_
  refine z_get C (in_X2_straighten_X5) 5 rfl rfl 4 (by decide) (List.mem_of_getElem? (i := 1) rfl) rfl rfl dX2_straighten_40 43 rfl ?_
  refine z_iload C dX2_straighten_43 5 rfl 45 rfl ?_
  refine z_iconst C (-1) dX2_straighten_45 (by decide) 46 rfl ?_
  refine z_iast C (fun z => wX1 T a0 S0 ++ wX5 T a1 z) S1_4 4 (hD.zaddr rfl) 7 rfl rfl (fun _ => rfl) dX2_straighten_46 47 rfl h (fun S1_5 h => ?_)
  refine z_aload_n C dX2_straighten_47 rfl 1 rfl 48 rfl ?_
  refine z_get C (in_X2_straighten_X5) 5 rfl rfl 3 (by decide) (List.mem_of_getElem? (i := 2) rfl) rfl rfl dX2_straighten_48 51 rfl ?_
  refine z_iload C dX2_straighten_51 6 rfl 53 rfl ?_
  refine z_aload_n C dX2_straighten_53 rfl 1 rfl 54 rfl ?_
  refine z_get C (in_X2_straighten_X5) 5 rfl rfl 3 (by decide) (List.mem_of_getElem? (i := 2) rfl) rfl rfl dX2_straighten_54 57 rfl ?_
  refine z_iload C dX2_straighten_57 4 rfl 59 rfl ?_
  refine z_iald C 6 rfl rfl dX2_straighten_59 60 rfl h (fun h => ?_)
  refine z_iast C (fun z => wX1 T a0 S0 ++ wX5 T a1 z) S1_5 3 (hD.zaddr rfl) 6 rfl rfl (fun _ => rfl) dX2_straighten_60 61 rfl h (fun S1_6 h => ?_)
  refine z_aload_n C dX2_straighten_61 rfl 1 rfl 62 rfl ?_
  refine z_get C (in_X2_straighten_X5) 5 rfl rfl 4 (by decide) (List.mem_of_getElem? (i := 1) rfl) rfl rfl dX2_straighten_62 65 rfl ?_
  refine z_iload C dX2_straighten_65 6 rfl 67 rfl ?_
  refine z_iconst C 0 dX2_straighten_67 (by decide) 68 rfl ?_
  refine z_iast C (fun z => wX1 T a0 S0 ++ wX5 T a1 z) S1_6 4 (hD.zaddr rfl) 7 rfl rfl (fun _ => rfl) dX2_straighten_68 69 rfl h (fun S1_7 h => ?_)
  refine z_aload_n C dX2_straighten_69 rfl 1 rfl 70 rfl ?_
  refine z_get C (in_X2_straighten_X5) 5 rfl rfl 4 (by decide) (List.mem_of_getElem? (i := 1) rfl) rfl rfl dX2_straighten_70 73 rfl ?_
  refine z_iload C dX2_straighten_73 4 rfl 75 rfl ?_
  refine z_iconst C 0 dX2_straighten_75 (by decide) 76 rfl ?_
  refine z_iast C (fun z => wX1 T a0 S0 ++ wX5 T a1 z) S1_7 4 (hD.zaddr rfl) 7 rfl rfl (fun _ => rfl) dX2_straighten_76 77 rfl h (fun S1_8 h => ?_)
  exact z_vretW (x := S1_8) (ex := ex) (fun z => wX1 T a0 S0 ++ wX5 T a1 z) C hr dX2_straighten_77 h rfl

end
/-! StreamTree$Drawing.otherSide (I)I -/
section
variable {p : Program} {l : Launch} {e : Env} {R : Room} {s : State} {m : MethodId} {args : Array Value} {below : List Frame} {meth : Method} {c : Code} {Q : State → Prop} {A : Nat → Prop} {D : va_G} {T : Nat → ClassId} 
def f_X2_otherSide  (v0 : Int32) : Option (Int32) := if v0 = 1 then (some 2) else (some 1)
theorem dd_X2_otherSide : RX2 ≠ "java/lang/invoke/MethodHandle" ∧ RX2 ≠ "java/lang/invoke/VarHandle" ∧ (parseMethodDescriptor yX2_otherSide.desc).map (fun d => d.parameters.length) = some 1 := by decide +kernel
set_option maxHeartbeats 4000000 in
set_option maxRecDepth 100000 in
theorem c_X2_otherSide (l : Launch) (D : va_G) (T : Nat → ClassId)   (v0 : Int32) (ex : Int32) (h : f_X2_otherSide v0 = some ex) : zRI l yX2_otherSide wsX2_otherSide ({ frames := 0, cells := 0, slots := 0, locals := 0 } : Room) D T [.int v0] ([]) ex := by
  refine z_begin (cc := cX2_otherSide) (nL := 1) (own := RX2) (fr := 0) (lc := 0) (ret := some .int) (by decide) rfl (Nat.le_of_ble_eq_true rfl) (fun _ => False) rfl [(0, .int v0)] rfl ⟨rfl, rfl⟩ rfl ?_
  intro p e s m args below meth c C hr hD
  unfold f_X2_otherSide at h
  refine z_iload_n C dX2_otherSide_0 rfl 0 rfl 1 rfl ?_
  refine z_iconst C 1 dX2_otherSide_1 (by decide) 2 rfl ?_
  refine z_icmp_ne C 9 dX2_otherSide_2 (by decide) 5 rfl h (fun h => ?_) (fun h => ?_)
  · refine z_iconst C 1 dX2_otherSide_9 (by decide) 10 rfl ?_
    exact z_iretR C hr dX2_otherSide_10 h
  · refine z_iconst C 2 dX2_otherSide_5 (by decide) 6 rfl ?_
    refine z_goto C 10 dX2_otherSide_6 (by decide) ?_
    exact z_iretR C hr dX2_otherSide_10 h

end
/-! StreamTree$Drawing.drawLeast (LStreamTree$Chart;LStreamTree$Bests;LStreamTree$Tree;)V -/
section
variable {p : Program} {l : Launch} {e : Env} {R : Room} {s : State} {m : MethodId} {args : Array Value} {below : List Frame} {meth : Method} {c : Code} {Q : State → Prop} {A : Nat → Prop} {D : va_G} {T : Nat → ClassId} {a0 : Nat → Nat} {a1 : Nat → Nat} {a2 : Nat → Nat}
theorem in_X2_drawLeast_X1 : ∀ w ∈ u_ws RX1 TX1 10, w ∈ wsX2_drawLeast := fun _ h => (List.mem_cons_of_mem _ (List.mem_append_left _ (List.mem_append_right _ h)))
theorem in_X2_drawLeast_X5 : ∀ w ∈ u_ws RX5 TX5 5, w ∈ wsX2_drawLeast := fun _ h => (List.mem_cons_of_mem _ (List.mem_append_left _ (List.mem_append_left _ (List.mem_append_right _ h))))
def f_X2_drawLeast_J76 (S0 : Nat → Nat → Int32) (S1 : Nat → Nat → Int32) (S2 : Nat → Nat → Int32) (x3 : Int32)  : Option ((Nat → Nat → Int32) × (Nat → Nat → Int32)) := (f_X5_finish S2 S0 x3).bind fun r_4 => some (S1, r_4)
set_option maxHeartbeats 4000000 in
set_option maxRecDepth 100000 in
theorem p_X2_drawLeast_J76 {w0 : va_W} (C : zC p R s m args meth c cX2_drawLeast 6 RX2 wsX2_drawLeast D T 4 104 0 0) (hr : meth.sig.returnType = none) (S0 : Nat → Nat → Int32) (S1 : Nat → Nat → Int32) (S2 : Nat → Nat → Int32) (x3 : Int32)  (hD : va_D (zA w0) (wX1 T a0 S0 ++ (wX0 T a1 S1 ++ wX5 T a2 S2))) {ex : (Nat → Nat → Int32) × (Nat → Nat → Int32)} (h : f_X2_drawLeast_J76 S0 S1 S2 x3 = some ex) : zt p l e R s m args below meth c 6 (zA w0) D 0 0 (MQ below (zQV D w0 (wX1 T a0 S0 ++ (wX0 T a1 ex.1 ++ wX5 T a2 ex.2))) args s 0 0 (zA w0)) (wX1 T a0 S0 ++ (wX0 T a1 S1 ++ wX5 T a2 S2)) [(0, .ref (a0 99)), (2, .ref (a2 99)), (3, .int x3)] 76 [] := by
  unfold f_X2_drawLeast_J76 at h
  refine z_aload_n C dX2_drawLeast_76 rfl 1 rfl 77 rfl ?_
  refine z_aload_n C dX2_drawLeast_77 rfl 0 rfl 78 rfl ?_
  refine z_iload_n C dX2_drawLeast_78 rfl 2 rfl 79 rfl ?_
  refine z_callV C (wX5 T a2 S2 ++ wX1 T a0 S0) (wX0 T a1 S1) (fun z => wX5 T a2 z ++ wX1 T a0 S0) (fun z => wX1 T a0 S0 ++ (wX0 T a1 S1 ++ wX5 T a2 z)) (fun z h => c_X5_finish l D T a2 a0  S2 S0 x3 z h) ⟨rfl, rfl⟩ (z_cwV C 2 gX2_drawLeast_X5_finish rfl rfl dd_X5_finish ⟨(Nat.le_of_ble_eq_true rfl), (Nat.le_of_ble_eq_true rfl)⟩) (hD.zaddr rfl) [12, 13, 14, 0, 1, 2, 3, 4] [5, 6, 7, 8, 9, 10, 11] [10, 11, 12, 13, 14, 0, 1, 2, 3, 4, 5, 6, 7, 8, 9] rfl rfl rfl (by decide) (fun _ => rfl) (fun _ => ⟨a2 99, [.ref (a0 99), .int x3], 4, 0, _, _, rfl, rfl, rfl, rfl, rfl⟩) (fun h => absurd rfl h) rfl (Nat.le_of_ble_eq_true rfl) dX2_drawLeast_79 82 rfl h (fun r_4 h => ?_)
  exact z_vretW (x := (S1, r_4)) (ex := ex) (fun z => wX1 T a0 S0 ++ (wX0 T a1 z.1 ++ wX5 T a2 z.2)) C hr dX2_drawLeast_82 h rfl

def f_X2_drawLeast_L43b (S0 : Nat → Nat → Int32) (v3 : Int32) (v4 : Int32) (rec : (Int32 × (Nat → Nat → Int32) × (Nat → Nat → Int32)) → Option ((Nat → Nat → Int32) × (Nat → Nat → Int32))) (a : Int32 × (Nat → Nat → Int32) × (Nat → Nat → Int32)) : Option ((Nat → Nat → Int32) × (Nat → Nat → Int32)) := (f_X1_turnsOf S0 v4).bind fun r_7 => if r_7 ≤ a.1 then (some (a.2.1, a.2.2)) else ((f_X0_unfold a.2.1 S0 a.2.2 v4 a.1).bind fun r_8 => rec ((a.1 + 1), r_8.1, r_8.2))
def f_X2_drawLeast_L43 (S0 : Nat → Nat → Int32) (v3 : Int32) (v4 : Int32) : Nat → (Int32 × (Nat → Nat → Int32) × (Nat → Nat → Int32)) → Option ((Nat → Nat → Int32) × (Nat → Nat → Int32)) := zloop (fun rec a => f_X2_drawLeast_L43b S0 v3 v4 rec a)
set_option maxHeartbeats 4000000 in
set_option maxRecDepth 100000 in
theorem p_X2_drawLeast_L43 (C : zC p R s m args meth c cX2_drawLeast 6 RX2 wsX2_drawLeast D T 4 104 0 0) (S0 : Nat → Nat → Int32) (S1 : Nat → Nat → Int32) (S2 : Nat → Nat → Int32) (v3 : Int32) (v4 : Int32) (hD : va_D A (wX1 T a0 S0 ++ (wX0 T a1 S1 ++ wX5 T a2 S2))) : ∀ (n : Nat) (c0 : Int32) (c1 : Nat → Nat → Int32) (c2 : Nat → Nat → Int32) (b : (Nat → Nat → Int32) × (Nat → Nat → Int32)), f_X2_drawLeast_L43 S0 v3 v4 n (c0, c1, c2) = some b → (zt p l e R s m args below meth c 6 A D 0 0 Q (wX1 T a0 S0 ++ (wX0 T a1 b.1 ++ wX5 T a2 b.2)) [(0, .ref (a0 99)), (1, .ref (a1 99)), (2, .ref (a2 99)), (3, .int v3), (4, .int v4)] 70 []) → zt p l e R s m args below meth c 6 A D 0 0 Q (wX1 T a0 S0 ++ (wX0 T a1 c1 ++ wX5 T a2 c2)) [(0, .ref (a0 99)), (1, .ref (a1 99)), (2, .ref (a2 99)), (3, .int v3), (4, .int v4), (5, .int c0)] 43 [] := by
  intro n c0 c1 c2 b h K
  refine zloop_ind (P := fun a b => (zt p l e R s m args below meth c 6 A D 0 0 Q (wX1 T a0 S0 ++ (wX0 T a1 b.1 ++ wX5 T a2 b.2)) [(0, .ref (a0 99)), (1, .ref (a1 99)), (2, .ref (a2 99)), (3, .int v3), (4, .int v4)] 70 []) → zt p l e R s m args below meth c 6 A D 0 0 Q (wX1 T a0 S0 ++ (wX0 T a1 a.2.1 ++ wX5 T a2 a.2.2)) [(0, .ref (a0 99)), (1, .ref (a1 99)), (2, .ref (a2 99)), (3, .int v3), (4, .int v4), (5, .int a.1)] 43 []) ?_ n (c0, c1, c2) b h K
  clear h K b c0 c1 c2
  intro rec hrec a b h K
  have hrec : ∀ (c0 : Int32) (c1 : Nat → Nat → Int32) (c2 : Nat → Nat → Int32) (b : (Nat → Nat → Int32) × (Nat → Nat → Int32)), rec (c0, c1, c2) = some b → (zt p l e R s m args below meth c 6 A D 0 0 Q (wX1 T a0 S0 ++ (wX0 T a1 b.1 ++ wX5 T a2 b.2)) [(0, .ref (a0 99)), (1, .ref (a1 99)), (2, .ref (a2 99)), (3, .int v3), (4, .int v4)] 70 []) → zt p l e R s m args below meth c 6 A D 0 0 Q (wX1 T a0 S0 ++ (wX0 T a1 c1 ++ wX5 T a2 c2)) [(0, .ref (a0 99)), (1, .ref (a1 99)), (2, .ref (a2 99)), (3, .int v3), (4, .int v4), (5, .int c0)] 43 [] := fun c0 c1 c2 b h K => hrec (c0, c1, c2) b h K
  unfold f_X2_drawLeast_L43b at h
  refine z_iload C dX2_drawLeast_43 5 rfl 45 rfl ?_
  refine z_aload_n C dX2_drawLeast_45 rfl 0 rfl 46 rfl ?_
  refine z_iload C dX2_drawLeast_46 4 rfl 48 rfl ?_
  refine z_callR C (wX1 T a0 S0) (fun v h => c_X1_turnsOf l D T a0  S0 v4 v h) ⟨rfl, rfl⟩ (z_cwV C 1 gX2_drawLeast_X1_turnsOf rfl rfl dd_X1_turnsOf ⟨(Nat.le_of_ble_eq_true rfl), (Nat.le_of_ble_eq_true rfl)⟩) (hD.zaddr rfl) [0, 1, 2, 3, 4] rfl rfl (fun _ => ⟨a0 99, [.int v4], 1, 0, _, _, rfl, rfl, rfl, rfl, rfl⟩) (fun h => absurd rfl h) rfl (Nat.le_of_ble_eq_true rfl) dX2_drawLeast_48 51 rfl h (fun r_7 h => ?_)
  refine z_icmp_ge C 70 dX2_drawLeast_51 (by decide) 54 rfl h (fun h => ?_) (fun h => ?_)
  · refine z_locals (ks := [0, 1, 2, 3, 4]) (lv' := [(0, .ref (a0 99)), (1, .ref (a1 99)), (2, .ref (a2 99)), (3, .int v3), (4, .int v4)]) rfl ?_
    exact zex2 (F := (fun e0 e1 => zt p l e R s m args below meth c 6 A D 0 0 Q (wX1 T a0 S0 ++ (wX0 T a1 e0 ++ wX5 T a2 e1)) [(0, .ref (a0 99)), (1, .ref (a1 99)), (2, .ref (a2 99)), (3, .int v3), (4, .int v4)] 70 [])) h K
  · refine z_aload_n C dX2_drawLeast_54 rfl 1 rfl 55 rfl ?_
    refine z_aload_n C dX2_drawLeast_55 rfl 0 rfl 56 rfl ?_
    refine z_aload_n C dX2_drawLeast_56 rfl 2 rfl 57 rfl ?_
    refine z_iload C dX2_drawLeast_57 4 rfl 59 rfl ?_
    refine z_iload C dX2_drawLeast_59 5 rfl 61 rfl ?_
    refine z_callV C (wX0 T a1 a.2.1 ++ (wX1 T a0 S0 ++ wX5 T a2 a.2.2)) (([] : va_W)) (fun z => wX0 T a1 z.1 ++ (wX1 T a0 S0 ++ wX5 T a2 z.2)) (fun z => wX1 T a0 S0 ++ (wX0 T a1 z.1 ++ wX5 T a2 z.2)) (fun z h => c_X0_unfold l D T a1 a0 a2  a.2.1 S0 a.2.2 v4 a.1 z h) ⟨rfl, rfl⟩ (z_cwV C 4 gX2_drawLeast_X0_unfold rfl rfl dd_X0_unfold ⟨(Nat.le_of_ble_eq_true rfl), (Nat.le_of_ble_eq_true rfl)⟩) (hD.zaddr rfl) [5, 6, 7, 8, 9, 10, 11, 0, 1, 2, 3, 4, 12, 13, 14] [] [7, 8, 9, 10, 11, 0, 1, 2, 3, 4, 5, 6, 12, 13, 14] rfl rfl rfl (by decide) (fun _ => rfl) (fun _ => ⟨a1 99, [.ref (a0 99), .ref (a2 99), .int v4, .int a.1], 0, 0, _, _, rfl, rfl, rfl, rfl, rfl⟩) (fun h => absurd rfl h) rfl (Nat.le_of_ble_eq_true rfl) dX2_drawLeast_61 64 rfl h (fun r_8 h => ?_)
    refine z_iinc C (a.1 + 1) [(0, .ref (a0 99)), (1, .ref (a1 99)), (2, .ref (a2 99)), (3, .int v3), (4, .int v4), (5, .int (a.1 + 1))] dX2_drawLeast_64 5 rfl rfl (Nat.le_of_ble_eq_true rfl) [1, 2, 3, 4, 5, 0] rfl 67 rfl ?_
    refine z_goto C 43 dX2_drawLeast_67 (by decide) ?_
    exact z_locals (ks := [0, 1, 2, 3, 4, 5]) rfl (hrec _ _ _ _ h K)

def f_X2_drawLeast_L31b (S0 : Nat → Nat → Int32) (v3 : Int32) (rec : (Int32 × (Nat → Nat → Int32) × (Nat → Nat → Int32)) → Option ((Nat → Nat → Int32) × (Nat → Nat → Int32))) (a : Int32 × (Nat → Nat → Int32) × (Nat → Nat → Int32)) : Option ((Nat → Nat → Int32) × (Nat → Nat → Int32)) := if (S0 0 0) ≤ a.1 then (some (a.2.1, a.2.2)) else ((f_X2_drawLeast_L43 S0 v3 a.1 zfuel (0, a.2.1, a.2.2)).bind fun y_9 => rec ((a.1 + 1), y_9.1, y_9.2))
def f_X2_drawLeast_L31 (S0 : Nat → Nat → Int32) (v3 : Int32) : Nat → (Int32 × (Nat → Nat → Int32) × (Nat → Nat → Int32)) → Option ((Nat → Nat → Int32) × (Nat → Nat → Int32)) := zloop (fun rec a => f_X2_drawLeast_L31b S0 v3 rec a)
set_option maxHeartbeats 4000000 in
set_option maxRecDepth 100000 in
theorem p_X2_drawLeast_L31 (C : zC p R s m args meth c cX2_drawLeast 6 RX2 wsX2_drawLeast D T 4 104 0 0) (S0 : Nat → Nat → Int32) (S1 : Nat → Nat → Int32) (S2 : Nat → Nat → Int32) (v3 : Int32) (hD : va_D A (wX1 T a0 S0 ++ (wX0 T a1 S1 ++ wX5 T a2 S2))) : ∀ (n : Nat) (c0 : Int32) (c1 : Nat → Nat → Int32) (c2 : Nat → Nat → Int32) (b : (Nat → Nat → Int32) × (Nat → Nat → Int32)), f_X2_drawLeast_L31 S0 v3 n (c0, c1, c2) = some b → (zt p l e R s m args below meth c 6 A D 0 0 Q (wX1 T a0 S0 ++ (wX0 T a1 b.1 ++ wX5 T a2 b.2)) [(0, .ref (a0 99)), (2, .ref (a2 99)), (3, .int v3)] 76 []) → zt p l e R s m args below meth c 6 A D 0 0 Q (wX1 T a0 S0 ++ (wX0 T a1 c1 ++ wX5 T a2 c2)) [(0, .ref (a0 99)), (1, .ref (a1 99)), (2, .ref (a2 99)), (3, .int v3), (4, .int c0)] 31 [] := by
  intro n c0 c1 c2 b h K
  refine zloop_ind (P := fun a b => (zt p l e R s m args below meth c 6 A D 0 0 Q (wX1 T a0 S0 ++ (wX0 T a1 b.1 ++ wX5 T a2 b.2)) [(0, .ref (a0 99)), (2, .ref (a2 99)), (3, .int v3)] 76 []) → zt p l e R s m args below meth c 6 A D 0 0 Q (wX1 T a0 S0 ++ (wX0 T a1 a.2.1 ++ wX5 T a2 a.2.2)) [(0, .ref (a0 99)), (1, .ref (a1 99)), (2, .ref (a2 99)), (3, .int v3), (4, .int a.1)] 31 []) ?_ n (c0, c1, c2) b h K
  clear h K b c0 c1 c2
  intro rec hrec a b h K
  have hrec : ∀ (c0 : Int32) (c1 : Nat → Nat → Int32) (c2 : Nat → Nat → Int32) (b : (Nat → Nat → Int32) × (Nat → Nat → Int32)), rec (c0, c1, c2) = some b → (zt p l e R s m args below meth c 6 A D 0 0 Q (wX1 T a0 S0 ++ (wX0 T a1 b.1 ++ wX5 T a2 b.2)) [(0, .ref (a0 99)), (2, .ref (a2 99)), (3, .int v3)] 76 []) → zt p l e R s m args below meth c 6 A D 0 0 Q (wX1 T a0 S0 ++ (wX0 T a1 c1 ++ wX5 T a2 c2)) [(0, .ref (a0 99)), (1, .ref (a1 99)), (2, .ref (a2 99)), (3, .int v3), (4, .int c0)] 31 [] := fun c0 c1 c2 b h K => hrec (c0, c1, c2) b h K
  unfold f_X2_drawLeast_L31b at h
  refine z_iload C dX2_drawLeast_31 4 rfl 33 rfl ?_
  refine z_aload_n C dX2_drawLeast_33 rfl 0 rfl 34 rfl ?_
  refine z_get C (in_X2_drawLeast_X1) 0 rfl rfl 0 (by decide) (List.mem_of_getElem? (i := 2) rfl) rfl rfl dX2_drawLeast_34 37 rfl ?_
  refine z_icmp_ge C 76 dX2_drawLeast_37 (by decide) 40 rfl h (fun h => ?_) (fun h => ?_)
  · refine z_locals (ks := [0, 2, 3]) (lv' := [(0, .ref (a0 99)), (2, .ref (a2 99)), (3, .int v3)]) rfl ?_
    exact zex2 (F := (fun e0 e1 => zt p l e R s m args below meth c 6 A D 0 0 Q (wX1 T a0 S0 ++ (wX0 T a1 e0 ++ wX5 T a2 e1)) [(0, .ref (a0 99)), (2, .ref (a2 99)), (3, .int v3)] 76 [])) h K
  · refine z_iconst C 0 dX2_drawLeast_40 (by decide) 41 rfl ?_
    refine z_istore C [(0, .ref (a0 99)), (1, .ref (a1 99)), (2, .ref (a2 99)), (3, .int v3), (4, .int a.1), (5, .int 0)] dX2_drawLeast_41 (Nat.le_of_ble_eq_true rfl) [1, 2, 3, 4, 5, 0] rfl 43 rfl ?_
    obtain ⟨y_9, hl_y_9, h⟩ := Option.bind_eq_some_iff.mp h
    refine z_locals (ks := [0, 1, 2, 3, 4, 5]) rfl (p_X2_drawLeast_L43 C S0 a.2.1 a.2.2 v3 a.1 (hD.zaddr rfl) _ _ _ _ _ hl_y_9 ?_)
    refine z_iinc C (a.1 + 1) [(0, .ref (a0 99)), (1, .ref (a1 99)), (2, .ref (a2 99)), (3, .int v3), (4, .int (a.1 + 1))] dX2_drawLeast_70 4 rfl rfl (Nat.le_of_ble_eq_true rfl) [1, 2, 3, 4, 0] rfl 73 rfl ?_
    refine z_goto C 31 dX2_drawLeast_73 (by decide) ?_
    exact z_locals (ks := [0, 1, 2, 3, 4]) rfl (hrec _ _ _ _ h K)

def f_X2_drawLeast (S0 : Nat → Nat → Int32) (S1 : Nat → Nat → Int32) (S2 : Nat → Nat → Int32)  : Option ((Nat → Nat → Int32) × (Nat → Nat → Int32)) := (f_X5_clear S2).bind fun r_1 => (f_X1_allPlaces S0).bind fun r_2 => (f_X0_comesTo S1 0 r_2).bind fun r_3 => if r_3 = 0 then (f_X2_drawLeast_J76 S0 S1 r_1 r_3) else ((f_X1_allPlaces S0).bind fun r_5 => zix 0 240 fun j => zlet (zst r_1 3 j r_5) fun S2_6 => (f_X2_drawLeast_L31 S0 r_3 zfuel (0, S1, S2_6)).bind fun y_10 => f_X2_drawLeast_J76 S0 y_10.1 y_10.2 r_3)
theorem dd_X2_drawLeast : RX2 ≠ "java/lang/invoke/MethodHandle" ∧ RX2 ≠ "java/lang/invoke/VarHandle" ∧ (parseMethodDescriptor yX2_drawLeast.desc).map (fun d => d.parameters.length) = some 3 := by decide +kernel
set_option maxHeartbeats 4000000 in
set_option maxRecDepth 100000 in
theorem c_X2_drawLeast (l : Launch) (D : va_G) (T : Nat → ClassId) (a0 : Nat → Nat) (a1 : Nat → Nat) (a2 : Nat → Nat) (S0 : Nat → Nat → Int32) (S1 : Nat → Nat → Int32) (S2 : Nat → Nat → Int32)  (ex : (Nat → Nat → Int32) × (Nat → Nat → Int32)) (h : f_X2_drawLeast S0 S1 S2 = some ex) : zWV l yX2_drawLeast wsX2_drawLeast ({ frames := 4, cells := 0, slots := 0, locals := 104 } : Room) D T [.ref (a0 99), .ref (a1 99), .ref (a2 99)] (wX1 T a0 S0 ++ (wX0 T a1 S1 ++ wX5 T a2 S2)) (wX1 T a0 S0 ++ (wX0 T a1 ex.1 ++ wX5 T a2 ex.2)) := by
  refine z_begin (cc := cX2_drawLeast) (nL := 6) (own := RX2) (fr := 4) (lc := 104) (ret := none) (by decide) rfl (Nat.le_of_ble_eq_true rfl) (zA (wX1 T a0 S0 ++ (wX0 T a1 S1 ++ wX5 T a2 S2))) rfl [(0, .ref (a0 99)), (1, .ref (a1 99)), (2, .ref (a2 99))] rfl ⟨rfl, rfl⟩ rfl ?_
  intro p e s m args below meth c C hr hD
  have hD := hD.zself
  unfold f_X2_drawLeast at h
  refine z_aload_n C dX2_drawLeast_0 rfl 2 rfl 1 rfl ?_
  refine z_callV C (wX5 T a2 S2) (wX1 T a0 S0 ++ wX0 T a1 S1) (fun z => wX5 T a2 z) (fun z => wX1 T a0 S0 ++ (wX0 T a1 S1 ++ wX5 T a2 z)) (fun z h => c_X5_clear l D T a2  S2  z h) ⟨rfl, rfl⟩ (z_cwV C 0 gX2_drawLeast_X5_clear rfl rfl dd_X5_clear ⟨(Nat.le_of_ble_eq_true rfl), (Nat.le_of_ble_eq_true rfl)⟩) (hD.zaddr rfl) [12, 13, 14] [0, 1, 2, 3, 4, 5, 6, 7, 8, 9, 10, 11] [0, 1, 2, 3, 4, 5, 6, 7, 8, 9, 10, 11, 12, 13, 14] rfl rfl rfl (by decide) (fun _ => rfl) (fun _ => ⟨a2 99, [], 4, 0, _, _, rfl, rfl, rfl, rfl, rfl⟩) (fun h => absurd rfl h) rfl (Nat.le_of_ble_eq_true rfl) dX2_drawLeast_1 4 rfl h (fun r_1 h => ?_)
  refine z_aload_n C dX2_drawLeast_4 rfl 1 rfl 5 rfl ?_
  refine z_iconst C 0 dX2_drawLeast_5 (by decide) 6 rfl ?_
  refine z_aload_n C dX2_drawLeast_6 rfl 0 rfl 7 rfl ?_
  refine z_callR C (wX1 T a0 S0) (fun v h => c_X1_allPlaces l D T a0  S0  v h) ⟨rfl, rfl⟩ (z_cwV C 0 gX2_drawLeast_X1_allPlaces rfl rfl dd_X1_allPlaces ⟨(Nat.le_of_ble_eq_true rfl), (Nat.le_of_ble_eq_true rfl)⟩) (hD.zaddr rfl) [0, 1, 2, 3, 4] rfl rfl (fun _ => ⟨a0 99, [], 1, 0, _, _, rfl, rfl, rfl, rfl, rfl⟩) (fun h => absurd rfl h) rfl (Nat.le_of_ble_eq_true rfl) dX2_drawLeast_7 10 rfl h (fun r_2 h => ?_)
  refine z_callR C (wX0 T a1 S1) (fun v h => c_X0_comesTo l D T a1  S1 0 r_2 v h) ⟨rfl, rfl⟩ (z_cwV C 2 gX2_drawLeast_X0_comesTo rfl rfl dd_X0_comesTo ⟨(Nat.le_of_ble_eq_true rfl), (Nat.le_of_ble_eq_true rfl)⟩) (hD.zaddr rfl) [5, 6, 7, 8, 9, 10, 11] rfl rfl (fun _ => ⟨a1 99, [.int 0, .int r_2], 0, 0, _, _, rfl, rfl, rfl, rfl, rfl⟩) (fun h => absurd rfl h) rfl (Nat.le_of_ble_eq_true rfl) dX2_drawLeast_10 13 rfl h (fun r_3 h => ?_)
  refine z_istore_n C [(0, .ref (a0 99)), (1, .ref (a1 99)), (2, .ref (a2 99)), (3, .int r_3)] dX2_drawLeast_13 rfl (Nat.le_of_ble_eq_true rfl) [1, 2, 3, 0] rfl 14 rfl ?_
  refine z_iload_n C dX2_drawLeast_14 rfl 3 rfl 15 rfl ?_
  refine z_if_eq C 76 dX2_drawLeast_15 (by decide) 18 rfl h (fun h => ?_) (fun h => ?_)
  · exact z_locals (ks := [0, 2, 3]) rfl (p_X2_drawLeast_J76 C hr S0 S1 r_1 r_3 (hD.zaddr rfl) h)
  · refine z_aload_n C dX2_drawLeast_18 rfl 2 rfl 19 rfl ?_
    refine z_get C (in_X2_drawLeast_X5) 12 rfl rfl 3 (by decide) (List.mem_of_getElem? (i := 1) rfl) rfl rfl dX2_drawLeast_19 22 rfl ?_
    refine z_iconst C 0 dX2_drawLeast_22 (by decide) 23 rfl ?_
    refine z_aload_n C dX2_drawLeast_23 rfl 0 rfl 24 rfl ?_
    refine z_callR C (wX1 T a0 S0) (fun v h => c_X1_allPlaces l D T a0  S0  v h) ⟨rfl, rfl⟩ (z_cwV C 0 gX2_drawLeast_X1_allPlaces rfl rfl dd_X1_allPlaces ⟨(Nat.le_of_ble_eq_true rfl), (Nat.le_of_ble_eq_true rfl)⟩) (hD.zaddr rfl) [0, 1, 2, 3, 4] rfl rfl (fun _ => ⟨a0 99, [], 1, 0, _, _, rfl, rfl, rfl, rfl, rfl⟩) (fun h => absurd rfl h) rfl (Nat.le_of_ble_eq_true rfl) dX2_drawLeast_24 27 rfl h (fun r_5 h => ?_)
    refine z_iast C (fun z => wX1 T a0 S0 ++ (wX0 T a1 S1 ++ wX5 T a2 z)) r_1 3 (hD.zaddr rfl) 13 rfl rfl (fun _ => rfl) dX2_drawLeast_27 28 rfl h (fun S2_6 h => ?_)
    refine z_iconst C 0 dX2_drawLeast_28 (by decide) 29 rfl ?_
    refine z_istore C [(0, .ref (a0 99)), (1, .ref (a1 99)), (2, .ref (a2 99)), (3, .int r_3), (4, .int 0)] dX2_drawLeast_29 (Nat.le_of_ble_eq_true rfl) [1, 2, 3, 4, 0] rfl 31 rfl ?_
    obtain ⟨y_10, hl_y_10, h⟩ := Option.bind_eq_some_iff.mp h
    refine z_locals (ks := [0, 1, 2, 3, 4]) rfl (p_X2_drawLeast_L31 C S0 S1 S2_6 r_3 (hD.zaddr rfl) _ _ _ _ _ hl_y_10 ?_)
    exact z_locals (ks := [0, 1, 2]) rfl (p_X2_drawLeast_J76 C hr S0 y_10.1 y_10.2 r_3 (hD.zaddr rfl) h)

end
/-! StreamTree$Drawing.drawStraight (LStreamTree$Chart;LStreamTree$Tree;)V -/
section
variable {p : Program} {l : Launch} {e : Env} {R : Room} {s : State} {m : MethodId} {args : Array Value} {below : List Frame} {meth : Method} {c : Code} {Q : State → Prop} {A : Nat → Prop} {D : va_G} {T : Nat → ClassId} {a0 : Nat → Nat} {a1 : Nat → Nat}
theorem in_X2_drawStraight_X5 : ∀ w ∈ u_ws RX5 TX5 5, w ∈ wsX2_drawStraight := fun _ h => (List.mem_cons_of_mem _ (List.mem_append_right _ h))
theorem in_X2_drawStraight_X1 : ∀ w ∈ u_ws RX1 TX1 10, w ∈ wsX2_drawStraight := fun _ h => (List.mem_cons_of_mem _ (List.mem_append_left _ (List.mem_append_right _ h)))
def f_X2_drawStraight_J65 (rec : (Int32 × Int32 × (Nat → Nat → Int32)) → Option (Int32 × (Nat → Nat → Int32))) (S0 : Nat → Nat → Int32) (S1 : Nat → Nat → Int32) (x2 : Int32) (v3 : Int32) (x4 : Int32)  : Option (Int32 × (Nat → Nat → Int32)) := (f_X2_go S0 S1 v3 x4 0).bind fun r_4 => rec (x2, (x4 + 1), r_4)
set_option maxHeartbeats 4000000 in
set_option maxRecDepth 100000 in
theorem p_X2_drawStraight_J65 (C : zC p R s m args meth c cX2_drawStraight 5 RX2 wsX2_drawStraight D T 4 90 0 0) (S0 : Nat → Nat → Int32) (S1 : Nat → Nat → Int32) {v3 : Int32} (x2 : Int32) (x4 : Int32)  (hD : va_D A (wX1 T a0 S0 ++ wX5 T a1 S1)) {rec : (Int32 × Int32 × (Nat → Nat → Int32)) → Option (Int32 × (Nat → Nat → Int32))} (hrec : ∀ (c0 : Int32) (c1 : Int32) (c2 : Nat → Nat → Int32) (b : Int32 × (Nat → Nat → Int32)), rec (c0, c1, c2) = some b → (zt p l e R s m args below meth c 5 A D 0 0 Q (wX1 T a0 S0 ++ wX5 T a1 b.2) [(0, .ref (a0 99)), (1, .ref (a1 99)), (2, .int b.1), (3, .int v3)] 80 []) → zt p l e R s m args below meth c 5 A D 0 0 Q (wX1 T a0 S0 ++ wX5 T a1 c2) [(0, .ref (a0 99)), (1, .ref (a1 99)), (2, .int c0), (3, .int v3), (4, .int c1)] 24 []) {b : Int32 × (Nat → Nat → Int32)} (K : zt p l e R s m args below meth c 5 A D 0 0 Q (wX1 T a0 S0 ++ wX5 T a1 b.2) [(0, .ref (a0 99)), (1, .ref (a1 99)), (2, .int b.1), (3, .int v3)] 80 []) (h : f_X2_drawStraight_J65 rec S0 S1 x2 v3 x4 = some b) : zt p l e R s m args below meth c 5 A D 0 0 Q (wX1 T a0 S0 ++ wX5 T a1 S1) [(0, .ref (a0 99)), (1, .ref (a1 99)), (2, .int x2), (3, .int v3), (4, .int x4)] 65 [] := by
  unfold f_X2_drawStraight_J65 at h
  refine z_aload_n C dX2_drawStraight_65 rfl 0 rfl 66 rfl ?_
  refine z_aload_n C dX2_drawStraight_66 rfl 1 rfl 67 rfl ?_
  refine z_iload_n C dX2_drawStraight_67 rfl 3 rfl 68 rfl ?_
  refine z_iload C dX2_drawStraight_68 4 rfl 70 rfl ?_
  refine z_iconst C 0 dX2_drawStraight_70 (by decide) 71 rfl ?_
  refine z_callV C (wX1 T a0 S0 ++ wX5 T a1 S1) (([] : va_W)) (fun z => wX1 T a0 S0 ++ wX5 T a1 z) (fun z => wX1 T a0 S0 ++ wX5 T a1 z) (fun z h => c_X2_go l D T a0 a1  S0 S1 v3 x4 0 z h) ⟨rfl, rfl⟩ (z_cwS C 5 gX2_drawStraight_X2_go rfl dd_X2_go ⟨(Nat.le_of_ble_eq_true rfl), (Nat.le_of_ble_eq_true rfl)⟩) (hD.zaddr rfl) [0, 1, 2, 3, 4, 5, 6, 7] [] [0, 1, 2, 3, 4, 5, 6, 7] rfl rfl rfl (by decide) (fun _ => rfl) (fun h => absurd h (by decide)) (fun _ => rfl) rfl (Nat.le_of_ble_eq_true rfl) dX2_drawStraight_71 74 rfl h (fun r_4 h => ?_)
  refine z_iinc C (x4 + 1) [(0, .ref (a0 99)), (1, .ref (a1 99)), (2, .int x2), (3, .int v3), (4, .int (x4 + 1))] dX2_drawStraight_74 4 rfl rfl (Nat.le_of_ble_eq_true rfl) [1, 2, 3, 4, 0] rfl 77 rfl ?_
  refine z_goto C 24 dX2_drawStraight_77 (by decide) ?_
  exact z_locals (ks := [0, 1, 2, 3, 4]) rfl (hrec _ _ _ _ h K)

def f_X2_drawStraight_L24b (S0 : Nat → Nat → Int32) (v3 : Int32) (rec : (Int32 × Int32 × (Nat → Nat → Int32)) → Option (Int32 × (Nat → Nat → Int32))) (a : Int32 × Int32 × (Nat → Nat → Int32)) : Option (Int32 × (Nat → Nat → Int32)) := if (S0 1 0) ≤ a.2.1 then (some (a.1, a.2.2)) else ((f_X6_cellOf v3 a.2.1).bind fun r_3 => zix r_3 240 fun _ => if (a.2.2 3 (Int32.toNatClampNeg r_3)) = 0 then (f_X2_drawStraight_J65 rec S0 a.2.2 a.1 v3 a.2.1) else ((f_X1_cellInwards S0 v3 a.2.1 0).bind fun r_5 => zix r_5 240 fun _ => if (S0 9 (Int32.toNatClampNeg r_5)) = 0 then (f_X2_drawStraight_J65 rec S0 a.2.2 a.1 v3 a.2.1) else (f_X2_drawStraight_J65 rec S0 a.2.2 0 v3 a.2.1)))
def f_X2_drawStraight_L24 (S0 : Nat → Nat → Int32) (v3 : Int32) : Nat → (Int32 × Int32 × (Nat → Nat → Int32)) → Option (Int32 × (Nat → Nat → Int32)) := zloop (fun rec a => f_X2_drawStraight_L24b S0 v3 rec a)
set_option maxHeartbeats 4000000 in
set_option maxRecDepth 100000 in
theorem p_X2_drawStraight_L24 (C : zC p R s m args meth c cX2_drawStraight 5 RX2 wsX2_drawStraight D T 4 90 0 0) (S0 : Nat → Nat → Int32) (S1 : Nat → Nat → Int32) (v3 : Int32) (hD : va_D A (wX1 T a0 S0 ++ wX5 T a1 S1)) : ∀ (n : Nat) (c0 : Int32) (c1 : Int32) (c2 : Nat → Nat → Int32) (b : Int32 × (Nat → Nat → Int32)), f_X2_drawStraight_L24 S0 v3 n (c0, c1, c2) = some b → (zt p l e R s m args below meth c 5 A D 0 0 Q (wX1 T a0 S0 ++ wX5 T a1 b.2) [(0, .ref (a0 99)), (1, .ref (a1 99)), (2, .int b.1), (3, .int v3)] 80 []) → zt p l e R s m args below meth c 5 A D 0 0 Q (wX1 T a0 S0 ++ wX5 T a1 c2) [(0, .ref (a0 99)), (1, .ref (a1 99)), (2, .int c0), (3, .int v3), (4, .int c1)] 24 [] := by
  intro n c0 c1 c2 b h K
  refine zloop_ind (P := fun a b => (zt p l e R s m args below meth c 5 A D 0 0 Q (wX1 T a0 S0 ++ wX5 T a1 b.2) [(0, .ref (a0 99)), (1, .ref (a1 99)), (2, .int b.1), (3, .int v3)] 80 []) → zt p l e R s m args below meth c 5 A D 0 0 Q (wX1 T a0 S0 ++ wX5 T a1 a.2.2) [(0, .ref (a0 99)), (1, .ref (a1 99)), (2, .int a.1), (3, .int v3), (4, .int a.2.1)] 24 []) ?_ n (c0, c1, c2) b h K
  clear h K b c0 c1 c2
  intro rec hrec a b h K
  have hrec : ∀ (c0 : Int32) (c1 : Int32) (c2 : Nat → Nat → Int32) (b : Int32 × (Nat → Nat → Int32)), rec (c0, c1, c2) = some b → (zt p l e R s m args below meth c 5 A D 0 0 Q (wX1 T a0 S0 ++ wX5 T a1 b.2) [(0, .ref (a0 99)), (1, .ref (a1 99)), (2, .int b.1), (3, .int v3)] 80 []) → zt p l e R s m args below meth c 5 A D 0 0 Q (wX1 T a0 S0 ++ wX5 T a1 c2) [(0, .ref (a0 99)), (1, .ref (a1 99)), (2, .int c0), (3, .int v3), (4, .int c1)] 24 [] := fun c0 c1 c2 b h K => hrec (c0, c1, c2) b h K
  unfold f_X2_drawStraight_L24b at h
  refine z_iload C dX2_drawStraight_24 4 rfl 26 rfl ?_
  refine z_aload_n C dX2_drawStraight_26 rfl 0 rfl 27 rfl ?_
  refine z_get C (in_X2_drawStraight_X1) 0 rfl rfl 1 (by decide) (List.mem_of_getElem? (i := 2) rfl) rfl rfl dX2_drawStraight_27 30 rfl ?_
  refine z_icmp_ge C 80 dX2_drawStraight_30 (by decide) 33 rfl h (fun h => ?_) (fun h => ?_)
  · refine z_locals (ks := [0, 1, 2, 3]) (lv' := [(0, .ref (a0 99)), (1, .ref (a1 99)), (2, .int a.1), (3, .int v3)]) rfl ?_
    exact zex2 (F := (fun e0 e1 => zt p l e R s m args below meth c 5 A D 0 0 Q (wX1 T a0 S0 ++ wX5 T a1 e1) [(0, .ref (a0 99)), (1, .ref (a1 99)), (2, .int e0), (3, .int v3)] 80 [])) h K
  · refine z_aload_n C dX2_drawStraight_33 rfl 1 rfl 34 rfl ?_
    refine z_get C (in_X2_drawStraight_X5) 5 rfl rfl 3 (by decide) (List.mem_of_getElem? (i := 3) rfl) rfl rfl dX2_drawStraight_34 37 rfl ?_
    refine z_iload_n C dX2_drawStraight_37 rfl 3 rfl 38 rfl ?_
    refine z_iload C dX2_drawStraight_38 4 rfl 40 rfl ?_
    refine z_callR C ([]) (fun v h => c_X6_cellOf l D T    v3 a.2.1 v h) ⟨rfl, rfl⟩ (z_cwN C 2 gX2_drawStraight_X6_cellOf_n28 rfl (List.mem_of_getElem? (i := 11) rfl) (List.mem_of_getElem? (i := 23) rfl) (List.mem_of_getElem? (i := 24) rfl) dd_X6_cellOf ⟨(Nat.le_of_ble_eq_true rfl), (Nat.le_of_ble_eq_true rfl)⟩) (hD.zaddr rfl) [] rfl rfl (fun h => absurd h (by decide)) (fun _ => rfl) rfl (Nat.le_of_ble_eq_true rfl) dX2_drawStraight_40 43 rfl h (fun r_3 h => ?_)
    refine z_iald C 6 rfl rfl dX2_drawStraight_43 44 rfl h (fun h => ?_)
    refine z_if_eq C 65 dX2_drawStraight_44 (by decide) 47 rfl h (fun h => ?_) (fun h => ?_)
    · exact z_locals (ks := [0, 1, 2, 3, 4]) rfl (p_X2_drawStraight_J65 C S0 a.2.2 a.1 a.2.1 (hD.zaddr rfl) hrec K h)
    · refine z_aload_n C dX2_drawStraight_47 rfl 0 rfl 48 rfl ?_
      refine z_get C (in_X2_drawStraight_X1) 0 rfl rfl 9 (by decide) (List.mem_of_getElem? (i := 4) rfl) rfl rfl dX2_drawStraight_48 51 rfl ?_
      refine z_aload_n C dX2_drawStraight_51 rfl 0 rfl 52 rfl ?_
      refine z_iload_n C dX2_drawStraight_52 rfl 3 rfl 53 rfl ?_
      refine z_iload C dX2_drawStraight_53 4 rfl 55 rfl ?_
      refine z_iconst C 0 dX2_drawStraight_55 (by decide) 56 rfl ?_
      refine z_callR C (wX1 T a0 S0) (fun v h => c_X1_cellInwards l D T a0  S0 v3 a.2.1 0 v h) ⟨rfl, rfl⟩ (z_cwV C 3 gX2_drawStraight_X1_cellInwards rfl rfl dd_X1_cellInwards ⟨(Nat.le_of_ble_eq_true rfl), (Nat.le_of_ble_eq_true rfl)⟩) (hD.zaddr rfl) [0, 1, 2, 3, 4] rfl rfl (fun _ => ⟨a0 99, [.int v3, .int a.2.1, .int 0], 1, 0, _, _, rfl, rfl, rfl, rfl, rfl⟩) (fun h => absurd rfl h) rfl (Nat.le_of_ble_eq_true rfl) dX2_drawStraight_56 59 rfl h (fun r_5 h => ?_)
      refine z_zald C 4 rfl rfl dX2_drawStraight_59 60 rfl h (fun h => ?_)
      refine z_if_eq C 65 dX2_drawStraight_60 (by decide) 63 rfl h (fun h => ?_) (fun h => ?_)
      · exact z_locals (ks := [0, 1, 2, 3, 4]) rfl (p_X2_drawStraight_J65 C S0 a.2.2 a.1 a.2.1 (hD.zaddr rfl) hrec K h)
      · refine z_iconst C 0 dX2_drawStraight_63 (by decide) 64 rfl ?_
        refine z_istore_n C [(0, .ref (a0 99)), (1, .ref (a1 99)), (2, .int 0), (3, .int v3), (4, .int a.2.1)] dX2_drawStraight_64 rfl (Nat.le_of_ble_eq_true rfl) [1, 2, 0, 3, 4] rfl 65 rfl ?_
        exact z_locals (ks := [0, 1, 2, 3, 4]) rfl (p_X2_drawStraight_J65 C S0 a.2.2 0 a.2.1 (hD.zaddr rfl) hrec K h)

def f_X2_drawStraight_L12b (S0 : Nat → Nat → Int32)  (rec : (Int32 × Int32 × (Nat → Nat → Int32)) → Option (Int32 × (Nat → Nat → Int32))) (a : Int32 × Int32 × (Nat → Nat → Int32)) : Option (Int32 × (Nat → Nat → Int32)) := if a.2.1 < 1 then (some (a.1, a.2.2)) else (if a.1 = 0 then (some (a.1, a.2.2)) else ((f_X2_drawStraight_L24 S0 a.2.1 zfuel (a.1, 0, a.2.2)).bind fun y_6 => rec (y_6.1, (a.2.1 + (-1)), y_6.2)))
def f_X2_drawStraight_L12 (S0 : Nat → Nat → Int32)  : Nat → (Int32 × Int32 × (Nat → Nat → Int32)) → Option (Int32 × (Nat → Nat → Int32)) := zloop (fun rec a => f_X2_drawStraight_L12b S0 rec a)
set_option maxHeartbeats 4000000 in
set_option maxRecDepth 100000 in
theorem p_X2_drawStraight_L12 (C : zC p R s m args meth c cX2_drawStraight 5 RX2 wsX2_drawStraight D T 4 90 0 0) (S0 : Nat → Nat → Int32) (S1 : Nat → Nat → Int32)  (hD : va_D A (wX1 T a0 S0 ++ wX5 T a1 S1)) : ∀ (n : Nat) (c0 : Int32) (c1 : Int32) (c2 : Nat → Nat → Int32) (b : Int32 × (Nat → Nat → Int32)), f_X2_drawStraight_L12 S0 n (c0, c1, c2) = some b → (zt p l e R s m args below meth c 5 A D 0 0 Q (wX1 T a0 S0 ++ wX5 T a1 b.2) [(0, .ref (a0 99)), (1, .ref (a1 99)), (2, .int b.1)] 86 []) → zt p l e R s m args below meth c 5 A D 0 0 Q (wX1 T a0 S0 ++ wX5 T a1 c2) [(0, .ref (a0 99)), (1, .ref (a1 99)), (2, .int c0), (3, .int c1)] 12 [] := by
  intro n c0 c1 c2 b h K
  refine zloop_ind (P := fun a b => (zt p l e R s m args below meth c 5 A D 0 0 Q (wX1 T a0 S0 ++ wX5 T a1 b.2) [(0, .ref (a0 99)), (1, .ref (a1 99)), (2, .int b.1)] 86 []) → zt p l e R s m args below meth c 5 A D 0 0 Q (wX1 T a0 S0 ++ wX5 T a1 a.2.2) [(0, .ref (a0 99)), (1, .ref (a1 99)), (2, .int a.1), (3, .int a.2.1)] 12 []) ?_ n (c0, c1, c2) b h K
  clear h K b c0 c1 c2
  intro rec hrec a b h K
  have hrec : ∀ (c0 : Int32) (c1 : Int32) (c2 : Nat → Nat → Int32) (b : Int32 × (Nat → Nat → Int32)), rec (c0, c1, c2) = some b → (zt p l e R s m args below meth c 5 A D 0 0 Q (wX1 T a0 S0 ++ wX5 T a1 b.2) [(0, .ref (a0 99)), (1, .ref (a1 99)), (2, .int b.1)] 86 []) → zt p l e R s m args below meth c 5 A D 0 0 Q (wX1 T a0 S0 ++ wX5 T a1 c2) [(0, .ref (a0 99)), (1, .ref (a1 99)), (2, .int c0), (3, .int c1)] 12 [] := fun c0 c1 c2 b h K => hrec (c0, c1, c2) b h K
  unfold f_X2_drawStraight_L12b at h
  refine z_iload_n C dX2_drawStraight_12 rfl 3 rfl 13 rfl ?_
  refine z_iconst C 1 dX2_drawStraight_13 (by decide) 14 rfl ?_
  refine z_icmp_lt C 86 dX2_drawStraight_14 (by decide) 17 rfl h (fun h => ?_) (fun h => ?_)
  · refine z_locals (ks := [0, 1, 2]) (lv' := [(0, .ref (a0 99)), (1, .ref (a1 99)), (2, .int a.1)]) rfl ?_
    exact zex2 (F := (fun e0 e1 => zt p l e R s m args below meth c 5 A D 0 0 Q (wX1 T a0 S0 ++ wX5 T a1 e1) [(0, .ref (a0 99)), (1, .ref (a1 99)), (2, .int e0)] 86 [])) h K
  · refine z_iload_n C dX2_drawStraight_17 rfl 2 rfl 18 rfl ?_
    refine z_if_eq C 86 dX2_drawStraight_18 (by decide) 21 rfl h (fun h => ?_) (fun h => ?_)
    · refine z_locals (ks := [0, 1, 2]) (lv' := [(0, .ref (a0 99)), (1, .ref (a1 99)), (2, .int a.1)]) rfl ?_
      exact zex2 (F := (fun e0 e1 => zt p l e R s m args below meth c 5 A D 0 0 Q (wX1 T a0 S0 ++ wX5 T a1 e1) [(0, .ref (a0 99)), (1, .ref (a1 99)), (2, .int e0)] 86 [])) h K
    · refine z_iconst C 0 dX2_drawStraight_21 (by decide) 22 rfl ?_
      refine z_istore C [(0, .ref (a0 99)), (1, .ref (a1 99)), (2, .int a.1), (3, .int a.2.1), (4, .int 0)] dX2_drawStraight_22 (Nat.le_of_ble_eq_true rfl) [1, 2, 3, 4, 0] rfl 24 rfl ?_
      obtain ⟨y_6, hl_y_6, h⟩ := Option.bind_eq_some_iff.mp h
      refine z_locals (ks := [0, 1, 2, 3, 4]) rfl (p_X2_drawStraight_L24 C S0 a.2.2 a.2.1 (hD.zaddr rfl) _ _ _ _ _ hl_y_6 ?_)
      refine z_iinc C (a.2.1 + (-1)) [(0, .ref (a0 99)), (1, .ref (a1 99)), (2, .int y_6.1), (3, .int (a.2.1 + (-1)))] dX2_drawStraight_80 3 rfl rfl (Nat.le_of_ble_eq_true rfl) [1, 2, 3, 0] rfl 83 rfl ?_
      refine z_goto C 12 dX2_drawStraight_83 (by decide) ?_
      exact z_locals (ks := [0, 1, 2, 3]) rfl (hrec _ _ _ _ h K)

def f_X2_drawStraight_J86 (S0 : Nat → Nat → Int32) (S1 : Nat → Nat → Int32) (x2 : Int32)  : Option ((Nat → Nat → Int32)) := (f_X5_finish S1 S0 x2).bind fun r_8 => some r_8
set_option maxHeartbeats 4000000 in
set_option maxRecDepth 100000 in
theorem p_X2_drawStraight_J86 {w0 : va_W} (C : zC p R s m args meth c cX2_drawStraight 5 RX2 wsX2_drawStraight D T 4 90 0 0) (hr : meth.sig.returnType = none) (S0 : Nat → Nat → Int32) (S1 : Nat → Nat → Int32) (x2 : Int32)  (hD : va_D (zA w0) (wX1 T a0 S0 ++ wX5 T a1 S1)) {ex : (Nat → Nat → Int32)} (h : f_X2_drawStraight_J86 S0 S1 x2 = some ex) : zt p l e R s m args below meth c 5 (zA w0) D 0 0 (MQ below (zQV D w0 (wX1 T a0 S0 ++ wX5 T a1 ex)) args s 0 0 (zA w0)) (wX1 T a0 S0 ++ wX5 T a1 S1) [(0, .ref (a0 99)), (1, .ref (a1 99)), (2, .int x2)] 86 [] := by
  unfold f_X2_drawStraight_J86 at h
  refine z_aload_n C dX2_drawStraight_86 rfl 1 rfl 87 rfl ?_
  refine z_aload_n C dX2_drawStraight_87 rfl 0 rfl 88 rfl ?_
  refine z_iload_n C dX2_drawStraight_88 rfl 2 rfl 89 rfl ?_
  refine z_callV C (wX5 T a1 S1 ++ wX1 T a0 S0) (([] : va_W)) (fun z => wX5 T a1 z ++ wX1 T a0 S0) (fun z => wX1 T a0 S0 ++ wX5 T a1 z) (fun z h => c_X5_finish l D T a1 a0  S1 S0 x2 z h) ⟨rfl, rfl⟩ (z_cwV C 2 gX2_drawStraight_X5_finish rfl rfl dd_X5_finish ⟨(Nat.le_of_ble_eq_true rfl), (Nat.le_of_ble_eq_true rfl)⟩) (hD.zaddr rfl) [5, 6, 7, 0, 1, 2, 3, 4] [] [3, 4, 5, 6, 7, 0, 1, 2] rfl rfl rfl (by decide) (fun _ => rfl) (fun _ => ⟨a1 99, [.ref (a0 99), .int x2], 4, 0, _, _, rfl, rfl, rfl, rfl, rfl⟩) (fun h => absurd rfl h) rfl (Nat.le_of_ble_eq_true rfl) dX2_drawStraight_89 92 rfl h (fun r_8 h => ?_)
  exact z_vretW (x := r_8) (ex := ex) (fun z => wX1 T a0 S0 ++ wX5 T a1 z) C hr dX2_drawStraight_92 h rfl

def f_X2_drawStraight (S0 : Nat → Nat → Int32) (S1 : Nat → Nat → Int32)  : Option ((Nat → Nat → Int32)) := (f_X5_clearButPlaces S1 S0).bind fun r_1 => zlet (S0 0 0) fun u_2 => (f_X2_drawStraight_L12 S0 zfuel (1, u_2, r_1)).bind fun y_7 => f_X2_drawStraight_J86 S0 y_7.2 y_7.1
theorem dd_X2_drawStraight : RX2 ≠ "java/lang/invoke/MethodHandle" ∧ RX2 ≠ "java/lang/invoke/VarHandle" ∧ (parseMethodDescriptor yX2_drawStraight.desc).map (fun d => d.parameters.length) = some 2 := by decide +kernel
set_option maxHeartbeats 4000000 in
set_option maxRecDepth 100000 in
theorem c_X2_drawStraight (l : Launch) (D : va_G) (T : Nat → ClassId) (a0 : Nat → Nat) (a1 : Nat → Nat) (S0 : Nat → Nat → Int32) (S1 : Nat → Nat → Int32)  (ex : (Nat → Nat → Int32)) (h : f_X2_drawStraight S0 S1 = some ex) : zWV l yX2_drawStraight wsX2_drawStraight ({ frames := 4, cells := 0, slots := 0, locals := 90 } : Room) D T [.ref (a0 99), .ref (a1 99)] (wX1 T a0 S0 ++ wX5 T a1 S1) (wX1 T a0 S0 ++ wX5 T a1 ex) := by
  refine z_begin (cc := cX2_drawStraight) (nL := 5) (own := RX2) (fr := 4) (lc := 90) (ret := none) (by decide) rfl (Nat.le_of_ble_eq_true rfl) (zA (wX1 T a0 S0 ++ wX5 T a1 S1)) rfl [(0, .ref (a0 99)), (1, .ref (a1 99))] rfl ⟨rfl, rfl⟩ rfl ?_
  intro p e s m args below meth c C hr hD
  have hD := hD.zself
  unfold f_X2_drawStraight at h
  refine z_aload_n C dX2_drawStraight_0 rfl 1 rfl 1 rfl ?_
  refine z_aload_n C dX2_drawStraight_1 rfl 0 rfl 2 rfl ?_
  refine z_callV C (wX5 T a1 S1 ++ wX1 T a0 S0) (([] : va_W)) (fun z => wX5 T a1 z ++ wX1 T a0 S0) (fun z => wX1 T a0 S0 ++ wX5 T a1 z) (fun z h => c_X5_clearButPlaces l D T a1 a0  S1 S0  z h) ⟨rfl, rfl⟩ (z_cwV C 1 gX2_drawStraight_X5_clearButPlaces rfl rfl dd_X5_clearButPlaces ⟨(Nat.le_of_ble_eq_true rfl), (Nat.le_of_ble_eq_true rfl)⟩) (hD.zaddr rfl) [5, 6, 7, 0, 1, 2, 3, 4] [] [3, 4, 5, 6, 7, 0, 1, 2] rfl rfl rfl (by decide) (fun _ => rfl) (fun _ => ⟨a1 99, [.ref (a0 99)], 4, 0, _, _, rfl, rfl, rfl, rfl, rfl⟩) (fun h => absurd rfl h) rfl (Nat.le_of_ble_eq_true rfl) dX2_drawStraight_2 5 rfl h (fun r_1 h => ?_)
  refine z_iconst C 1 dX2_drawStraight_5 (by decide) 6 rfl ?_
  refine z_istore_n C [(0, .ref (a0 99)), (1, .ref (a1 99)), (2, .int 1)] dX2_drawStraight_6 rfl (Nat.le_of_ble_eq_true rfl) [1, 2, 0] rfl 7 rfl ?_
  refine z_aload_n C dX2_drawStraight_7 rfl 0 rfl 8 rfl ?_
  refine z_get C (in_X2_drawStraight_X1) 0 rfl rfl 0 (by decide) (List.mem_of_getElem? (i := 1) rfl) rfl rfl dX2_drawStraight_8 11 rfl ?_
  refine z_top h (fun u_2 h => ?_)
  refine z_istore_n C [(0, .ref (a0 99)), (1, .ref (a1 99)), (2, .int 1), (3, .int u_2)] dX2_drawStraight_11 rfl (Nat.le_of_ble_eq_true rfl) [1, 2, 3, 0] rfl 12 rfl ?_
  obtain ⟨y_7, hl_y_7, h⟩ := Option.bind_eq_some_iff.mp h
  refine z_locals (ks := [0, 1, 2, 3]) rfl (p_X2_drawStraight_L12 C S0 r_1  (hD.zaddr rfl) _ _ _ _ _ hl_y_7 ?_)
  exact z_locals (ks := [0, 1, 2]) rfl (p_X2_drawStraight_J86 C hr S0 y_7.2 y_7.1 (hD.zaddr rfl) h)

end
/-! StreamTree$Drawing.wantedSide (LStreamTree$Chart;LStreamTree$Tree;II)I -/
section
variable {p : Program} {l : Launch} {e : Env} {R : Room} {s : State} {m : MethodId} {args : Array Value} {below : List Frame} {meth : Method} {c : Code} {Q : State → Prop} {A : Nat → Prop} {D : va_G} {T : Nat → ClassId} {a0 : Nat → Nat} {a1 : Nat → Nat}
theorem in_X2_wantedSide_X5 : ∀ w ∈ u_ws RX5 TX5 5, w ∈ wsX2_wantedSide := fun _ h => (List.mem_cons_of_mem _ (List.mem_append_right _ h))
theorem in_X2_wantedSide_X1 : ∀ w ∈ u_ws RX1 TX1 10, w ∈ wsX2_wantedSide := fun _ h => (List.mem_cons_of_mem _ (List.mem_append_left _ (List.mem_append_right _ h)))
def f_X2_wantedSide_J135 (S0 : Nat → Nat → Int32) (S1 : Nat → Nat → Int32) (x7 : Int32) (k0 : Int32) : Option (Int32) := if k0 = 0 then (some 0) else (some x7)
set_option maxHeartbeats 4000000 in
set_option maxRecDepth 100000 in
theorem p_X2_wantedSide_J135 (C : zC p R s m args meth c cX2_wantedSide 11 RX2 wsX2_wantedSide D T 2 48 0 0) (hr : meth.sig.returnType = some .int) (S0 : Nat → Nat → Int32) (S1 : Nat → Nat → Int32) (x7 : Int32) (k0 : Int32) (hD : va_D (fun _ => True) (wX1 T a0 S0 ++ wX5 T a1 S1)) {ex : Int32} (h : f_X2_wantedSide_J135 S0 S1 x7 k0 = some ex) : zt p l e R s m args below meth c 11 (fun _ => False) D 0 0 (MQ below (zQI ex) args s 0 0 (fun _ => False)) (wX1 T a0 S0 ++ wX5 T a1 S1) [(7, .int x7)] 135 [.int k0] := by
  unfold f_X2_wantedSide_J135 at h
  refine z_istore C [(7, .int x7), (10, .int k0)] dX2_wantedSide_135 (Nat.le_of_ble_eq_true rfl) [1, 0] rfl 137 rfl ?_
  refine z_iload C dX2_wantedSide_137 1 rfl 139 rfl ?_
  refine z_if_eq C 147 dX2_wantedSide_139 (by decide) 142 rfl h (fun h => ?_) (fun h => ?_)
  · refine z_iconst C 0 dX2_wantedSide_147 (by decide) 148 rfl ?_
    exact z_iretR C hr dX2_wantedSide_148 h
  · refine z_iload C dX2_wantedSide_142 0 rfl 144 rfl ?_
    refine z_goto C 148 dX2_wantedSide_144 (by decide) ?_
    exact z_iretR C hr dX2_wantedSide_148 h

def f_X2_wantedSide_J130 (S0 : Nat → Nat → Int32) (S1 : Nat → Nat → Int32) (x7 : Int32)  : Option (Int32) := f_X2_wantedSide_J135 S0 S1 x7 1
set_option maxHeartbeats 4000000 in
set_option maxRecDepth 100000 in
theorem p_X2_wantedSide_J130 (C : zC p R s m args meth c cX2_wantedSide 11 RX2 wsX2_wantedSide D T 2 48 0 0) (hr : meth.sig.returnType = some .int) (S0 : Nat → Nat → Int32) (S1 : Nat → Nat → Int32) (x7 : Int32)  (hD : va_D (fun _ => True) (wX1 T a0 S0 ++ wX5 T a1 S1)) {ex : Int32} (h : f_X2_wantedSide_J130 S0 S1 x7 = some ex) : zt p l e R s m args below meth c 11 (fun _ => False) D 0 0 (MQ below (zQI ex) args s 0 0 (fun _ => False)) (wX1 T a0 S0 ++ wX5 T a1 S1) [(7, .int x7)] 130 [] := by
  unfold f_X2_wantedSide_J130 at h
  refine z_iconst C 1 dX2_wantedSide_130 (by decide) 131 rfl ?_
  refine z_goto C 135 dX2_wantedSide_131 (by decide) ?_
  exact z_locals (ks := [0]) rfl (p_X2_wantedSide_J135 C hr S0 S1 x7 1 (hD.zaddr rfl) h)

def f_X2_wantedSide_J134 (S0 : Nat → Nat → Int32) (S1 : Nat → Nat → Int32) (x7 : Int32)  : Option (Int32) := f_X2_wantedSide_J135 S0 S1 x7 0
set_option maxHeartbeats 4000000 in
set_option maxRecDepth 100000 in
theorem p_X2_wantedSide_J134 (C : zC p R s m args meth c cX2_wantedSide 11 RX2 wsX2_wantedSide D T 2 48 0 0) (hr : meth.sig.returnType = some .int) (S0 : Nat → Nat → Int32) (S1 : Nat → Nat → Int32) (x7 : Int32)  (hD : va_D (fun _ => True) (wX1 T a0 S0 ++ wX5 T a1 S1)) {ex : Int32} (h : f_X2_wantedSide_J134 S0 S1 x7 = some ex) : zt p l e R s m args below meth c 11 (fun _ => False) D 0 0 (MQ below (zQI ex) args s 0 0 (fun _ => False)) (wX1 T a0 S0 ++ wX5 T a1 S1) [(7, .int x7)] 134 [] := by
  unfold f_X2_wantedSide_J134 at h
  refine z_iconst C 0 dX2_wantedSide_134 (by decide) 135 rfl ?_
  exact z_locals (ks := [0]) rfl (p_X2_wantedSide_J135 C hr S0 S1 x7 0 (hD.zaddr rfl) h)

def f_X2_wantedSide_J61 (S0 : Nat → Nat → Int32) (S1 : Nat → Nat → Int32) (x2 : Int32) (x3 : Int32) (x6 : Int32) (k0 : Int32) : Option (Int32) := if x6 < 2 then ((f_X6_cellOf x2 x3).bind fun r_4 => zix r_4 240 fun _ => (f_X1_amountOf S0 (S1 3 (Int32.toNatClampNeg r_4))).bind fun r_5 => (f_X1_turnBeside S0 x3 k0).bind fun r_6 => (f_X6_cellOf x2 r_6).bind fun r_7 => zix r_7 240 fun _ => (f_X1_amountOf S0 (S1 3 (Int32.toNatClampNeg r_7))).bind fun r_8 => if r_5 < r_8 then (f_X2_wantedSide_J130 S0 S1 k0) else (if r_5 = r_8 then (if k0 = 2 then (f_X2_wantedSide_J130 S0 S1 k0) else (f_X2_wantedSide_J134 S0 S1 k0)) else (f_X2_wantedSide_J134 S0 S1 k0))) else (some k0)
set_option maxHeartbeats 4000000 in
set_option maxRecDepth 100000 in
theorem p_X2_wantedSide_J61 (C : zC p R s m args meth c cX2_wantedSide 11 RX2 wsX2_wantedSide D T 2 48 0 0) (hr : meth.sig.returnType = some .int) (S0 : Nat → Nat → Int32) (S1 : Nat → Nat → Int32) (x2 : Int32) (x3 : Int32) (x6 : Int32) (k0 : Int32) (hD : va_D (fun _ => True) (wX1 T a0 S0 ++ wX5 T a1 S1)) {ex : Int32} (h : f_X2_wantedSide_J61 S0 S1 x2 x3 x6 k0 = some ex) : zt p l e R s m args below meth c 11 (fun _ => False) D 0 0 (MQ below (zQI ex) args s 0 0 (fun _ => False)) (wX1 T a0 S0 ++ wX5 T a1 S1) [(0, .ref (a0 99)), (1, .ref (a1 99)), (2, .int x2), (3, .int x3), (6, .int x6)] 61 [.int k0] := by
  unfold f_X2_wantedSide_J61 at h
  refine z_istore C [(0, .ref (a0 99)), (1, .ref (a1 99)), (2, .int x2), (3, .int x3), (6, .int x6), (7, .int k0)] dX2_wantedSide_61 (Nat.le_of_ble_eq_true rfl) [1, 2, 3, 4, 5, 0] rfl 63 rfl ?_
  refine z_iload C dX2_wantedSide_63 4 rfl 65 rfl ?_
  refine z_iconst C 2 dX2_wantedSide_65 (by decide) 66 rfl ?_
  refine z_icmp_lt C 72 dX2_wantedSide_66 (by decide) 69 rfl h (fun h => ?_) (fun h => ?_)
  · refine z_aload_n C dX2_wantedSide_72 rfl 0 rfl 73 rfl ?_
    refine z_aload_n C dX2_wantedSide_73 rfl 1 rfl 74 rfl ?_
    refine z_get C (in_X2_wantedSide_X5) 5 rfl rfl 3 (by decide) (List.mem_of_getElem? (i := 7) rfl) rfl rfl dX2_wantedSide_74 77 rfl ?_
    refine z_iload_n C dX2_wantedSide_77 rfl 2 rfl 78 rfl ?_
    refine z_iload_n C dX2_wantedSide_78 rfl 3 rfl 79 rfl ?_
    refine z_callR C ([]) (fun v h => c_X6_cellOf l D T    x2 x3 v h) ⟨rfl, rfl⟩ (z_cwN C 2 gX2_wantedSide_X6_cellOf_n28 rfl (List.mem_of_getElem? (i := 11) rfl) (List.mem_of_getElem? (i := 18) rfl) (List.mem_of_getElem? (i := 19) rfl) dd_X6_cellOf ⟨(Nat.le_of_ble_eq_true rfl), (Nat.le_of_ble_eq_true rfl)⟩) (hD.zaddr rfl) [] rfl rfl (fun h => absurd h (by decide)) (fun _ => rfl) rfl (Nat.le_of_ble_eq_true rfl) dX2_wantedSide_79 82 rfl h (fun r_4 h => ?_)
    refine z_iald C 6 rfl rfl dX2_wantedSide_82 83 rfl h (fun h => ?_)
    refine z_callR C (wX1 T a0 S0) (fun v h => c_X1_amountOf l D T a0  S0 (S1 3 (Int32.toNatClampNeg r_4)) v h) ⟨rfl, rfl⟩ (z_cwV C 1 gX2_wantedSide_X1_amountOf rfl rfl dd_X1_amountOf ⟨(Nat.le_of_ble_eq_true rfl), (Nat.le_of_ble_eq_true rfl)⟩) (hD.zaddr rfl) [0, 1, 2, 3, 4] rfl rfl (fun _ => ⟨a0 99, [.int (S1 3 (Int32.toNatClampNeg r_4))], 1, 0, _, _, rfl, rfl, rfl, rfl, rfl⟩) (fun h => absurd rfl h) rfl (Nat.le_of_ble_eq_true rfl) dX2_wantedSide_83 86 rfl h (fun r_5 h => ?_)
    refine z_istore C [(0, .ref (a0 99)), (1, .ref (a1 99)), (2, .int x2), (3, .int x3), (6, .int x6), (7, .int k0), (8, .int r_5)] dX2_wantedSide_86 (Nat.le_of_ble_eq_true rfl) [1, 2, 3, 4, 5, 6, 0] rfl 88 rfl ?_
    refine z_aload_n C dX2_wantedSide_88 rfl 0 rfl 89 rfl ?_
    refine z_aload_n C dX2_wantedSide_89 rfl 1 rfl 90 rfl ?_
    refine z_get C (in_X2_wantedSide_X5) 5 rfl rfl 3 (by decide) (List.mem_of_getElem? (i := 7) rfl) rfl rfl dX2_wantedSide_90 93 rfl ?_
    refine z_iload_n C dX2_wantedSide_93 rfl 2 rfl 94 rfl ?_
    refine z_aload_n C dX2_wantedSide_94 rfl 0 rfl 95 rfl ?_
    refine z_iload_n C dX2_wantedSide_95 rfl 3 rfl 96 rfl ?_
    refine z_iload C dX2_wantedSide_96 5 rfl 98 rfl ?_
    refine z_callR C (wX1 T a0 S0) (fun v h => c_X1_turnBeside l D T a0  S0 x3 k0 v h) ⟨rfl, rfl⟩ (z_cwV C 2 gX2_wantedSide_X1_turnBeside rfl rfl dd_X1_turnBeside ⟨(Nat.le_of_ble_eq_true rfl), (Nat.le_of_ble_eq_true rfl)⟩) (hD.zaddr rfl) [0, 1, 2, 3, 4] rfl rfl (fun _ => ⟨a0 99, [.int x3, .int k0], 1, 0, _, _, rfl, rfl, rfl, rfl, rfl⟩) (fun h => absurd rfl h) rfl (Nat.le_of_ble_eq_true rfl) dX2_wantedSide_98 101 rfl h (fun r_6 h => ?_)
    refine z_callR C ([]) (fun v h => c_X6_cellOf l D T    x2 r_6 v h) ⟨rfl, rfl⟩ (z_cwN C 2 gX2_wantedSide_X6_cellOf_n28 rfl (List.mem_of_getElem? (i := 11) rfl) (List.mem_of_getElem? (i := 18) rfl) (List.mem_of_getElem? (i := 19) rfl) dd_X6_cellOf ⟨(Nat.le_of_ble_eq_true rfl), (Nat.le_of_ble_eq_true rfl)⟩) (hD.zaddr rfl) [] rfl rfl (fun h => absurd h (by decide)) (fun _ => rfl) rfl (Nat.le_of_ble_eq_true rfl) dX2_wantedSide_101 104 rfl h (fun r_7 h => ?_)
    refine z_iald C 6 rfl rfl dX2_wantedSide_104 105 rfl h (fun h => ?_)
    refine z_callR C (wX1 T a0 S0) (fun v h => c_X1_amountOf l D T a0  S0 (S1 3 (Int32.toNatClampNeg r_7)) v h) ⟨rfl, rfl⟩ (z_cwV C 1 gX2_wantedSide_X1_amountOf rfl rfl dd_X1_amountOf ⟨(Nat.le_of_ble_eq_true rfl), (Nat.le_of_ble_eq_true rfl)⟩) (hD.zaddr rfl) [0, 1, 2, 3, 4] rfl rfl (fun _ => ⟨a0 99, [.int (S1 3 (Int32.toNatClampNeg r_7))], 1, 0, _, _, rfl, rfl, rfl, rfl, rfl⟩) (fun h => absurd rfl h) rfl (Nat.le_of_ble_eq_true rfl) dX2_wantedSide_105 108 rfl h (fun r_8 h => ?_)
    refine z_istore C [(0, .ref (a0 99)), (1, .ref (a1 99)), (2, .int x2), (3, .int x3), (6, .int x6), (7, .int k0), (8, .int r_5), (9, .int r_8)] dX2_wantedSide_108 (Nat.le_of_ble_eq_true rfl) [1, 2, 3, 4, 5, 6, 7, 0] rfl 110 rfl ?_
    refine z_iload C dX2_wantedSide_110 6 rfl 112 rfl ?_
    refine z_iload C dX2_wantedSide_112 7 rfl 114 rfl ?_
    refine z_icmp_lt C 130 dX2_wantedSide_114 (by decide) 117 rfl h (fun h => ?_) (fun h => ?_)
    · exact z_locals (ks := [5]) rfl (p_X2_wantedSide_J130 C hr S0 S1 k0 (hD.zaddr rfl) h)
    · refine z_iload C dX2_wantedSide_117 6 rfl 119 rfl ?_
      refine z_iload C dX2_wantedSide_119 7 rfl 121 rfl ?_
      refine z_icmp_ne C 134 dX2_wantedSide_121 (by decide) 124 rfl h (fun h => ?_) (fun h => ?_)
      · exact z_locals (ks := [5]) rfl (p_X2_wantedSide_J134 C hr S0 S1 k0 (hD.zaddr rfl) h)
      · refine z_iload C dX2_wantedSide_124 5 rfl 126 rfl ?_
        refine z_iconst C 2 dX2_wantedSide_126 (by decide) 127 rfl ?_
        refine z_icmp_ne C 134 dX2_wantedSide_127 (by decide) 130 rfl h (fun h => ?_) (fun h => ?_)
        · exact z_locals (ks := [5]) rfl (p_X2_wantedSide_J134 C hr S0 S1 k0 (hD.zaddr rfl) h)
        · exact z_locals (ks := [5]) rfl (p_X2_wantedSide_J130 C hr S0 S1 k0 (hD.zaddr rfl) h)
  · refine z_iload C dX2_wantedSide_69 5 rfl 71 rfl ?_
    exact z_iretR C hr dX2_wantedSide_71 h

def f_X2_wantedSide (S0 : Nat → Nat → Int32) (S1 : Nat → Nat → Int32) (v2 : Int32) (v3 : Int32) : Option (Int32) := (f_X2_turnsToNext S0 S1 v2 v3 2).bind fun r_1 => (f_X2_turnsToNext S0 S1 v2 v3 1).bind fun r_2 => zlet (if r_2 < r_1 then r_2 else r_1) fun u_3 => if (S0 1 0) ≤ u_3 then (some 0) else (if u_3 ≤ (S0 4 0) then (if r_2 < r_1 then (f_X2_wantedSide_J61 S0 S1 v2 v3 u_3 1) else (f_X2_wantedSide_J61 S0 S1 v2 v3 u_3 2)) else (some 0))
theorem dd_X2_wantedSide : RX2 ≠ "java/lang/invoke/MethodHandle" ∧ RX2 ≠ "java/lang/invoke/VarHandle" ∧ (parseMethodDescriptor yX2_wantedSide.desc).map (fun d => d.parameters.length) = some 4 := by decide +kernel
set_option maxHeartbeats 4000000 in
set_option maxRecDepth 100000 in
theorem c_X2_wantedSide (l : Launch) (D : va_G) (T : Nat → ClassId) (a0 : Nat → Nat) (a1 : Nat → Nat) (S0 : Nat → Nat → Int32) (S1 : Nat → Nat → Int32) (v2 : Int32) (v3 : Int32) (ex : Int32) (h : f_X2_wantedSide S0 S1 v2 v3 = some ex) : zRI l yX2_wantedSide wsX2_wantedSide ({ frames := 2, cells := 0, slots := 0, locals := 48 } : Room) D T [.ref (a0 99), .ref (a1 99), .int v2, .int v3] (wX1 T a0 S0 ++ wX5 T a1 S1) ex := by
  refine z_begin (cc := cX2_wantedSide) (nL := 11) (own := RX2) (fr := 2) (lc := 48) (ret := some .int) (by decide) rfl (Nat.le_of_ble_eq_true rfl) (fun _ => False) rfl [(0, .ref (a0 99)), (1, .ref (a1 99)), (2, .int v2), (3, .int v3)] rfl ⟨rfl, rfl⟩ rfl ?_
  intro p e s m args below meth c C hr hD
  unfold f_X2_wantedSide at h
  refine z_aload_n C dX2_wantedSide_0 rfl 0 rfl 1 rfl ?_
  refine z_aload_n C dX2_wantedSide_1 rfl 1 rfl 2 rfl ?_
  refine z_iload_n C dX2_wantedSide_2 rfl 2 rfl 3 rfl ?_
  refine z_iload_n C dX2_wantedSide_3 rfl 3 rfl 4 rfl ?_
  refine z_iconst C 2 dX2_wantedSide_4 (by decide) 5 rfl ?_
  refine z_callR C (wX1 T a0 S0 ++ wX5 T a1 S1) (fun v h => c_X2_turnsToNext l D T a0 a1  S0 S1 v2 v3 2 v h) ⟨rfl, rfl⟩ (z_cwS C 5 gX2_wantedSide_X2_turnsToNext rfl dd_X2_turnsToNext ⟨(Nat.le_of_ble_eq_true rfl), (Nat.le_of_ble_eq_true rfl)⟩) (hD.zaddr rfl) [0, 1, 2, 3, 4, 5, 6, 7] rfl rfl (fun h => absurd h (by decide)) (fun _ => rfl) rfl (Nat.le_of_ble_eq_true rfl) dX2_wantedSide_5 8 rfl h (fun r_1 h => ?_)
  refine z_istore C [(0, .ref (a0 99)), (1, .ref (a1 99)), (2, .int v2), (3, .int v3), (4, .int r_1)] dX2_wantedSide_8 (Nat.le_of_ble_eq_true rfl) [1, 2, 3, 4, 0] rfl 10 rfl ?_
  refine z_aload_n C dX2_wantedSide_10 rfl 0 rfl 11 rfl ?_
  refine z_aload_n C dX2_wantedSide_11 rfl 1 rfl 12 rfl ?_
  refine z_iload_n C dX2_wantedSide_12 rfl 2 rfl 13 rfl ?_
  refine z_iload_n C dX2_wantedSide_13 rfl 3 rfl 14 rfl ?_
  refine z_iconst C 1 dX2_wantedSide_14 (by decide) 15 rfl ?_
  refine z_callR C (wX1 T a0 S0 ++ wX5 T a1 S1) (fun v h => c_X2_turnsToNext l D T a0 a1  S0 S1 v2 v3 1 v h) ⟨rfl, rfl⟩ (z_cwS C 5 gX2_wantedSide_X2_turnsToNext rfl dd_X2_turnsToNext ⟨(Nat.le_of_ble_eq_true rfl), (Nat.le_of_ble_eq_true rfl)⟩) (hD.zaddr rfl) [0, 1, 2, 3, 4, 5, 6, 7] rfl rfl (fun h => absurd h (by decide)) (fun _ => rfl) rfl (Nat.le_of_ble_eq_true rfl) dX2_wantedSide_15 18 rfl h (fun r_2 h => ?_)
  refine z_istore C [(0, .ref (a0 99)), (1, .ref (a1 99)), (2, .int v2), (3, .int v3), (4, .int r_1), (5, .int r_2)] dX2_wantedSide_18 (Nat.le_of_ble_eq_true rfl) [1, 2, 3, 4, 5, 0] rfl 20 rfl ?_
  refine z_iload C dX2_wantedSide_20 4 rfl 22 rfl ?_
  refine z_iload C dX2_wantedSide_22 5 rfl 24 rfl ?_
  refine z_mmin C (List.mem_of_getElem? (i := 1) rfl) (List.mem_of_getElem? (i := 2) rfl) (List.mem_of_getElem? (i := 3) rfl) (List.mem_of_getElem? (i := 4) rfl) (Nat.le_of_ble_eq_true rfl) (Nat.le_of_ble_eq_true rfl) (Nat.le_of_ble_eq_true rfl) dX2_wantedSide_24 27 rfl ?_
  refine z_top h (fun u_3 h => ?_)
  refine z_istore C [(0, .ref (a0 99)), (1, .ref (a1 99)), (2, .int v2), (3, .int v3), (4, .int r_1), (5, .int r_2), (6, .int u_3)] dX2_wantedSide_27 (Nat.le_of_ble_eq_true rfl) [1, 2, 3, 4, 5, 6, 0] rfl 29 rfl ?_
  refine z_iload C dX2_wantedSide_29 6 rfl 31 rfl ?_
  refine z_aload_n C dX2_wantedSide_31 rfl 0 rfl 32 rfl ?_
  refine z_get C (in_X2_wantedSide_X1) 0 rfl rfl 1 (by decide) (List.mem_of_getElem? (i := 5) rfl) rfl rfl dX2_wantedSide_32 35 rfl ?_
  refine z_icmp_ge C 47 dX2_wantedSide_35 (by decide) 38 rfl h (fun h => ?_) (fun h => ?_)
  · refine z_iconst C 0 dX2_wantedSide_47 (by decide) 48 rfl ?_
    exact z_iretR C hr dX2_wantedSide_48 h
  · refine z_iload C dX2_wantedSide_38 6 rfl 40 rfl ?_
    refine z_aload_n C dX2_wantedSide_40 rfl 0 rfl 41 rfl ?_
    refine z_get C (in_X2_wantedSide_X1) 0 rfl rfl 4 (by decide) (List.mem_of_getElem? (i := 6) rfl) rfl rfl dX2_wantedSide_41 44 rfl ?_
    refine z_icmp_le C 49 dX2_wantedSide_44 (by decide) 47 rfl h (fun h => ?_) (fun h => ?_)
    · refine z_iload C dX2_wantedSide_49 4 rfl 51 rfl ?_
      refine z_iload C dX2_wantedSide_51 5 rfl 53 rfl ?_
      refine z_icmp_gt C 60 dX2_wantedSide_53 (by decide) 56 rfl h (fun h => ?_) (fun h => ?_)
      · refine z_iconst C 1 dX2_wantedSide_60 (by decide) 61 rfl ?_
        exact z_locals (ks := [0, 1, 2, 3, 6]) rfl (p_X2_wantedSide_J61 C hr S0 S1 v2 v3 u_3 1 (hD.zaddr rfl) h)
      · refine z_iconst C 2 dX2_wantedSide_56 (by decide) 57 rfl ?_
        refine z_goto C 61 dX2_wantedSide_57 (by decide) ?_
        exact z_locals (ks := [0, 1, 2, 3, 6]) rfl (p_X2_wantedSide_J61 C hr S0 S1 v2 v3 u_3 2 (hD.zaddr rfl) h)
    · refine z_iconst C 0 dX2_wantedSide_47 (by decide) 48 rfl ?_
      exact z_iretR C hr dX2_wantedSide_48 h

end
/-! StreamTree$Drawing.isDetour (LStreamTree$Chart;LStreamTree$Tree;II)Z -/
section
variable {p : Program} {l : Launch} {e : Env} {R : Room} {s : State} {m : MethodId} {args : Array Value} {below : List Frame} {meth : Method} {c : Code} {Q : State → Prop} {A : Nat → Prop} {D : va_G} {T : Nat → ClassId} {a0 : Nat → Nat} {a1 : Nat → Nat}
theorem in_X2_isDetour_X1 : ∀ w ∈ u_ws RX1 TX1 10, w ∈ wsX2_isDetour := fun _ h => (List.mem_cons_of_mem _ (List.mem_append_right _ h))
theorem in_X2_isDetour_X5 : ∀ w ∈ u_ws RX5 TX5 5, w ∈ wsX2_isDetour := fun _ h => (List.mem_cons_of_mem _ (List.mem_append_left _ (List.mem_append_right _ h)))
def f_X2_isDetour (S0 : Nat → Nat → Int32) (S1 : Nat → Nat → Int32) (v2 : Int32) (v3 : Int32) : Option (Int32) := (f_X6_cellOf v2 v3).bind fun r_1 => (f_X5_bendsAt S1 r_1).bind fun r_2 => if r_2 = 0 then (some 0) else (zix r_1 240 fun _ => (f_X1_turnBeside S0 v3 (S1 4 (Int32.toNatClampNeg r_1))).bind fun r_3 => (f_X6_cellOf (v2 - 1) v3).bind fun r_4 => (f_X1_placeAt S0 (v2 - 1) r_3).bind fun r_5 => if r_5 = (-1) then ((f_X5_comersToCell S1 S0 (v2 - 1) r_3).bind fun r_6 => if r_6 = 1 then ((f_X6_cellOf (v2 - 1) r_3).bind fun r_7 => zix r_7 240 fun _ => zix r_1 240 fun _ => (f_X2_otherSide (S1 4 (Int32.toNatClampNeg r_1))).bind fun r_8 => if (S1 4 (Int32.toNatClampNeg r_7)) = r_8 then (zix r_4 240 fun _ => if (S0 9 (Int32.toNatClampNeg r_4)) = 0 then (zix r_4 240 fun _ => if (S1 3 (Int32.toNatClampNeg r_4)) = 0 then (some 1) else (some 0)) else (some 0)) else (some 0)) else (some 0)) else (some 0))
theorem dd_X2_isDetour : RX2 ≠ "java/lang/invoke/MethodHandle" ∧ RX2 ≠ "java/lang/invoke/VarHandle" ∧ (parseMethodDescriptor yX2_isDetour.desc).map (fun d => d.parameters.length) = some 4 := by decide +kernel
set_option maxHeartbeats 4000000 in
set_option maxRecDepth 100000 in
theorem c_X2_isDetour (l : Launch) (D : va_G) (T : Nat → ClassId) (a0 : Nat → Nat) (a1 : Nat → Nat) (S0 : Nat → Nat → Int32) (S1 : Nat → Nat → Int32) (v2 : Int32) (v3 : Int32) (ex : Int32) (h : f_X2_isDetour S0 S1 v2 v3 = some ex) : zRI l yX2_isDetour wsX2_isDetour ({ frames := 2, cells := 0, slots := 0, locals := 47 } : Room) D T [.ref (a0 99), .ref (a1 99), .int v2, .int v3] (wX1 T a0 S0 ++ wX5 T a1 S1) ex := by
  refine z_begin (cc := cX2_isDetour) (nL := 7) (own := RX2) (fr := 2) (lc := 47) (ret := some .boolean) (by decide) rfl (Nat.le_of_ble_eq_true rfl) (fun _ => False) rfl [(0, .ref (a0 99)), (1, .ref (a1 99)), (2, .int v2), (3, .int v3)] rfl ⟨rfl, rfl⟩ rfl ?_
  intro p e s m args below meth c C hr hD
  unfold f_X2_isDetour at h
  refine z_iload_n C dX2_isDetour_0 rfl 2 rfl 1 rfl ?_
  refine z_iload_n C dX2_isDetour_1 rfl 3 rfl 2 rfl ?_
  refine z_callR C ([]) (fun v h => c_X6_cellOf l D T    v2 v3 v h) ⟨rfl, rfl⟩ (z_cwN C 2 gX2_isDetour_X6_cellOf_n28 rfl (List.mem_of_getElem? (i := 11) rfl) (List.mem_of_getElem? (i := 4) rfl) (List.mem_of_getElem? (i := 5) rfl) dd_X6_cellOf ⟨(Nat.le_of_ble_eq_true rfl), (Nat.le_of_ble_eq_true rfl)⟩) (hD.zaddr rfl) [] rfl rfl (fun h => absurd h (by decide)) (fun _ => rfl) rfl (Nat.le_of_ble_eq_true rfl) dX2_isDetour_2 5 rfl h (fun r_1 h => ?_)
  refine z_istore C [(0, .ref (a0 99)), (1, .ref (a1 99)), (2, .int v2), (3, .int v3), (4, .int r_1)] dX2_isDetour_5 (Nat.le_of_ble_eq_true rfl) [1, 2, 3, 4, 0] rfl 7 rfl ?_
  refine z_aload_n C dX2_isDetour_7 rfl 1 rfl 8 rfl ?_
  refine z_iload C dX2_isDetour_8 4 rfl 10 rfl ?_
  refine z_callR C (wX5 T a1 S1) (fun v h => c_X5_bendsAt l D T a1  S1 r_1 v h) ⟨rfl, rfl⟩ (z_cwV C 1 gX2_isDetour_X5_bendsAt rfl rfl dd_X5_bendsAt ⟨(Nat.le_of_ble_eq_true rfl), (Nat.le_of_ble_eq_true rfl)⟩) (hD.zaddr rfl) [5, 6, 7] rfl rfl (fun _ => ⟨a1 99, [.int r_1], 4, 0, _, _, rfl, rfl, rfl, rfl, rfl⟩) (fun h => absurd rfl h) rfl (Nat.le_of_ble_eq_true rfl) dX2_isDetour_10 13 rfl h (fun r_2 h => ?_)
  refine z_if_ne C 18 dX2_isDetour_13 (by decide) 16 rfl h (fun h => ?_) (fun h => ?_)
  · refine z_aload_n C dX2_isDetour_18 rfl 0 rfl 19 rfl ?_
    refine z_iload_n C dX2_isDetour_19 rfl 3 rfl 20 rfl ?_
    refine z_aload_n C dX2_isDetour_20 rfl 1 rfl 21 rfl ?_
    refine z_get C (in_X2_isDetour_X5) 5 rfl rfl 4 (by decide) (List.mem_of_getElem? (i := 1) rfl) rfl rfl dX2_isDetour_21 24 rfl ?_
    refine z_iload C dX2_isDetour_24 4 rfl 26 rfl ?_
    refine z_iald C 7 rfl rfl dX2_isDetour_26 27 rfl h (fun h => ?_)
    refine z_callR C (wX1 T a0 S0) (fun v h => c_X1_turnBeside l D T a0  S0 v3 (S1 4 (Int32.toNatClampNeg r_1)) v h) ⟨rfl, rfl⟩ (z_cwV C 2 gX2_isDetour_X1_turnBeside rfl rfl dd_X1_turnBeside ⟨(Nat.le_of_ble_eq_true rfl), (Nat.le_of_ble_eq_true rfl)⟩) (hD.zaddr rfl) [0, 1, 2, 3, 4] rfl rfl (fun _ => ⟨a0 99, [.int v3, .int (S1 4 (Int32.toNatClampNeg r_1))], 1, 0, _, _, rfl, rfl, rfl, rfl, rfl⟩) (fun h => absurd rfl h) rfl (Nat.le_of_ble_eq_true rfl) dX2_isDetour_27 30 rfl h (fun r_3 h => ?_)
    refine z_istore C [(0, .ref (a0 99)), (1, .ref (a1 99)), (2, .int v2), (3, .int v3), (4, .int r_1), (5, .int r_3)] dX2_isDetour_30 (Nat.le_of_ble_eq_true rfl) [1, 2, 3, 4, 5, 0] rfl 32 rfl ?_
    refine z_iload_n C dX2_isDetour_32 rfl 2 rfl 33 rfl ?_
    refine z_iconst C 1 dX2_isDetour_33 (by decide) 34 rfl ?_
    refine z_isub C dX2_isDetour_34 35 rfl ?_
    refine z_iload_n C dX2_isDetour_35 rfl 3 rfl 36 rfl ?_
    refine z_callR C ([]) (fun v h => c_X6_cellOf l D T    (v2 - 1) v3 v h) ⟨rfl, rfl⟩ (z_cwN C 2 gX2_isDetour_X6_cellOf_n28 rfl (List.mem_of_getElem? (i := 11) rfl) (List.mem_of_getElem? (i := 4) rfl) (List.mem_of_getElem? (i := 5) rfl) dd_X6_cellOf ⟨(Nat.le_of_ble_eq_true rfl), (Nat.le_of_ble_eq_true rfl)⟩) (hD.zaddr rfl) [] rfl rfl (fun h => absurd h (by decide)) (fun _ => rfl) rfl (Nat.le_of_ble_eq_true rfl) dX2_isDetour_36 39 rfl h (fun r_4 h => ?_)
    refine z_istore C [(0, .ref (a0 99)), (1, .ref (a1 99)), (2, .int v2), (3, .int v3), (4, .int r_1), (5, .int r_3), (6, .int r_4)] dX2_isDetour_39 (Nat.le_of_ble_eq_true rfl) [1, 2, 3, 4, 5, 6, 0] rfl 41 rfl ?_
    refine z_aload_n C dX2_isDetour_41 rfl 0 rfl 42 rfl ?_
    refine z_iload_n C dX2_isDetour_42 rfl 2 rfl 43 rfl ?_
    refine z_iconst C 1 dX2_isDetour_43 (by decide) 44 rfl ?_
    refine z_isub C dX2_isDetour_44 45 rfl ?_
    refine z_iload C dX2_isDetour_45 5 rfl 47 rfl ?_
    refine z_callR C (wX1 T a0 S0) (fun v h => c_X1_placeAt l D T a0  S0 (v2 - 1) r_3 v h) ⟨rfl, rfl⟩ (z_cwV C 2 gX2_isDetour_X1_placeAt rfl rfl dd_X1_placeAt ⟨(Nat.le_of_ble_eq_true rfl), (Nat.le_of_ble_eq_true rfl)⟩) (hD.zaddr rfl) [0, 1, 2, 3, 4] rfl rfl (fun _ => ⟨a0 99, [.int (v2 - 1), .int r_3], 1, 0, _, _, rfl, rfl, rfl, rfl, rfl⟩) (fun h => absurd rfl h) rfl (Nat.le_of_ble_eq_true rfl) dX2_isDetour_47 50 rfl h (fun r_5 h => ?_)
    refine z_iconst C (-1) dX2_isDetour_50 (by decide) 51 rfl ?_
    refine z_icmp_ne C 118 dX2_isDetour_51 (by decide) 54 rfl h (fun h => ?_) (fun h => ?_)
    · refine z_iconst C 0 dX2_isDetour_118 (by decide) 119 rfl ?_
      exact z_zretRc C hr dX2_isDetour_119 (Or.inl rfl) h
    · refine z_aload_n C dX2_isDetour_54 rfl 1 rfl 55 rfl ?_
      refine z_aload_n C dX2_isDetour_55 rfl 0 rfl 56 rfl ?_
      refine z_iload_n C dX2_isDetour_56 rfl 2 rfl 57 rfl ?_
      refine z_iconst C 1 dX2_isDetour_57 (by decide) 58 rfl ?_
      refine z_isub C dX2_isDetour_58 59 rfl ?_
      refine z_iload C dX2_isDetour_59 5 rfl 61 rfl ?_
      refine z_callR C (wX5 T a1 S1 ++ wX1 T a0 S0) (fun v h => c_X5_comersToCell l D T a1 a0  S1 S0 (v2 - 1) r_3 v h) ⟨rfl, rfl⟩ (z_cwV C 3 gX2_isDetour_X5_comersToCell rfl rfl dd_X5_comersToCell ⟨(Nat.le_of_ble_eq_true rfl), (Nat.le_of_ble_eq_true rfl)⟩) (hD.zaddr rfl) [5, 6, 7, 0, 1, 2, 3, 4] rfl rfl (fun _ => ⟨a1 99, [.ref (a0 99), .int (v2 - 1), .int r_3], 4, 0, _, _, rfl, rfl, rfl, rfl, rfl⟩) (fun h => absurd rfl h) rfl (Nat.le_of_ble_eq_true rfl) dX2_isDetour_61 64 rfl h (fun r_6 h => ?_)
      refine z_iconst C 1 dX2_isDetour_64 (by decide) 65 rfl ?_
      refine z_icmp_ne C 118 dX2_isDetour_65 (by decide) 68 rfl h (fun h => ?_) (fun h => ?_)
      · refine z_iconst C 0 dX2_isDetour_118 (by decide) 119 rfl ?_
        exact z_zretRc C hr dX2_isDetour_119 (Or.inl rfl) h
      · refine z_aload_n C dX2_isDetour_68 rfl 1 rfl 69 rfl ?_
        refine z_get C (in_X2_isDetour_X5) 5 rfl rfl 4 (by decide) (List.mem_of_getElem? (i := 1) rfl) rfl rfl dX2_isDetour_69 72 rfl ?_
        refine z_iload_n C dX2_isDetour_72 rfl 2 rfl 73 rfl ?_
        refine z_iconst C 1 dX2_isDetour_73 (by decide) 74 rfl ?_
        refine z_isub C dX2_isDetour_74 75 rfl ?_
        refine z_iload C dX2_isDetour_75 5 rfl 77 rfl ?_
        refine z_callR C ([]) (fun v h => c_X6_cellOf l D T    (v2 - 1) r_3 v h) ⟨rfl, rfl⟩ (z_cwN C 2 gX2_isDetour_X6_cellOf_n28 rfl (List.mem_of_getElem? (i := 11) rfl) (List.mem_of_getElem? (i := 4) rfl) (List.mem_of_getElem? (i := 5) rfl) dd_X6_cellOf ⟨(Nat.le_of_ble_eq_true rfl), (Nat.le_of_ble_eq_true rfl)⟩) (hD.zaddr rfl) [] rfl rfl (fun h => absurd h (by decide)) (fun _ => rfl) rfl (Nat.le_of_ble_eq_true rfl) dX2_isDetour_77 80 rfl h (fun r_7 h => ?_)
        refine z_iald C 7 rfl rfl dX2_isDetour_80 81 rfl h (fun h => ?_)
        refine z_aload_n C dX2_isDetour_81 rfl 1 rfl 82 rfl ?_
        refine z_get C (in_X2_isDetour_X5) 5 rfl rfl 4 (by decide) (List.mem_of_getElem? (i := 1) rfl) rfl rfl dX2_isDetour_82 85 rfl ?_
        refine z_iload C dX2_isDetour_85 4 rfl 87 rfl ?_
        refine z_iald C 7 rfl rfl dX2_isDetour_87 88 rfl h (fun h => ?_)
        refine z_callR C ([]) (fun v h => c_X2_otherSide l D T    (S1 4 (Int32.toNatClampNeg r_1)) v h) ⟨rfl, rfl⟩ (z_cwS C 1 gX2_isDetour_X2_otherSide rfl dd_X2_otherSide ⟨(Nat.le_of_ble_eq_true rfl), (Nat.le_of_ble_eq_true rfl)⟩) (hD.zaddr rfl) [] rfl rfl (fun h => absurd h (by decide)) (fun _ => rfl) rfl (Nat.le_of_ble_eq_true rfl) dX2_isDetour_88 91 rfl h (fun r_8 h => ?_)
        refine z_icmp_ne C 118 dX2_isDetour_91 (by decide) 94 rfl h (fun h => ?_) (fun h => ?_)
        · refine z_iconst C 0 dX2_isDetour_118 (by decide) 119 rfl ?_
          exact z_zretRc C hr dX2_isDetour_119 (Or.inl rfl) h
        · refine z_aload_n C dX2_isDetour_94 rfl 0 rfl 95 rfl ?_
          refine z_get C (in_X2_isDetour_X1) 0 rfl rfl 9 (by decide) (List.mem_of_getElem? (i := 2) rfl) rfl rfl dX2_isDetour_95 98 rfl ?_
          refine z_iload C dX2_isDetour_98 6 rfl 100 rfl ?_
          refine z_zald C 4 rfl rfl dX2_isDetour_100 101 rfl h (fun h => ?_)
          refine z_if_ne C 118 dX2_isDetour_101 (by decide) 104 rfl h (fun h => ?_) (fun h => ?_)
          · refine z_iconst C 0 dX2_isDetour_118 (by decide) 119 rfl ?_
            exact z_zretRc C hr dX2_isDetour_119 (Or.inl rfl) h
          · refine z_aload_n C dX2_isDetour_104 rfl 1 rfl 105 rfl ?_
            refine z_get C (in_X2_isDetour_X5) 5 rfl rfl 3 (by decide) (List.mem_of_getElem? (i := 3) rfl) rfl rfl dX2_isDetour_105 108 rfl ?_
            refine z_iload C dX2_isDetour_108 6 rfl 110 rfl ?_
            refine z_iald C 6 rfl rfl dX2_isDetour_110 111 rfl h (fun h => ?_)
            refine z_if_ne C 118 dX2_isDetour_111 (by decide) 114 rfl h (fun h => ?_) (fun h => ?_)
            · refine z_iconst C 0 dX2_isDetour_118 (by decide) 119 rfl ?_
              exact z_zretRc C hr dX2_isDetour_119 (Or.inl rfl) h
            · refine z_iconst C 1 dX2_isDetour_114 (by decide) 115 rfl ?_
              refine z_goto C 119 dX2_isDetour_115 (by decide) ?_
              exact z_zretRc C hr dX2_isDetour_119 (Or.inr rfl) h
  · refine z_iconst C 0 dX2_isDetour_16 (by decide) 17 rfl ?_
    exact z_zretRc C hr dX2_isDetour_17 (Or.inl rfl) h

end
/-! StreamTree$Drawing.leanRing (LStreamTree$Chart;LStreamTree$Tree;I)Z -/
section
variable {p : Program} {l : Launch} {e : Env} {R : Room} {s : State} {m : MethodId} {args : Array Value} {below : List Frame} {meth : Method} {c : Code} {Q : State → Prop} {A : Nat → Prop} {D : va_G} {T : Nat → ClassId} {a0 : Nat → Nat} {a1 : Nat → Nat}
theorem in_X2_leanRing_X5 : ∀ w ∈ u_ws RX5 TX5 5, w ∈ wsX2_leanRing := fun _ h => (List.mem_cons_of_mem _ (List.mem_append_right _ h))
theorem in_X2_leanRing_X1 : ∀ w ∈ u_ws RX1 TX1 10, w ∈ wsX2_leanRing := fun _ h => (List.mem_cons_of_mem _ (List.mem_append_left _ (List.mem_append_right _ h)))
def f_X2_leanRing_J71 (rec : (Int32 × (Nat → Nat → Int32)) → Option (Nat × (Nat → Nat → Int32))) (S0 : Nat → Nat → Int32) (S1 : Nat → Nat → Int32) (v2 : Int32) (x3 : Int32)  : Option (Nat × (Nat → Nat → Int32)) := rec ((x3 + 1), S1)
set_option maxHeartbeats 4000000 in
set_option maxRecDepth 100000 in
theorem p_X2_leanRing_J71 (C : zC p R s m args meth c cX2_leanRing 6 RX2 wsX2_leanRing D T 3 78 0 0) (S0 : Nat → Nat → Int32) (S1 : Nat → Nat → Int32) {v2 : Int32} (x3 : Int32)  (hD : va_D A (wX1 T a0 S0 ++ wX5 T a1 S1)) {rec : (Int32 × (Nat → Nat → Int32)) → Option (Nat × (Nat → Nat → Int32))} (hrec : ∀ (c0 : Int32) (c1 : Nat → Nat → Int32) (b : Nat × (Nat → Nat → Int32)), rec (c0, c1) = some b → ((b.1 = 0 → zt p l e R s m args below meth c 6 A D 0 0 Q (wX1 T a0 S0 ++ wX5 T a1 b.2) [] 60 []) ∧ (b.1 = 1 → zt p l e R s m args below meth c 6 A D 0 0 Q (wX1 T a0 S0 ++ wX5 T a1 b.2) [] 77 [])) → zt p l e R s m args below meth c 6 A D 0 0 Q (wX1 T a0 S0 ++ wX5 T a1 c1) [(0, .ref (a0 99)), (1, .ref (a1 99)), (2, .int v2), (3, .int c0)] 2 []) {b : Nat × (Nat → Nat → Int32)} (K : (b.1 = 0 → zt p l e R s m args below meth c 6 A D 0 0 Q (wX1 T a0 S0 ++ wX5 T a1 b.2) [] 60 []) ∧ (b.1 = 1 → zt p l e R s m args below meth c 6 A D 0 0 Q (wX1 T a0 S0 ++ wX5 T a1 b.2) [] 77 [])) (h : f_X2_leanRing_J71 rec S0 S1 v2 x3 = some b) : zt p l e R s m args below meth c 6 A D 0 0 Q (wX1 T a0 S0 ++ wX5 T a1 S1) [(0, .ref (a0 99)), (1, .ref (a1 99)), (2, .int v2), (3, .int x3)] 71 [] := by
  unfold f_X2_leanRing_J71 at h
  refine z_iinc C (x3 + 1) [(0, .ref (a0 99)), (1, .ref (a1 99)), (2, .int v2), (3, .int (x3 + 1))] dX2_leanRing_71 3 rfl rfl (Nat.le_of_ble_eq_true rfl) [1, 2, 3, 0] rfl 74 rfl ?_
  refine z_goto C 2 dX2_leanRing_74 (by decide) ?_
  exact z_locals (ks := [0, 1, 2, 3]) rfl (hrec _ _ _ h K)

def f_X2_leanRing_J42 (rec : (Int32 × (Nat → Nat → Int32)) → Option (Nat × (Nat → Nat → Int32))) (S0 : Nat → Nat → Int32) (S1 : Nat → Nat → Int32) (v2 : Int32) (x3 : Int32) (k0 : Int32) : Option (Nat × (Nat → Nat → Int32)) := (f_X2_passableSide S0 v2 x3 k0).bind fun r_3 => if r_3 = (-1) then (some (0, S1)) else ((f_X2_go S0 S1 v2 x3 r_3).bind fun r_4 => f_X2_leanRing_J71 rec S0 r_4 v2 x3)
set_option maxHeartbeats 4000000 in
set_option maxRecDepth 100000 in
theorem p_X2_leanRing_J42 (C : zC p R s m args meth c cX2_leanRing 6 RX2 wsX2_leanRing D T 3 78 0 0) (S0 : Nat → Nat → Int32) (S1 : Nat → Nat → Int32) {v2 : Int32} (x3 : Int32) (k0 : Int32) (hD : va_D A (wX1 T a0 S0 ++ wX5 T a1 S1)) {rec : (Int32 × (Nat → Nat → Int32)) → Option (Nat × (Nat → Nat → Int32))} (hrec : ∀ (c0 : Int32) (c1 : Nat → Nat → Int32) (b : Nat × (Nat → Nat → Int32)), rec (c0, c1) = some b → ((b.1 = 0 → zt p l e R s m args below meth c 6 A D 0 0 Q (wX1 T a0 S0 ++ wX5 T a1 b.2) [] 60 []) ∧ (b.1 = 1 → zt p l e R s m args below meth c 6 A D 0 0 Q (wX1 T a0 S0 ++ wX5 T a1 b.2) [] 77 [])) → zt p l e R s m args below meth c 6 A D 0 0 Q (wX1 T a0 S0 ++ wX5 T a1 c1) [(0, .ref (a0 99)), (1, .ref (a1 99)), (2, .int v2), (3, .int c0)] 2 []) {b : Nat × (Nat → Nat → Int32)} (K : (b.1 = 0 → zt p l e R s m args below meth c 6 A D 0 0 Q (wX1 T a0 S0 ++ wX5 T a1 b.2) [] 60 []) ∧ (b.1 = 1 → zt p l e R s m args below meth c 6 A D 0 0 Q (wX1 T a0 S0 ++ wX5 T a1 b.2) [] 77 [])) (h : f_X2_leanRing_J42 rec S0 S1 v2 x3 k0 = some b) : zt p l e R s m args below meth c 6 A D 0 0 Q (wX1 T a0 S0 ++ wX5 T a1 S1) [(0, .ref (a0 99)), (1, .ref (a1 99)), (2, .int v2), (3, .int x3)] 42 [.int k0] := by
  unfold f_X2_leanRing_J42 at h
  refine z_istore C [(0, .ref (a0 99)), (1, .ref (a1 99)), (2, .int v2), (3, .int x3), (4, .int k0)] dX2_leanRing_42 (Nat.le_of_ble_eq_true rfl) [1, 2, 3, 4, 0] rfl 44 rfl ?_
  refine z_aload_n C dX2_leanRing_44 rfl 0 rfl 45 rfl ?_
  refine z_iload_n C dX2_leanRing_45 rfl 2 rfl 46 rfl ?_
  refine z_iload_n C dX2_leanRing_46 rfl 3 rfl 47 rfl ?_
  refine z_iload C dX2_leanRing_47 4 rfl 49 rfl ?_
  refine z_callR C (wX1 T a0 S0) (fun v h => c_X2_passableSide l D T a0  S0 v2 x3 k0 v h) ⟨rfl, rfl⟩ (z_cwS C 4 gX2_leanRing_X2_passableSide rfl dd_X2_passableSide ⟨(Nat.le_of_ble_eq_true rfl), (Nat.le_of_ble_eq_true rfl)⟩) (hD.zaddr rfl) [0, 1, 2, 3, 4] rfl rfl (fun h => absurd h (by decide)) (fun _ => rfl) rfl (Nat.le_of_ble_eq_true rfl) dX2_leanRing_49 52 rfl h (fun r_3 h => ?_)
  refine z_istore C [(0, .ref (a0 99)), (1, .ref (a1 99)), (2, .int v2), (3, .int x3), (4, .int k0), (5, .int r_3)] dX2_leanRing_52 (Nat.le_of_ble_eq_true rfl) [1, 2, 3, 4, 5, 0] rfl 54 rfl ?_
  refine z_iload C dX2_leanRing_54 5 rfl 56 rfl ?_
  refine z_iconst C (-1) dX2_leanRing_56 (by decide) 57 rfl ?_
  refine z_icmp_ne C 62 dX2_leanRing_57 (by decide) 60 rfl h (fun h => ?_) (fun h => ?_)
  · refine z_aload_n C dX2_leanRing_62 rfl 0 rfl 63 rfl ?_
    refine z_aload_n C dX2_leanRing_63 rfl 1 rfl 64 rfl ?_
    refine z_iload_n C dX2_leanRing_64 rfl 2 rfl 65 rfl ?_
    refine z_iload_n C dX2_leanRing_65 rfl 3 rfl 66 rfl ?_
    refine z_iload C dX2_leanRing_66 5 rfl 68 rfl ?_
    refine z_callV C (wX1 T a0 S0 ++ wX5 T a1 S1) (([] : va_W)) (fun z => wX1 T a0 S0 ++ wX5 T a1 z) (fun z => wX1 T a0 S0 ++ wX5 T a1 z) (fun z h => c_X2_go l D T a0 a1  S0 S1 v2 x3 r_3 z h) ⟨rfl, rfl⟩ (z_cwS C 5 gX2_leanRing_X2_go rfl dd_X2_go ⟨(Nat.le_of_ble_eq_true rfl), (Nat.le_of_ble_eq_true rfl)⟩) (hD.zaddr rfl) [0, 1, 2, 3, 4, 5, 6, 7] [] [0, 1, 2, 3, 4, 5, 6, 7] rfl rfl rfl (by decide) (fun _ => rfl) (fun h => absurd h (by decide)) (fun _ => rfl) rfl (Nat.le_of_ble_eq_true rfl) dX2_leanRing_68 71 rfl h (fun r_4 h => ?_)
    exact z_locals (ks := [0, 1, 2, 3]) rfl (p_X2_leanRing_J71 C S0 r_4 x3 (hD.zaddr rfl) hrec K h)
  · refine z_locals (ks := []) (lv' := []) rfl ?_
    exact zexT1 (F := (fun e0 => zt p l e R s m args below meth c 6 A D 0 0 Q (wX1 T a0 S0 ++ wX5 T a1 e0) [] 60 [])) h K.1

def f_X2_leanRing_L2b (S0 : Nat → Nat → Int32) (v2 : Int32) (rec : (Int32 × (Nat → Nat → Int32)) → Option (Nat × (Nat → Nat → Int32))) (a : Int32 × (Nat → Nat → Int32)) : Option (Nat × (Nat → Nat → Int32)) := if (S0 1 0) ≤ a.1 then (some (1, a.2)) else ((f_X6_cellOf v2 a.1).bind fun r_1 => zix r_1 240 fun _ => if (a.2 3 (Int32.toNatClampNeg r_1)) = 0 then (f_X2_leanRing_J71 rec S0 a.2 v2 a.1) else (if v2 = 1 then (f_X2_leanRing_J42 rec S0 a.2 v2 a.1 0) else ((f_X2_wantedSide S0 a.2 v2 a.1).bind fun r_2 => f_X2_leanRing_J42 rec S0 a.2 v2 a.1 r_2)))
def f_X2_leanRing_L2 (S0 : Nat → Nat → Int32) (v2 : Int32) : Nat → (Int32 × (Nat → Nat → Int32)) → Option (Nat × (Nat → Nat → Int32)) := zloop (fun rec a => f_X2_leanRing_L2b S0 v2 rec a)
set_option maxHeartbeats 4000000 in
set_option maxRecDepth 100000 in
theorem p_X2_leanRing_L2 (C : zC p R s m args meth c cX2_leanRing 6 RX2 wsX2_leanRing D T 3 78 0 0) (S0 : Nat → Nat → Int32) (S1 : Nat → Nat → Int32) (v2 : Int32) (hD : va_D A (wX1 T a0 S0 ++ wX5 T a1 S1)) : ∀ (n : Nat) (c0 : Int32) (c1 : Nat → Nat → Int32) (b : Nat × (Nat → Nat → Int32)), f_X2_leanRing_L2 S0 v2 n (c0, c1) = some b → ((b.1 = 0 → zt p l e R s m args below meth c 6 A D 0 0 Q (wX1 T a0 S0 ++ wX5 T a1 b.2) [] 60 []) ∧ (b.1 = 1 → zt p l e R s m args below meth c 6 A D 0 0 Q (wX1 T a0 S0 ++ wX5 T a1 b.2) [] 77 [])) → zt p l e R s m args below meth c 6 A D 0 0 Q (wX1 T a0 S0 ++ wX5 T a1 c1) [(0, .ref (a0 99)), (1, .ref (a1 99)), (2, .int v2), (3, .int c0)] 2 [] := by
  intro n c0 c1 b h K
  refine zloop_ind (P := fun a b => ((b.1 = 0 → zt p l e R s m args below meth c 6 A D 0 0 Q (wX1 T a0 S0 ++ wX5 T a1 b.2) [] 60 []) ∧ (b.1 = 1 → zt p l e R s m args below meth c 6 A D 0 0 Q (wX1 T a0 S0 ++ wX5 T a1 b.2) [] 77 [])) → zt p l e R s m args below meth c 6 A D 0 0 Q (wX1 T a0 S0 ++ wX5 T a1 a.2) [(0, .ref (a0 99)), (1, .ref (a1 99)), (2, .int v2), (3, .int a.1)] 2 []) ?_ n (c0, c1) b h K
  clear h K b c0 c1
  intro rec hrec a b h K
  have hrec : ∀ (c0 : Int32) (c1 : Nat → Nat → Int32) (b : Nat × (Nat → Nat → Int32)), rec (c0, c1) = some b → ((b.1 = 0 → zt p l e R s m args below meth c 6 A D 0 0 Q (wX1 T a0 S0 ++ wX5 T a1 b.2) [] 60 []) ∧ (b.1 = 1 → zt p l e R s m args below meth c 6 A D 0 0 Q (wX1 T a0 S0 ++ wX5 T a1 b.2) [] 77 [])) → zt p l e R s m args below meth c 6 A D 0 0 Q (wX1 T a0 S0 ++ wX5 T a1 c1) [(0, .ref (a0 99)), (1, .ref (a1 99)), (2, .int v2), (3, .int c0)] 2 [] := fun c0 c1 b h K => hrec (c0, c1) b h K
  unfold f_X2_leanRing_L2b at h
  refine z_iload_n C dX2_leanRing_2 rfl 3 rfl 3 rfl ?_
  refine z_aload_n C dX2_leanRing_3 rfl 0 rfl 4 rfl ?_
  refine z_get C (in_X2_leanRing_X1) 0 rfl rfl 1 (by decide) (List.mem_of_getElem? (i := 1) rfl) rfl rfl dX2_leanRing_4 7 rfl ?_
  refine z_icmp_ge C 77 dX2_leanRing_7 (by decide) 10 rfl h (fun h => ?_) (fun h => ?_)
  · refine z_locals (ks := []) (lv' := []) rfl ?_
    exact zexT1 (F := (fun e0 => zt p l e R s m args below meth c 6 A D 0 0 Q (wX1 T a0 S0 ++ wX5 T a1 e0) [] 77 [])) h K.2
  · refine z_aload_n C dX2_leanRing_10 rfl 1 rfl 11 rfl ?_
    refine z_get C (in_X2_leanRing_X5) 5 rfl rfl 3 (by decide) (List.mem_of_getElem? (i := 2) rfl) rfl rfl dX2_leanRing_11 14 rfl ?_
    refine z_iload_n C dX2_leanRing_14 rfl 2 rfl 15 rfl ?_
    refine z_iload_n C dX2_leanRing_15 rfl 3 rfl 16 rfl ?_
    refine z_callR C ([]) (fun v h => c_X6_cellOf l D T    v2 a.1 v h) ⟨rfl, rfl⟩ (z_cwN C 2 gX2_leanRing_X6_cellOf_n28 rfl (List.mem_of_getElem? (i := 11) rfl) (List.mem_of_getElem? (i := 3) rfl) (List.mem_of_getElem? (i := 4) rfl) dd_X6_cellOf ⟨(Nat.le_of_ble_eq_true rfl), (Nat.le_of_ble_eq_true rfl)⟩) (hD.zaddr rfl) [] rfl rfl (fun h => absurd h (by decide)) (fun _ => rfl) rfl (Nat.le_of_ble_eq_true rfl) dX2_leanRing_16 19 rfl h (fun r_1 h => ?_)
    refine z_iald C 6 rfl rfl dX2_leanRing_19 20 rfl h (fun h => ?_)
    refine z_if_ne C 26 dX2_leanRing_20 (by decide) 23 rfl h (fun h => ?_) (fun h => ?_)
    · refine z_iload_n C dX2_leanRing_26 rfl 2 rfl 27 rfl ?_
      refine z_iconst C 1 dX2_leanRing_27 (by decide) 28 rfl ?_
      refine z_icmp_ne C 35 dX2_leanRing_28 (by decide) 31 rfl h (fun h => ?_) (fun h => ?_)
      · refine z_aload_n C dX2_leanRing_35 rfl 0 rfl 36 rfl ?_
        refine z_aload_n C dX2_leanRing_36 rfl 1 rfl 37 rfl ?_
        refine z_iload_n C dX2_leanRing_37 rfl 2 rfl 38 rfl ?_
        refine z_iload_n C dX2_leanRing_38 rfl 3 rfl 39 rfl ?_
        refine z_callR C (wX1 T a0 S0 ++ wX5 T a1 a.2) (fun v h => c_X2_wantedSide l D T a0 a1  S0 a.2 v2 a.1 v h) ⟨rfl, rfl⟩ (z_cwS C 4 gX2_leanRing_X2_wantedSide rfl dd_X2_wantedSide ⟨(Nat.le_of_ble_eq_true rfl), (Nat.le_of_ble_eq_true rfl)⟩) (hD.zaddr rfl) [0, 1, 2, 3, 4, 5, 6, 7] rfl rfl (fun h => absurd h (by decide)) (fun _ => rfl) rfl (Nat.le_of_ble_eq_true rfl) dX2_leanRing_39 42 rfl h (fun r_2 h => ?_)
        exact z_locals (ks := [0, 1, 2, 3]) rfl (p_X2_leanRing_J42 C S0 a.2 a.1 r_2 (hD.zaddr rfl) hrec K h)
      · refine z_iconst C 0 dX2_leanRing_31 (by decide) 32 rfl ?_
        refine z_goto C 42 dX2_leanRing_32 (by decide) ?_
        exact z_locals (ks := [0, 1, 2, 3]) rfl (p_X2_leanRing_J42 C S0 a.2 a.1 0 (hD.zaddr rfl) hrec K h)
    · refine z_goto C 71 dX2_leanRing_23 (by decide) ?_
      exact z_locals (ks := [0, 1, 2, 3]) rfl (p_X2_leanRing_J71 C S0 a.2 a.1 (hD.zaddr rfl) hrec K h)

def f_X2_leanRing (S0 : Nat → Nat → Int32) (S1 : Nat → Nat → Int32) (v2 : Int32) : Option (Int32 × (Nat → Nat → Int32)) := (f_X2_leanRing_L2 S0 v2 zfuel (0, S1)).bind fun y_5 => if y_5.1 = 0 then (some (0, y_5.2)) else (some (1, y_5.2))
theorem dd_X2_leanRing : RX2 ≠ "java/lang/invoke/MethodHandle" ∧ RX2 ≠ "java/lang/invoke/VarHandle" ∧ (parseMethodDescriptor yX2_leanRing.desc).map (fun d => d.parameters.length) = some 3 := by decide +kernel
set_option maxHeartbeats 4000000 in
set_option maxRecDepth 100000 in
theorem c_X2_leanRing (l : Launch) (D : va_G) (T : Nat → ClassId) (a0 : Nat → Nat) (a1 : Nat → Nat) (S0 : Nat → Nat → Int32) (S1 : Nat → Nat → Int32) (v2 : Int32) (ex : Int32 × (Nat → Nat → Int32)) (h : f_X2_leanRing S0 S1 v2 = some ex) : zWI l yX2_leanRing wsX2_leanRing ({ frames := 3, cells := 0, slots := 0, locals := 78 } : Room) D T [.ref (a0 99), .ref (a1 99), .int v2] (wX1 T a0 S0 ++ wX5 T a1 S1) ex.1 (wX1 T a0 S0 ++ wX5 T a1 ex.2) := by
  refine z_begin (cc := cX2_leanRing) (nL := 6) (own := RX2) (fr := 3) (lc := 78) (ret := some .boolean) (by decide) rfl (Nat.le_of_ble_eq_true rfl) (zA (wX1 T a0 S0 ++ wX5 T a1 S1)) rfl [(0, .ref (a0 99)), (1, .ref (a1 99)), (2, .int v2)] rfl ⟨rfl, rfl⟩ rfl ?_
  intro p e s m args below meth c C hr hD
  have hD := hD.zself
  unfold f_X2_leanRing at h
  refine z_iconst C 0 dX2_leanRing_0 (by decide) 1 rfl ?_
  refine z_istore_n C [(0, .ref (a0 99)), (1, .ref (a1 99)), (2, .int v2), (3, .int 0)] dX2_leanRing_1 rfl (Nat.le_of_ble_eq_true rfl) [1, 2, 3, 0] rfl 2 rfl ?_
  obtain ⟨y_5, hl_y_5, h⟩ := Option.bind_eq_some_iff.mp h
  refine z_locals (ks := [0, 1, 2, 3]) rfl (p_X2_leanRing_L2 C S0 S1 v2 (hD.zaddr rfl) _ _ _ _ hl_y_5 ⟨fun ht => ?_, fun ht => ?_⟩)
  · replace h := z_pos ht h
    refine z_iconst C 0 dX2_leanRing_60 (by decide) 61 rfl ?_
    exact z_zretWc (x := y_5.2) (ex := ex) (fun z => wX1 T a0 S0 ++ wX5 T a1 z) C hr dX2_leanRing_61 (Or.inl rfl) h rfl
  · replace h := z_neg (by rw [ht]; decide) h
    refine z_iconst C 1 dX2_leanRing_77 (by decide) 78 rfl ?_
    exact z_zretWc (x := y_5.2) (ex := ex) (fun z => wX1 T a0 S0 ++ wX5 T a1 z) C hr dX2_leanRing_78 (Or.inr rfl) h rfl

end
/-! StreamTree$Drawing.straightenOnce (LStreamTree$Chart;LStreamTree$Tree;)Z -/
section
variable {p : Program} {l : Launch} {e : Env} {R : Room} {s : State} {m : MethodId} {args : Array Value} {below : List Frame} {meth : Method} {c : Code} {Q : State → Prop} {A : Nat → Prop} {D : va_G} {T : Nat → ClassId} {a0 : Nat → Nat} {a1 : Nat → Nat}
theorem in_X2_straightenOnce_X1 : ∀ w ∈ u_ws RX1 TX1 10, w ∈ wsX2_straightenOnce := fun _ h => (List.mem_cons_of_mem _ (List.mem_append_left _ (List.mem_append_right _ h)))
def f_X2_straightenOnce_J45 (rec : (Int32 × Int32 × (Nat → Nat → Int32)) → Option (Int32 × (Nat → Nat → Int32))) (S0 : Nat → Nat → Int32) (S1 : Nat → Nat → Int32) (x2 : Int32) (v3 : Int32) (x4 : Int32)  : Option (Int32 × (Nat → Nat → Int32)) := rec (x2, (x4 + 1), S1)
set_option maxHeartbeats 4000000 in
set_option maxRecDepth 100000 in
theorem p_X2_straightenOnce_J45 (C : zC p R s m args meth c cX2_straightenOnce 5 RX2 wsX2_straightenOnce D T 3 73 0 0) (S0 : Nat → Nat → Int32) (S1 : Nat → Nat → Int32) {v3 : Int32} (x2 : Int32) (x4 : Int32)  (hD : va_D A (wX1 T a0 S0 ++ wX5 T a1 S1)) {rec : (Int32 × Int32 × (Nat → Nat → Int32)) → Option (Int32 × (Nat → Nat → Int32))} (hrec : ∀ (c0 : Int32) (c1 : Int32) (c2 : Nat → Nat → Int32) (b : Int32 × (Nat → Nat → Int32)), rec (c0, c1, c2) = some b → (zt p l e R s m args below meth c 5 A D 0 0 Q (wX1 T a0 S0 ++ wX5 T a1 b.2) [(0, .ref (a0 99)), (1, .ref (a1 99)), (2, .int b.1), (3, .int v3)] 51 []) → zt p l e R s m args below meth c 5 A D 0 0 Q (wX1 T a0 S0 ++ wX5 T a1 c2) [(0, .ref (a0 99)), (1, .ref (a1 99)), (2, .int c0), (3, .int v3), (4, .int c1)] 15 []) {b : Int32 × (Nat → Nat → Int32)} (K : zt p l e R s m args below meth c 5 A D 0 0 Q (wX1 T a0 S0 ++ wX5 T a1 b.2) [(0, .ref (a0 99)), (1, .ref (a1 99)), (2, .int b.1), (3, .int v3)] 51 []) (h : f_X2_straightenOnce_J45 rec S0 S1 x2 v3 x4 = some b) : zt p l e R s m args below meth c 5 A D 0 0 Q (wX1 T a0 S0 ++ wX5 T a1 S1) [(0, .ref (a0 99)), (1, .ref (a1 99)), (2, .int x2), (3, .int v3), (4, .int x4)] 45 [] := by
  unfold f_X2_straightenOnce_J45 at h
  refine z_iinc C (x4 + 1) [(0, .ref (a0 99)), (1, .ref (a1 99)), (2, .int x2), (3, .int v3), (4, .int (x4 + 1))] dX2_straightenOnce_45 4 rfl rfl (Nat.le_of_ble_eq_true rfl) [1, 2, 3, 4, 0] rfl 48 rfl ?_
  refine z_goto C 15 dX2_straightenOnce_48 (by decide) ?_
  exact z_locals (ks := [0, 1, 2, 3, 4]) rfl (hrec _ _ _ _ h K)

def f_X2_straightenOnce_L15b (S0 : Nat → Nat → Int32) (v3 : Int32) (rec : (Int32 × Int32 × (Nat → Nat → Int32)) → Option (Int32 × (Nat → Nat → Int32))) (a : Int32 × Int32 × (Nat → Nat → Int32)) : Option (Int32 × (Nat → Nat → Int32)) := if (S0 1 0) ≤ a.2.1 then (some (a.1, a.2.2)) else ((f_X2_isDetour S0 a.2.2 v3 a.2.1).bind fun r_2 => if r_2 = 0 then (f_X2_straightenOnce_J45 rec S0 a.2.2 a.1 v3 a.2.1) else ((f_X2_straighten S0 a.2.2 v3 a.2.1).bind fun r_3 => f_X2_straightenOnce_J45 rec S0 r_3 1 v3 a.2.1))
def f_X2_straightenOnce_L15 (S0 : Nat → Nat → Int32) (v3 : Int32) : Nat → (Int32 × Int32 × (Nat → Nat → Int32)) → Option (Int32 × (Nat → Nat → Int32)) := zloop (fun rec a => f_X2_straightenOnce_L15b S0 v3 rec a)
set_option maxHeartbeats 4000000 in
set_option maxRecDepth 100000 in
theorem p_X2_straightenOnce_L15 (C : zC p R s m args meth c cX2_straightenOnce 5 RX2 wsX2_straightenOnce D T 3 73 0 0) (S0 : Nat → Nat → Int32) (S1 : Nat → Nat → Int32) (v3 : Int32) (hD : va_D A (wX1 T a0 S0 ++ wX5 T a1 S1)) : ∀ (n : Nat) (c0 : Int32) (c1 : Int32) (c2 : Nat → Nat → Int32) (b : Int32 × (Nat → Nat → Int32)), f_X2_straightenOnce_L15 S0 v3 n (c0, c1, c2) = some b → (zt p l e R s m args below meth c 5 A D 0 0 Q (wX1 T a0 S0 ++ wX5 T a1 b.2) [(0, .ref (a0 99)), (1, .ref (a1 99)), (2, .int b.1), (3, .int v3)] 51 []) → zt p l e R s m args below meth c 5 A D 0 0 Q (wX1 T a0 S0 ++ wX5 T a1 c2) [(0, .ref (a0 99)), (1, .ref (a1 99)), (2, .int c0), (3, .int v3), (4, .int c1)] 15 [] := by
  intro n c0 c1 c2 b h K
  refine zloop_ind (P := fun a b => (zt p l e R s m args below meth c 5 A D 0 0 Q (wX1 T a0 S0 ++ wX5 T a1 b.2) [(0, .ref (a0 99)), (1, .ref (a1 99)), (2, .int b.1), (3, .int v3)] 51 []) → zt p l e R s m args below meth c 5 A D 0 0 Q (wX1 T a0 S0 ++ wX5 T a1 a.2.2) [(0, .ref (a0 99)), (1, .ref (a1 99)), (2, .int a.1), (3, .int v3), (4, .int a.2.1)] 15 []) ?_ n (c0, c1, c2) b h K
  clear h K b c0 c1 c2
  intro rec hrec a b h K
  have hrec : ∀ (c0 : Int32) (c1 : Int32) (c2 : Nat → Nat → Int32) (b : Int32 × (Nat → Nat → Int32)), rec (c0, c1, c2) = some b → (zt p l e R s m args below meth c 5 A D 0 0 Q (wX1 T a0 S0 ++ wX5 T a1 b.2) [(0, .ref (a0 99)), (1, .ref (a1 99)), (2, .int b.1), (3, .int v3)] 51 []) → zt p l e R s m args below meth c 5 A D 0 0 Q (wX1 T a0 S0 ++ wX5 T a1 c2) [(0, .ref (a0 99)), (1, .ref (a1 99)), (2, .int c0), (3, .int v3), (4, .int c1)] 15 [] := fun c0 c1 c2 b h K => hrec (c0, c1, c2) b h K
  unfold f_X2_straightenOnce_L15b at h
  refine z_iload C dX2_straightenOnce_15 4 rfl 17 rfl ?_
  refine z_aload_n C dX2_straightenOnce_17 rfl 0 rfl 18 rfl ?_
  refine z_get C (in_X2_straightenOnce_X1) 0 rfl rfl 1 (by decide) (List.mem_of_getElem? (i := 2) rfl) rfl rfl dX2_straightenOnce_18 21 rfl ?_
  refine z_icmp_ge C 51 dX2_straightenOnce_21 (by decide) 24 rfl h (fun h => ?_) (fun h => ?_)
  · refine z_locals (ks := [0, 1, 2, 3]) (lv' := [(0, .ref (a0 99)), (1, .ref (a1 99)), (2, .int a.1), (3, .int v3)]) rfl ?_
    exact zex2 (F := (fun e0 e1 => zt p l e R s m args below meth c 5 A D 0 0 Q (wX1 T a0 S0 ++ wX5 T a1 e1) [(0, .ref (a0 99)), (1, .ref (a1 99)), (2, .int e0), (3, .int v3)] 51 [])) h K
  · refine z_aload_n C dX2_straightenOnce_24 rfl 0 rfl 25 rfl ?_
    refine z_aload_n C dX2_straightenOnce_25 rfl 1 rfl 26 rfl ?_
    refine z_iload_n C dX2_straightenOnce_26 rfl 3 rfl 27 rfl ?_
    refine z_iload C dX2_straightenOnce_27 4 rfl 29 rfl ?_
    refine z_callR C (wX1 T a0 S0 ++ wX5 T a1 a.2.2) (fun v h => c_X2_isDetour l D T a0 a1  S0 a.2.2 v3 a.2.1 v h) ⟨rfl, rfl⟩ (z_cwS C 4 gX2_straightenOnce_X2_isDetour rfl dd_X2_isDetour ⟨(Nat.le_of_ble_eq_true rfl), (Nat.le_of_ble_eq_true rfl)⟩) (hD.zaddr rfl) [0, 1, 2, 3, 4, 5, 6, 7] rfl rfl (fun h => absurd h (by decide)) (fun _ => rfl) rfl (Nat.le_of_ble_eq_true rfl) dX2_straightenOnce_29 32 rfl h (fun r_2 h => ?_)
    refine z_if_eq C 45 dX2_straightenOnce_32 (by decide) 35 rfl h (fun h => ?_) (fun h => ?_)
    · exact z_locals (ks := [0, 1, 2, 3, 4]) rfl (p_X2_straightenOnce_J45 C S0 a.2.2 a.1 a.2.1 (hD.zaddr rfl) hrec K h)
    · refine z_aload_n C dX2_straightenOnce_35 rfl 0 rfl 36 rfl ?_
      refine z_aload_n C dX2_straightenOnce_36 rfl 1 rfl 37 rfl ?_
      refine z_iload_n C dX2_straightenOnce_37 rfl 3 rfl 38 rfl ?_
      refine z_iload C dX2_straightenOnce_38 4 rfl 40 rfl ?_
      refine z_callV C (wX1 T a0 S0 ++ wX5 T a1 a.2.2) (([] : va_W)) (fun z => wX1 T a0 S0 ++ wX5 T a1 z) (fun z => wX1 T a0 S0 ++ wX5 T a1 z) (fun z h => c_X2_straighten l D T a0 a1  S0 a.2.2 v3 a.2.1 z h) ⟨rfl, rfl⟩ (z_cwS C 4 gX2_straightenOnce_X2_straighten rfl dd_X2_straighten ⟨(Nat.le_of_ble_eq_true rfl), (Nat.le_of_ble_eq_true rfl)⟩) (hD.zaddr rfl) [0, 1, 2, 3, 4, 5, 6, 7] [] [0, 1, 2, 3, 4, 5, 6, 7] rfl rfl rfl (by decide) (fun _ => rfl) (fun h => absurd h (by decide)) (fun _ => rfl) rfl (Nat.le_of_ble_eq_true rfl) dX2_straightenOnce_40 43 rfl h (fun r_3 h => ?_)
      refine z_iconst C 1 dX2_straightenOnce_43 (by decide) 44 rfl ?_
      refine z_istore_n C [(0, .ref (a0 99)), (1, .ref (a1 99)), (2, .int 1), (3, .int v3), (4, .int a.2.1)] dX2_straightenOnce_44 rfl (Nat.le_of_ble_eq_true rfl) [1, 2, 0, 3, 4] rfl 45 rfl ?_
      exact z_locals (ks := [0, 1, 2, 3, 4]) rfl (p_X2_straightenOnce_J45 C S0 r_3 1 a.2.1 (hD.zaddr rfl) hrec K h)

def f_X2_straightenOnce_L7b (S0 : Nat → Nat → Int32)  (rec : (Int32 × Int32 × (Nat → Nat → Int32)) → Option (Int32 × (Nat → Nat → Int32))) (a : Int32 × Int32 × (Nat → Nat → Int32)) : Option (Int32 × (Nat → Nat → Int32)) := if a.2.1 < 3 then (some (a.1, a.2.2)) else ((f_X2_straightenOnce_L15 S0 a.2.1 zfuel (a.1, 0, a.2.2)).bind fun y_4 => rec (y_4.1, (a.2.1 + (-1)), y_4.2))
def f_X2_straightenOnce_L7 (S0 : Nat → Nat → Int32)  : Nat → (Int32 × Int32 × (Nat → Nat → Int32)) → Option (Int32 × (Nat → Nat → Int32)) := zloop (fun rec a => f_X2_straightenOnce_L7b S0 rec a)
set_option maxHeartbeats 4000000 in
set_option maxRecDepth 100000 in
theorem p_X2_straightenOnce_L7 (C : zC p R s m args meth c cX2_straightenOnce 5 RX2 wsX2_straightenOnce D T 3 73 0 0) (S0 : Nat → Nat → Int32) (S1 : Nat → Nat → Int32)  (hD : va_D A (wX1 T a0 S0 ++ wX5 T a1 S1)) : ∀ (n : Nat) (c0 : Int32) (c1 : Int32) (c2 : Nat → Nat → Int32) (b : Int32 × (Nat → Nat → Int32)), f_X2_straightenOnce_L7 S0 n (c0, c1, c2) = some b → (zt p l e R s m args below meth c 5 A D 0 0 Q (wX1 T a0 S0 ++ wX5 T a1 b.2) [(2, .int b.1)] 57 []) → zt p l e R s m args below meth c 5 A D 0 0 Q (wX1 T a0 S0 ++ wX5 T a1 c2) [(0, .ref (a0 99)), (1, .ref (a1 99)), (2, .int c0), (3, .int c1)] 7 [] := by
  intro n c0 c1 c2 b h K
  refine zloop_ind (P := fun a b => (zt p l e R s m args below meth c 5 A D 0 0 Q (wX1 T a0 S0 ++ wX5 T a1 b.2) [(2, .int b.1)] 57 []) → zt p l e R s m args below meth c 5 A D 0 0 Q (wX1 T a0 S0 ++ wX5 T a1 a.2.2) [(0, .ref (a0 99)), (1, .ref (a1 99)), (2, .int a.1), (3, .int a.2.1)] 7 []) ?_ n (c0, c1, c2) b h K
  clear h K b c0 c1 c2
  intro rec hrec a b h K
  have hrec : ∀ (c0 : Int32) (c1 : Int32) (c2 : Nat → Nat → Int32) (b : Int32 × (Nat → Nat → Int32)), rec (c0, c1, c2) = some b → (zt p l e R s m args below meth c 5 A D 0 0 Q (wX1 T a0 S0 ++ wX5 T a1 b.2) [(2, .int b.1)] 57 []) → zt p l e R s m args below meth c 5 A D 0 0 Q (wX1 T a0 S0 ++ wX5 T a1 c2) [(0, .ref (a0 99)), (1, .ref (a1 99)), (2, .int c0), (3, .int c1)] 7 [] := fun c0 c1 c2 b h K => hrec (c0, c1, c2) b h K
  unfold f_X2_straightenOnce_L7b at h
  refine z_iload_n C dX2_straightenOnce_7 rfl 3 rfl 8 rfl ?_
  refine z_iconst C 3 dX2_straightenOnce_8 (by decide) 9 rfl ?_
  refine z_icmp_lt C 57 dX2_straightenOnce_9 (by decide) 12 rfl h (fun h => ?_) (fun h => ?_)
  · refine z_locals (ks := [2]) (lv' := [(2, .int a.1)]) rfl ?_
    exact zex2 (F := (fun e0 e1 => zt p l e R s m args below meth c 5 A D 0 0 Q (wX1 T a0 S0 ++ wX5 T a1 e1) [(2, .int e0)] 57 [])) h K
  · refine z_iconst C 0 dX2_straightenOnce_12 (by decide) 13 rfl ?_
    refine z_istore C [(0, .ref (a0 99)), (1, .ref (a1 99)), (2, .int a.1), (3, .int a.2.1), (4, .int 0)] dX2_straightenOnce_13 (Nat.le_of_ble_eq_true rfl) [1, 2, 3, 4, 0] rfl 15 rfl ?_
    obtain ⟨y_4, hl_y_4, h⟩ := Option.bind_eq_some_iff.mp h
    refine z_locals (ks := [0, 1, 2, 3, 4]) rfl (p_X2_straightenOnce_L15 C S0 a.2.2 a.2.1 (hD.zaddr rfl) _ _ _ _ _ hl_y_4 ?_)
    refine z_iinc C (a.2.1 + (-1)) [(0, .ref (a0 99)), (1, .ref (a1 99)), (2, .int y_4.1), (3, .int (a.2.1 + (-1)))] dX2_straightenOnce_51 3 rfl rfl (Nat.le_of_ble_eq_true rfl) [1, 2, 3, 0] rfl 54 rfl ?_
    refine z_goto C 7 dX2_straightenOnce_54 (by decide) ?_
    exact z_locals (ks := [0, 1, 2, 3]) rfl (hrec _ _ _ _ h K)

def f_X2_straightenOnce (S0 : Nat → Nat → Int32) (S1 : Nat → Nat → Int32)  : Option (Int32 × (Nat → Nat → Int32)) := zlet (S0 0 0) fun u_1 => (f_X2_straightenOnce_L7 S0 zfuel (0, u_1, S1)).bind fun y_5 => zbo y_5.1 (some (y_5.1, y_5.2))
theorem dd_X2_straightenOnce : RX2 ≠ "java/lang/invoke/MethodHandle" ∧ RX2 ≠ "java/lang/invoke/VarHandle" ∧ (parseMethodDescriptor yX2_straightenOnce.desc).map (fun d => d.parameters.length) = some 2 := by decide +kernel
set_option maxHeartbeats 4000000 in
set_option maxRecDepth 100000 in
theorem c_X2_straightenOnce (l : Launch) (D : va_G) (T : Nat → ClassId) (a0 : Nat → Nat) (a1 : Nat → Nat) (S0 : Nat → Nat → Int32) (S1 : Nat → Nat → Int32)  (ex : Int32 × (Nat → Nat → Int32)) (h : f_X2_straightenOnce S0 S1 = some ex) : zWI l yX2_straightenOnce wsX2_straightenOnce ({ frames := 3, cells := 0, slots := 0, locals := 73 } : Room) D T [.ref (a0 99), .ref (a1 99)] (wX1 T a0 S0 ++ wX5 T a1 S1) ex.1 (wX1 T a0 S0 ++ wX5 T a1 ex.2) := by
  refine z_begin (cc := cX2_straightenOnce) (nL := 5) (own := RX2) (fr := 3) (lc := 73) (ret := some .boolean) (by decide) rfl (Nat.le_of_ble_eq_true rfl) (zA (wX1 T a0 S0 ++ wX5 T a1 S1)) rfl [(0, .ref (a0 99)), (1, .ref (a1 99))] rfl ⟨rfl, rfl⟩ rfl ?_
  intro p e s m args below meth c C hr hD
  have hD := hD.zself
  unfold f_X2_straightenOnce at h
  refine z_iconst C 0 dX2_straightenOnce_0 (by decide) 1 rfl ?_
  refine z_istore_n C [(0, .ref (a0 99)), (1, .ref (a1 99)), (2, .int 0)] dX2_straightenOnce_1 rfl (Nat.le_of_ble_eq_true rfl) [1, 2, 0] rfl 2 rfl ?_
  refine z_aload_n C dX2_straightenOnce_2 rfl 0 rfl 3 rfl ?_
  refine z_get C (in_X2_straightenOnce_X1) 0 rfl rfl 0 (by decide) (List.mem_of_getElem? (i := 1) rfl) rfl rfl dX2_straightenOnce_3 6 rfl ?_
  refine z_top h (fun u_1 h => ?_)
  refine z_istore_n C [(0, .ref (a0 99)), (1, .ref (a1 99)), (2, .int 0), (3, .int u_1)] dX2_straightenOnce_6 rfl (Nat.le_of_ble_eq_true rfl) [1, 2, 3, 0] rfl 7 rfl ?_
  obtain ⟨y_5, hl_y_5, h⟩ := Option.bind_eq_some_iff.mp h
  refine z_locals (ks := [0, 1, 2, 3]) rfl (p_X2_straightenOnce_L7 C S0 S1  (hD.zaddr rfl) _ _ _ _ _ hl_y_5 ?_)
  refine z_iload_n C dX2_straightenOnce_57 rfl 0 rfl 58 rfl ?_
  exact z_zretW (x := y_5.2) (ex := ex) (fun z => wX1 T a0 S0 ++ wX5 T a1 z) C hr dX2_straightenOnce_58 h rfl

end
/-! StreamTree$Drawing.drawLean (LStreamTree$Chart;LStreamTree$Tree;)V -/
section
variable {p : Program} {l : Launch} {e : Env} {R : Room} {s : State} {m : MethodId} {args : Array Value} {below : List Frame} {meth : Method} {c : Code} {Q : State → Prop} {A : Nat → Prop} {D : va_G} {T : Nat → ClassId} {a0 : Nat → Nat} {a1 : Nat → Nat}
theorem in_X2_drawLean_X1 : ∀ w ∈ u_ws RX1 TX1 10, w ∈ wsX2_drawLean := fun _ h => (List.mem_cons_of_mem _ (List.mem_append_left _ (List.mem_append_right _ h)))
def f_X2_drawLean_L12b (S0 : Nat → Nat → Int32)  (rec : (Int32 × Int32 × (Nat → Nat → Int32)) → Option (Int32 × (Nat → Nat → Int32))) (a : Int32 × Int32 × (Nat → Nat → Int32)) : Option (Int32 × (Nat → Nat → Int32)) := if a.2.1 < 1 then (some (a.1, a.2.2)) else (if a.1 = 0 then (some (a.1, a.2.2)) else ((f_X2_leanRing S0 a.2.2 a.2.1).bind fun r_3 => rec (r_3.1, (a.2.1 + (-1)), r_3.2)))
def f_X2_drawLean_L12 (S0 : Nat → Nat → Int32)  : Nat → (Int32 × Int32 × (Nat → Nat → Int32)) → Option (Int32 × (Nat → Nat → Int32)) := zloop (fun rec a => f_X2_drawLean_L12b S0 rec a)
set_option maxHeartbeats 4000000 in
set_option maxRecDepth 100000 in
theorem p_X2_drawLean_L12 (C : zC p R s m args meth c cX2_drawLean 4 RX2 wsX2_drawLean D T 4 103 0 0) (S0 : Nat → Nat → Int32) (S1 : Nat → Nat → Int32)  (hD : va_D A (wX1 T a0 S0 ++ wX5 T a1 S1)) : ∀ (n : Nat) (c0 : Int32) (c1 : Int32) (c2 : Nat → Nat → Int32) (b : Int32 × (Nat → Nat → Int32)), f_X2_drawLean_L12 S0 n (c0, c1, c2) = some b → (zt p l e R s m args below meth c 4 A D 0 0 Q (wX1 T a0 S0 ++ wX5 T a1 b.2) [(0, .ref (a0 99)), (1, .ref (a1 99)), (2, .int b.1)] 34 []) → zt p l e R s m args below meth c 4 A D 0 0 Q (wX1 T a0 S0 ++ wX5 T a1 c2) [(0, .ref (a0 99)), (1, .ref (a1 99)), (2, .int c0), (3, .int c1)] 12 [] := by
  intro n c0 c1 c2 b h K
  refine zloop_ind (P := fun a b => (zt p l e R s m args below meth c 4 A D 0 0 Q (wX1 T a0 S0 ++ wX5 T a1 b.2) [(0, .ref (a0 99)), (1, .ref (a1 99)), (2, .int b.1)] 34 []) → zt p l e R s m args below meth c 4 A D 0 0 Q (wX1 T a0 S0 ++ wX5 T a1 a.2.2) [(0, .ref (a0 99)), (1, .ref (a1 99)), (2, .int a.1), (3, .int a.2.1)] 12 []) ?_ n (c0, c1, c2) b h K
  clear h K b c0 c1 c2
  intro rec hrec a b h K
  have hrec : ∀ (c0 : Int32) (c1 : Int32) (c2 : Nat → Nat → Int32) (b : Int32 × (Nat → Nat → Int32)), rec (c0, c1, c2) = some b → (zt p l e R s m args below meth c 4 A D 0 0 Q (wX1 T a0 S0 ++ wX5 T a1 b.2) [(0, .ref (a0 99)), (1, .ref (a1 99)), (2, .int b.1)] 34 []) → zt p l e R s m args below meth c 4 A D 0 0 Q (wX1 T a0 S0 ++ wX5 T a1 c2) [(0, .ref (a0 99)), (1, .ref (a1 99)), (2, .int c0), (3, .int c1)] 12 [] := fun c0 c1 c2 b h K => hrec (c0, c1, c2) b h K
  unfold f_X2_drawLean_L12b at h
  refine z_iload_n C dX2_drawLean_12 rfl 3 rfl 13 rfl ?_
  refine z_iconst C 1 dX2_drawLean_13 (by decide) 14 rfl ?_
  refine z_icmp_lt C 34 dX2_drawLean_14 (by decide) 17 rfl h (fun h => ?_) (fun h => ?_)
  · refine z_locals (ks := [0, 1, 2]) (lv' := [(0, .ref (a0 99)), (1, .ref (a1 99)), (2, .int a.1)]) rfl ?_
    exact zex2 (F := (fun e0 e1 => zt p l e R s m args below meth c 4 A D 0 0 Q (wX1 T a0 S0 ++ wX5 T a1 e1) [(0, .ref (a0 99)), (1, .ref (a1 99)), (2, .int e0)] 34 [])) h K
  · refine z_iload_n C dX2_drawLean_17 rfl 2 rfl 18 rfl ?_
    refine z_if_eq C 34 dX2_drawLean_18 (by decide) 21 rfl h (fun h => ?_) (fun h => ?_)
    · refine z_locals (ks := [0, 1, 2]) (lv' := [(0, .ref (a0 99)), (1, .ref (a1 99)), (2, .int a.1)]) rfl ?_
      exact zex2 (F := (fun e0 e1 => zt p l e R s m args below meth c 4 A D 0 0 Q (wX1 T a0 S0 ++ wX5 T a1 e1) [(0, .ref (a0 99)), (1, .ref (a1 99)), (2, .int e0)] 34 [])) h K
    · refine z_aload_n C dX2_drawLean_21 rfl 0 rfl 22 rfl ?_
      refine z_aload_n C dX2_drawLean_22 rfl 1 rfl 23 rfl ?_
      refine z_iload_n C dX2_drawLean_23 rfl 3 rfl 24 rfl ?_
      refine z_callW C (wX1 T a0 S0 ++ wX5 T a1 a.2.2) (([] : va_W)) (fun z => z.1) (fun z => wX1 T a0 S0 ++ wX5 T a1 z.2) (fun z => wX1 T a0 S0 ++ wX5 T a1 z.2) (fun z h => c_X2_leanRing l D T a0 a1  S0 a.2.2 a.2.1 z h) ⟨rfl, rfl⟩ (z_cwS C 3 gX2_drawLean_X2_leanRing rfl dd_X2_leanRing ⟨(Nat.le_of_ble_eq_true rfl), (Nat.le_of_ble_eq_true rfl)⟩) (hD.zaddr rfl) [0, 1, 2, 3, 4, 5, 6, 7] [] [0, 1, 2, 3, 4, 5, 6, 7] rfl rfl rfl (by decide) (fun _ => rfl) (fun h => absurd h (by decide)) (fun _ => rfl) rfl (Nat.le_of_ble_eq_true rfl) dX2_drawLean_24 27 rfl h (fun r_3 h => ?_)
      refine z_istore_n C [(0, .ref (a0 99)), (1, .ref (a1 99)), (2, .int r_3.1), (3, .int a.2.1)] dX2_drawLean_27 rfl (Nat.le_of_ble_eq_true rfl) [1, 2, 0, 3] rfl 28 rfl ?_
      refine z_iinc C (a.2.1 + (-1)) [(0, .ref (a0 99)), (1, .ref (a1 99)), (2, .int r_3.1), (3, .int (a.2.1 + (-1)))] dX2_drawLean_28 3 rfl rfl (Nat.le_of_ble_eq_true rfl) [1, 2, 3, 0] rfl 31 rfl ?_
      refine z_goto C 12 dX2_drawLean_31 (by decide) ?_
      exact z_locals (ks := [0, 1, 2, 3]) rfl (hrec _ _ _ _ h K)

def f_X2_drawLean_J34 (S0 : Nat → Nat → Int32) (S1 : Nat → Nat → Int32) (x2 : Int32)  : Option ((Nat → Nat → Int32)) := (f_X5_finish S1 S0 x2).bind fun r_5 => some r_5
set_option maxHeartbeats 4000000 in
set_option maxRecDepth 100000 in
theorem p_X2_drawLean_J34 {w0 : va_W} (C : zC p R s m args meth c cX2_drawLean 4 RX2 wsX2_drawLean D T 4 103 0 0) (hr : meth.sig.returnType = none) (S0 : Nat → Nat → Int32) (S1 : Nat → Nat → Int32) (x2 : Int32)  (hD : va_D (zA w0) (wX1 T a0 S0 ++ wX5 T a1 S1)) {ex : (Nat → Nat → Int32)} (h : f_X2_drawLean_J34 S0 S1 x2 = some ex) : zt p l e R s m args below meth c 4 (zA w0) D 0 0 (MQ below (zQV D w0 (wX1 T a0 S0 ++ wX5 T a1 ex)) args s 0 0 (zA w0)) (wX1 T a0 S0 ++ wX5 T a1 S1) [(0, .ref (a0 99)), (1, .ref (a1 99)), (2, .int x2)] 34 [] := by
  unfold f_X2_drawLean_J34 at h
  refine z_aload_n C dX2_drawLean_34 rfl 1 rfl 35 rfl ?_
  refine z_aload_n C dX2_drawLean_35 rfl 0 rfl 36 rfl ?_
  refine z_iload_n C dX2_drawLean_36 rfl 2 rfl 37 rfl ?_
  refine z_callV C (wX5 T a1 S1 ++ wX1 T a0 S0) (([] : va_W)) (fun z => wX5 T a1 z ++ wX1 T a0 S0) (fun z => wX1 T a0 S0 ++ wX5 T a1 z) (fun z h => c_X5_finish l D T a1 a0  S1 S0 x2 z h) ⟨rfl, rfl⟩ (z_cwV C 2 gX2_drawLean_X5_finish rfl rfl dd_X5_finish ⟨(Nat.le_of_ble_eq_true rfl), (Nat.le_of_ble_eq_true rfl)⟩) (hD.zaddr rfl) [5, 6, 7, 0, 1, 2, 3, 4] [] [3, 4, 5, 6, 7, 0, 1, 2] rfl rfl rfl (by decide) (fun _ => rfl) (fun _ => ⟨a1 99, [.ref (a0 99), .int x2], 4, 0, _, _, rfl, rfl, rfl, rfl, rfl⟩) (fun h => absurd rfl h) rfl (Nat.le_of_ble_eq_true rfl) dX2_drawLean_37 40 rfl h (fun r_5 h => ?_)
  exact z_vretW (x := r_5) (ex := ex) (fun z => wX1 T a0 S0 ++ wX5 T a1 z) C hr dX2_drawLean_40 h rfl

def f_X2_drawLean (S0 : Nat → Nat → Int32) (S1 : Nat → Nat → Int32)  : Option ((Nat → Nat → Int32)) := (f_X5_clearButPlaces S1 S0).bind fun r_1 => zlet (S0 0 0) fun u_2 => (f_X2_drawLean_L12 S0 zfuel (1, u_2, r_1)).bind fun y_4 => f_X2_drawLean_J34 S0 y_4.2 y_4.1
theorem dd_X2_drawLean : RX2 ≠ "java/lang/invoke/MethodHandle" ∧ RX2 ≠ "java/lang/invoke/VarHandle" ∧ (parseMethodDescriptor yX2_drawLean.desc).map (fun d => d.parameters.length) = some 2 := by decide +kernel
set_option maxHeartbeats 4000000 in
set_option maxRecDepth 100000 in
theorem c_X2_drawLean (l : Launch) (D : va_G) (T : Nat → ClassId) (a0 : Nat → Nat) (a1 : Nat → Nat) (S0 : Nat → Nat → Int32) (S1 : Nat → Nat → Int32)  (ex : (Nat → Nat → Int32)) (h : f_X2_drawLean S0 S1 = some ex) : zWV l yX2_drawLean wsX2_drawLean ({ frames := 4, cells := 0, slots := 0, locals := 103 } : Room) D T [.ref (a0 99), .ref (a1 99)] (wX1 T a0 S0 ++ wX5 T a1 S1) (wX1 T a0 S0 ++ wX5 T a1 ex) := by
  refine z_begin (cc := cX2_drawLean) (nL := 4) (own := RX2) (fr := 4) (lc := 103) (ret := none) (by decide) rfl (Nat.le_of_ble_eq_true rfl) (zA (wX1 T a0 S0 ++ wX5 T a1 S1)) rfl [(0, .ref (a0 99)), (1, .ref (a1 99))] rfl ⟨rfl, rfl⟩ rfl ?_
  intro p e s m args below meth c C hr hD
  have hD := hD.zself
  unfold f_X2_drawLean at h
  refine z_aload_n C dX2_drawLean_0 rfl 1 rfl 1 rfl ?_
  refine z_aload_n C dX2_drawLean_1 rfl 0 rfl 2 rfl ?_
  refine z_callV C (wX5 T a1 S1 ++ wX1 T a0 S0) (([] : va_W)) (fun z => wX5 T a1 z ++ wX1 T a0 S0) (fun z => wX1 T a0 S0 ++ wX5 T a1 z) (fun z h => c_X5_clearButPlaces l D T a1 a0  S1 S0  z h) ⟨rfl, rfl⟩ (z_cwV C 1 gX2_drawLean_X5_clearButPlaces rfl rfl dd_X5_clearButPlaces ⟨(Nat.le_of_ble_eq_true rfl), (Nat.le_of_ble_eq_true rfl)⟩) (hD.zaddr rfl) [5, 6, 7, 0, 1, 2, 3, 4] [] [3, 4, 5, 6, 7, 0, 1, 2] rfl rfl rfl (by decide) (fun _ => rfl) (fun _ => ⟨a1 99, [.ref (a0 99)], 4, 0, _, _, rfl, rfl, rfl, rfl, rfl⟩) (fun h => absurd rfl h) rfl (Nat.le_of_ble_eq_true rfl) dX2_drawLean_2 5 rfl h (fun r_1 h => ?_)
  refine z_iconst C 1 dX2_drawLean_5 (by decide) 6 rfl ?_
  refine z_istore_n C [(0, .ref (a0 99)), (1, .ref (a1 99)), (2, .int 1)] dX2_drawLean_6 rfl (Nat.le_of_ble_eq_true rfl) [1, 2, 0] rfl 7 rfl ?_
  refine z_aload_n C dX2_drawLean_7 rfl 0 rfl 8 rfl ?_
  refine z_get C (in_X2_drawLean_X1) 0 rfl rfl 0 (by decide) (List.mem_of_getElem? (i := 1) rfl) rfl rfl dX2_drawLean_8 11 rfl ?_
  refine z_top h (fun u_2 h => ?_)
  refine z_istore_n C [(0, .ref (a0 99)), (1, .ref (a1 99)), (2, .int 1), (3, .int u_2)] dX2_drawLean_11 rfl (Nat.le_of_ble_eq_true rfl) [1, 2, 3, 0] rfl 12 rfl ?_
  obtain ⟨y_4, hl_y_4, h⟩ := Option.bind_eq_some_iff.mp h
  refine z_locals (ks := [0, 1, 2, 3]) rfl (p_X2_drawLean_L12 C S0 r_1  (hD.zaddr rfl) _ _ _ _ _ hl_y_4 ?_)
  exact z_locals (ks := [0, 1, 2]) rfl (p_X2_drawLean_J34 C hr S0 y_4.2 y_4.1 (hD.zaddr rfl) h)

end
/-! StreamTree$Drawing.drawStraightened (LStreamTree$Chart;LStreamTree$Tree;LStreamTree$Tree;)V -/
section
variable {p : Program} {l : Launch} {e : Env} {R : Room} {s : State} {m : MethodId} {args : Array Value} {below : List Frame} {meth : Method} {c : Code} {Q : State → Prop} {A : Nat → Prop} {D : va_G} {T : Nat → ClassId} {a0 : Nat → Nat} {a1 : Nat → Nat} {a2 : Nat → Nat}
theorem in_X2_drawStraightened_X5 : ∀ w ∈ u_ws RX5 TX5 5, w ∈ wsX2_drawStraightened := fun _ h => (List.mem_cons_of_mem _ (List.mem_append_left _ (List.mem_append_right _ h)))
def f_X2_drawStraightened_L13b (S0 : Nat → Nat → Int32) (S1 : Nat → Nat → Int32)  (rec : (Int32 × Int32 × (Nat → Nat → Int32)) → Option ((Nat → Nat → Int32))) (a : Int32 × Int32 × (Nat → Nat → Int32)) : Option ((Nat → Nat → Int32)) := if 240 ≤ a.2.1 then (some a.2.2) else (if a.1 = 0 then (some a.2.2) else ((f_X2_straightenOnce S0 a.2.2).bind fun r_3 => rec (r_3.1, (a.2.1 + 1), r_3.2)))
def f_X2_drawStraightened_L13 (S0 : Nat → Nat → Int32) (S1 : Nat → Nat → Int32)  : Nat → (Int32 × Int32 × (Nat → Nat → Int32)) → Option ((Nat → Nat → Int32)) := zloop (fun rec a => f_X2_drawStraightened_L13b S0 S1 rec a)
set_option maxHeartbeats 4000000 in
set_option maxRecDepth 100000 in
theorem p_X2_drawStraightened_L13 (C : zC p R s m args meth c cX2_drawStraightened 5 RX2 wsX2_drawStraightened D T 4 97 0 0) (S0 : Nat → Nat → Int32) (S1 : Nat → Nat → Int32) (S2 : Nat → Nat → Int32)  (hD : va_D A (wX1 T a0 S0 ++ (wX5 T a1 S1 ++ wX5 T a2 S2))) : ∀ (n : Nat) (c0 : Int32) (c1 : Int32) (c2 : Nat → Nat → Int32) (b : (Nat → Nat → Int32)), f_X2_drawStraightened_L13 S0 S1 n (c0, c1, c2) = some b → (zt p l e R s m args below meth c 5 A D 0 0 Q (wX1 T a0 S0 ++ (wX5 T a1 S1 ++ wX5 T a2 b)) [(0, .ref (a0 99)), (1, .ref (a1 99)), (2, .ref (a2 99))] 37 []) → zt p l e R s m args below meth c 5 A D 0 0 Q (wX1 T a0 S0 ++ (wX5 T a1 S1 ++ wX5 T a2 c2)) [(0, .ref (a0 99)), (1, .ref (a1 99)), (2, .ref (a2 99)), (3, .int c0), (4, .int c1)] 13 [] := by
  intro n c0 c1 c2 b h K
  refine zloop_ind (P := fun a b => (zt p l e R s m args below meth c 5 A D 0 0 Q (wX1 T a0 S0 ++ (wX5 T a1 S1 ++ wX5 T a2 b)) [(0, .ref (a0 99)), (1, .ref (a1 99)), (2, .ref (a2 99))] 37 []) → zt p l e R s m args below meth c 5 A D 0 0 Q (wX1 T a0 S0 ++ (wX5 T a1 S1 ++ wX5 T a2 a.2.2)) [(0, .ref (a0 99)), (1, .ref (a1 99)), (2, .ref (a2 99)), (3, .int a.1), (4, .int a.2.1)] 13 []) ?_ n (c0, c1, c2) b h K
  clear h K b c0 c1 c2
  intro rec hrec a b h K
  have hrec : ∀ (c0 : Int32) (c1 : Int32) (c2 : Nat → Nat → Int32) (b : (Nat → Nat → Int32)), rec (c0, c1, c2) = some b → (zt p l e R s m args below meth c 5 A D 0 0 Q (wX1 T a0 S0 ++ (wX5 T a1 S1 ++ wX5 T a2 b)) [(0, .ref (a0 99)), (1, .ref (a1 99)), (2, .ref (a2 99))] 37 []) → zt p l e R s m args below meth c 5 A D 0 0 Q (wX1 T a0 S0 ++ (wX5 T a1 S1 ++ wX5 T a2 c2)) [(0, .ref (a0 99)), (1, .ref (a1 99)), (2, .ref (a2 99)), (3, .int c0), (4, .int c1)] 13 [] := fun c0 c1 c2 b h K => hrec (c0, c1, c2) b h K
  unfold f_X2_drawStraightened_L13b at h
  refine z_iload C dX2_drawStraightened_13 4 rfl 15 rfl ?_
  refine z_sipush C 240 dX2_drawStraightened_15 (by decide) 18 rfl ?_
  refine z_icmp_ge C 37 dX2_drawStraightened_18 (by decide) 21 rfl h (fun h => ?_) (fun h => ?_)
  · refine z_locals (ks := [0, 1, 2]) (lv' := [(0, .ref (a0 99)), (1, .ref (a1 99)), (2, .ref (a2 99))]) rfl ?_
    exact zex1 (F := (fun e0 => zt p l e R s m args below meth c 5 A D 0 0 Q (wX1 T a0 S0 ++ (wX5 T a1 S1 ++ wX5 T a2 e0)) [(0, .ref (a0 99)), (1, .ref (a1 99)), (2, .ref (a2 99))] 37 [])) h K
  · refine z_iload_n C dX2_drawStraightened_21 rfl 3 rfl 22 rfl ?_
    refine z_if_eq C 37 dX2_drawStraightened_22 (by decide) 25 rfl h (fun h => ?_) (fun h => ?_)
    · refine z_locals (ks := [0, 1, 2]) (lv' := [(0, .ref (a0 99)), (1, .ref (a1 99)), (2, .ref (a2 99))]) rfl ?_
      exact zex1 (F := (fun e0 => zt p l e R s m args below meth c 5 A D 0 0 Q (wX1 T a0 S0 ++ (wX5 T a1 S1 ++ wX5 T a2 e0)) [(0, .ref (a0 99)), (1, .ref (a1 99)), (2, .ref (a2 99))] 37 [])) h K
    · refine z_aload_n C dX2_drawStraightened_25 rfl 0 rfl 26 rfl ?_
      refine z_aload_n C dX2_drawStraightened_26 rfl 2 rfl 27 rfl ?_
      refine z_callW C (wX1 T a0 S0 ++ wX5 T a2 a.2.2) (wX5 T a1 S1) (fun z => z.1) (fun z => wX1 T a0 S0 ++ wX5 T a2 z.2) (fun z => wX1 T a0 S0 ++ (wX5 T a1 S1 ++ wX5 T a2 z.2)) (fun z h => c_X2_straightenOnce l D T a0 a2  S0 a.2.2  z h) ⟨rfl, rfl⟩ (z_cwS C 2 gX2_drawStraightened_X2_straightenOnce rfl dd_X2_straightenOnce ⟨(Nat.le_of_ble_eq_true rfl), (Nat.le_of_ble_eq_true rfl)⟩) (hD.zaddr rfl) [0, 1, 2, 3, 4, 8, 9, 10] [5, 6, 7] [3, 4, 5, 6, 7, 0, 1, 2, 8, 9, 10] rfl rfl rfl (by decide) (fun _ => rfl) (fun h => absurd h (by decide)) (fun _ => rfl) rfl (Nat.le_of_ble_eq_true rfl) dX2_drawStraightened_27 30 rfl h (fun r_3 h => ?_)
      refine z_istore_n C [(0, .ref (a0 99)), (1, .ref (a1 99)), (2, .ref (a2 99)), (3, .int r_3.1), (4, .int a.2.1)] dX2_drawStraightened_30 rfl (Nat.le_of_ble_eq_true rfl) [1, 2, 3, 0, 4] rfl 31 rfl ?_
      refine z_iinc C (a.2.1 + 1) [(0, .ref (a0 99)), (1, .ref (a1 99)), (2, .ref (a2 99)), (3, .int r_3.1), (4, .int (a.2.1 + 1))] dX2_drawStraightened_31 4 rfl rfl (Nat.le_of_ble_eq_true rfl) [1, 2, 3, 4, 0] rfl 34 rfl ?_
      refine z_goto C 13 dX2_drawStraightened_34 (by decide) ?_
      exact z_locals (ks := [0, 1, 2, 3, 4]) rfl (hrec _ _ _ _ h K)

def f_X2_drawStraightened_J37 (S0 : Nat → Nat → Int32) (S1 : Nat → Nat → Int32) (S2 : Nat → Nat → Int32)   : Option ((Nat → Nat → Int32)) := (f_X5_finish S2 S0 (S1 1 0)).bind fun r_5 => some r_5
set_option maxHeartbeats 4000000 in
set_option maxRecDepth 100000 in
theorem p_X2_drawStraightened_J37 {w0 : va_W} (C : zC p R s m args meth c cX2_drawStraightened 5 RX2 wsX2_drawStraightened D T 4 97 0 0) (hr : meth.sig.returnType = none) (S0 : Nat → Nat → Int32) (S1 : Nat → Nat → Int32) (S2 : Nat → Nat → Int32)   (hD : va_D (zA w0) (wX1 T a0 S0 ++ (wX5 T a1 S1 ++ wX5 T a2 S2))) {ex : (Nat → Nat → Int32)} (h : f_X2_drawStraightened_J37 S0 S1 S2 = some ex) : zt p l e R s m args below meth c 5 (zA w0) D 0 0 (MQ below (zQV D w0 (wX1 T a0 S0 ++ (wX5 T a1 S1 ++ wX5 T a2 ex))) args s 0 0 (zA w0)) (wX1 T a0 S0 ++ (wX5 T a1 S1 ++ wX5 T a2 S2)) [(0, .ref (a0 99)), (1, .ref (a1 99)), (2, .ref (a2 99))] 37 [] := by
  unfold f_X2_drawStraightened_J37 at h
  refine z_aload_n C dX2_drawStraightened_37 rfl 2 rfl 38 rfl ?_
  refine z_aload_n C dX2_drawStraightened_38 rfl 0 rfl 39 rfl ?_
  refine z_aload_n C dX2_drawStraightened_39 rfl 1 rfl 40 rfl ?_
  refine z_get C (in_X2_drawStraightened_X5) 5 rfl rfl 1 (by decide) (List.mem_of_getElem? (i := 1) rfl) rfl rfl dX2_drawStraightened_40 43 rfl ?_
  refine z_callV C (wX5 T a2 S2 ++ wX1 T a0 S0) (wX5 T a1 S1) (fun z => wX5 T a2 z ++ wX1 T a0 S0) (fun z => wX1 T a0 S0 ++ (wX5 T a1 S1 ++ wX5 T a2 z)) (fun z h => c_X5_finish l D T a2 a0  S2 S0 (S1 1 0) z h) ⟨rfl, rfl⟩ (z_cwV C 2 gX2_drawStraightened_X5_finish rfl rfl dd_X5_finish ⟨(Nat.le_of_ble_eq_true rfl), (Nat.le_of_ble_eq_true rfl)⟩) (hD.zaddr rfl) [8, 9, 10, 0, 1, 2, 3, 4] [5, 6, 7] [6, 7, 8, 9, 10, 0, 1, 2, 3, 4, 5] rfl rfl rfl (by decide) (fun _ => rfl) (fun _ => ⟨a2 99, [.ref (a0 99), .int (S1 1 0)], 4, 0, _, _, rfl, rfl, rfl, rfl, rfl⟩) (fun h => absurd rfl h) rfl (Nat.le_of_ble_eq_true rfl) dX2_drawStraightened_43 46 rfl h (fun r_5 h => ?_)
  exact z_vretW (x := r_5) (ex := ex) (fun z => wX1 T a0 S0 ++ (wX5 T a1 S1 ++ wX5 T a2 z)) C hr dX2_drawStraightened_46 h rfl

def f_X2_drawStraightened (S0 : Nat → Nat → Int32) (S1 : Nat → Nat → Int32) (S2 : Nat → Nat → Int32)  : Option ((Nat → Nat → Int32)) := (f_X5_copyFrom S2 S1).bind fun r_1 => zlet (S1 1 0) fun u_2 => (f_X2_drawStraightened_L13 S0 S1 zfuel (u_2, 0, r_1)).bind fun y_4 => f_X2_drawStraightened_J37 S0 S1 y_4
theorem dd_X2_drawStraightened : RX2 ≠ "java/lang/invoke/MethodHandle" ∧ RX2 ≠ "java/lang/invoke/VarHandle" ∧ (parseMethodDescriptor yX2_drawStraightened.desc).map (fun d => d.parameters.length) = some 3 := by decide +kernel
set_option maxHeartbeats 4000000 in
set_option maxRecDepth 100000 in
theorem c_X2_drawStraightened (l : Launch) (D : va_G) (T : Nat → ClassId) (a0 : Nat → Nat) (a1 : Nat → Nat) (a2 : Nat → Nat) (S0 : Nat → Nat → Int32) (S1 : Nat → Nat → Int32) (S2 : Nat → Nat → Int32)  (ex : (Nat → Nat → Int32)) (h : f_X2_drawStraightened S0 S1 S2 = some ex) : zWV l yX2_drawStraightened wsX2_drawStraightened ({ frames := 4, cells := 0, slots := 0, locals := 97 } : Room) D T [.ref (a0 99), .ref (a1 99), .ref (a2 99)] (wX1 T a0 S0 ++ (wX5 T a1 S1 ++ wX5 T a2 S2)) (wX1 T a0 S0 ++ (wX5 T a1 S1 ++ wX5 T a2 ex)) := by
  refine z_begin (cc := cX2_drawStraightened) (nL := 5) (own := RX2) (fr := 4) (lc := 97) (ret := none) (by decide) rfl (Nat.le_of_ble_eq_true rfl) (zA (wX1 T a0 S0 ++ (wX5 T a1 S1 ++ wX5 T a2 S2))) rfl [(0, .ref (a0 99)), (1, .ref (a1 99)), (2, .ref (a2 99))] rfl ⟨rfl, rfl⟩ rfl ?_
  intro p e s m args below meth c C hr hD
  have hD := hD.zself
  unfold f_X2_drawStraightened at h
  refine z_aload_n C dX2_drawStraightened_0 rfl 2 rfl 1 rfl ?_
  refine z_aload_n C dX2_drawStraightened_1 rfl 1 rfl 2 rfl ?_
  refine z_callV C (wX5 T a2 S2 ++ wX5 T a1 S1) (wX1 T a0 S0) (fun z => wX5 T a2 z ++ wX5 T a1 S1) (fun z => wX1 T a0 S0 ++ (wX5 T a1 S1 ++ wX5 T a2 z)) (fun z h => c_X5_copyFrom l D T a2 a1  S2 S1  z h) ⟨rfl, rfl⟩ (z_cwV C 1 gX2_drawStraightened_X5_copyFrom rfl rfl dd_X5_copyFrom ⟨(Nat.le_of_ble_eq_true rfl), (Nat.le_of_ble_eq_true rfl)⟩) (hD.zaddr rfl) [8, 9, 10, 5, 6, 7] [0, 1, 2, 3, 4] [0, 1, 2, 3, 4, 8, 9, 10, 5, 6, 7] rfl rfl rfl (by decide) (fun _ => rfl) (fun _ => ⟨a2 99, [.ref (a1 99)], 4, 0, _, _, rfl, rfl, rfl, rfl, rfl⟩) (fun h => absurd rfl h) rfl (Nat.le_of_ble_eq_true rfl) dX2_drawStraightened_2 5 rfl h (fun r_1 h => ?_)
  refine z_aload_n C dX2_drawStraightened_5 rfl 1 rfl 6 rfl ?_
  refine z_get C (in_X2_drawStraightened_X5) 5 rfl rfl 1 (by decide) (List.mem_of_getElem? (i := 1) rfl) rfl rfl dX2_drawStraightened_6 9 rfl ?_
  refine z_top h (fun u_2 h => ?_)
  refine z_istore_n C [(0, .ref (a0 99)), (1, .ref (a1 99)), (2, .ref (a2 99)), (3, .int u_2)] dX2_drawStraightened_9 rfl (Nat.le_of_ble_eq_true rfl) [1, 2, 3, 0] rfl 10 rfl ?_
  refine z_iconst C 0 dX2_drawStraightened_10 (by decide) 11 rfl ?_
  refine z_istore C [(0, .ref (a0 99)), (1, .ref (a1 99)), (2, .ref (a2 99)), (3, .int u_2), (4, .int 0)] dX2_drawStraightened_11 (Nat.le_of_ble_eq_true rfl) [1, 2, 3, 4, 0] rfl 13 rfl ?_
  obtain ⟨y_4, hl_y_4, h⟩ := Option.bind_eq_some_iff.mp h
  refine z_locals (ks := [0, 1, 2, 3, 4]) rfl (p_X2_drawStraightened_L13 C S0 S1 r_1  (hD.zaddr rfl) _ _ _ _ _ hl_y_4 ?_)
  exact z_locals (ks := [0, 1, 2]) rfl (p_X2_drawStraightened_J37 C hr S0 S1 y_4 (hD.zaddr rfl) h)

end
