/-! StreamTreeModel.turnAt (II)I -/
section
variable {p : Program} {l : Launch} {e : Env} {R : Room} {s : State} {m : MethodId} {args : Array Value} {below : List Frame} {meth : Method} {c : Code} {Q : State → Prop} {A : Nat → Prop} {D : va_G} {T : Nat → ClassId} {a0 : Nat → Nat}
theorem in_X7_turnAt_X7 : ∀ w ∈ u_ws RX7 TX7 35, w ∈ wsX7_turnAt := fun _ h => (List.mem_cons_of_mem _ (List.mem_append_right _ h))
def f_X7_turnAt_L15b (S0 : Nat → Nat → Int32) (v2 : Int32) (rec : (Int32 × Int32) → Option (Int32)) (a : Int32 × Int32) : Option (Int32) := if a.2 ≤ v2 then (some a.1) else ((f_X7_cell a.2 a.1).bind fun r_3 => zix r_3 240 fun _ => (f_X7_targetTurn S0 a.2 a.1 (S0 26 (Int32.toNatClampNeg r_3))).bind fun r_4 => rec (r_4, (a.2 + (-1))))
def f_X7_turnAt_L15 (S0 : Nat → Nat → Int32) (v2 : Int32) : Nat → (Int32 × Int32) → Option (Int32) := zloop (fun rec a => f_X7_turnAt_L15b S0 v2 rec a)
set_option maxHeartbeats 4000000 in
set_option maxRecDepth 100000 in
theorem p_X7_turnAt_L15 (C : zC p R s m args meth c cX7_turnAt 5 RX7 wsX7_turnAt D T 2 44 0 0) (S0 : Nat → Nat → Int32) (v2 : Int32) (hD : va_D (fun _ => True) (wX7 T a0 S0)) : ∀ (n : Nat) (c0 : Int32) (c1 : Int32) (b : Int32), f_X7_turnAt_L15 S0 v2 n (c0, c1) = some b → (zt p l e R s m args below meth c 5 A D 0 0 Q (wX7 T a0 S0) [(3, .int b)] 46 []) → zt p l e R s m args below meth c 5 A D 0 0 Q (wX7 T a0 S0) [(0, .ref (a0 99)), (2, .int v2), (3, .int c0), (4, .int c1)] 15 [] := by
  intro n c0 c1 b h K
  refine zloop_ind (P := fun a b => (zt p l e R s m args below meth c 5 A D 0 0 Q (wX7 T a0 S0) [(3, .int b)] 46 []) → zt p l e R s m args below meth c 5 A D 0 0 Q (wX7 T a0 S0) [(0, .ref (a0 99)), (2, .int v2), (3, .int a.1), (4, .int a.2)] 15 []) ?_ n (c0, c1) b h K
  clear h K b c0 c1
  intro rec hrec a b h K
  have hrec : ∀ (c0 : Int32) (c1 : Int32) (b : Int32), rec (c0, c1) = some b → (zt p l e R s m args below meth c 5 A D 0 0 Q (wX7 T a0 S0) [(3, .int b)] 46 []) → zt p l e R s m args below meth c 5 A D 0 0 Q (wX7 T a0 S0) [(0, .ref (a0 99)), (2, .int v2), (3, .int c0), (4, .int c1)] 15 [] := fun c0 c1 b h K => hrec (c0, c1) b h K
  unfold f_X7_turnAt_L15b at h
  refine z_iload C dX7_turnAt_15 3 rfl 17 rfl ?_
  refine z_iload_n C dX7_turnAt_17 rfl 1 rfl 18 rfl ?_
  refine z_icmp_le C 46 dX7_turnAt_18 (by decide) 21 rfl h (fun h => ?_) (fun h => ?_)
  · refine z_locals (ks := [2]) (lv' := [(3, .int a.1)]) rfl ?_
    exact zex1 (F := (fun e0 => zt p l e R s m args below meth c 5 A D 0 0 Q (wX7 T a0 S0) [(3, .int e0)] 46 [])) h K
  · refine z_aload_n C dX7_turnAt_21 rfl 0 rfl 22 rfl ?_
    refine z_iload C dX7_turnAt_22 3 rfl 24 rfl ?_
    refine z_iload_n C dX7_turnAt_24 rfl 2 rfl 25 rfl ?_
    refine z_aload_n C dX7_turnAt_25 rfl 0 rfl 26 rfl ?_
    refine z_get C (in_X7_turnAt_X7) 0 rfl rfl 26 (by decide) (List.mem_of_getElem? (i := 3) rfl) rfl rfl dX7_turnAt_26 29 rfl ?_
    refine z_iload C dX7_turnAt_29 3 rfl 31 rfl ?_
    refine z_iload_n C dX7_turnAt_31 rfl 2 rfl 32 rfl ?_
    refine z_callR C ([]) (fun v h => c_X7_cell l D T    a.2 a.1 v h) ⟨rfl, rfl⟩ (z_cwS C 2 gX7_turnAt_X7_cell rfl dd_X7_cell ⟨(Nat.le_of_ble_eq_true rfl), (Nat.le_of_ble_eq_true rfl)⟩) (hD.zaddr rfl) [] rfl rfl (fun h => absurd h (by decide)) (fun _ => rfl) rfl (Nat.le_of_ble_eq_true rfl) dX7_turnAt_32 35 rfl h (fun r_3 h => ?_)
    refine z_iald C 9 rfl rfl dX7_turnAt_35 36 rfl h (fun h => ?_)
    refine z_callR C (wX7 T a0 S0) (fun v h => c_X7_targetTurn l D T a0  S0 a.2 a.1 (S0 26 (Int32.toNatClampNeg r_3)) v h) ⟨rfl, rfl⟩ (z_cwV C 3 gX7_turnAt_X7_targetTurn rfl rfl dd_X7_targetTurn ⟨(Nat.le_of_ble_eq_true rfl), (Nat.le_of_ble_eq_true rfl)⟩) (hD.zaddr rfl) [0, 1, 2, 3, 4, 5, 6, 7, 8, 9, 10, 11, 12, 13, 14, 15, 16, 17] rfl rfl (fun _ => ⟨a0 99, [.int a.2, .int a.1, .int (S0 26 (Int32.toNatClampNeg r_3))], 6, 0, _, _, rfl, rfl, rfl, rfl, rfl⟩) (fun h => absurd rfl h) rfl (Nat.le_of_ble_eq_true rfl) dX7_turnAt_36 39 rfl h (fun r_4 h => ?_)
    refine z_istore_n C [(0, .ref (a0 99)), (2, .int v2), (3, .int r_4), (4, .int a.2)] dX7_turnAt_39 rfl (Nat.le_of_ble_eq_true rfl) [1, 2, 0, 3] rfl 40 rfl ?_
    refine z_iinc C (a.2 + (-1)) [(0, .ref (a0 99)), (2, .int v2), (3, .int r_4), (4, .int (a.2 + (-1)))] dX7_turnAt_40 3 rfl rfl (Nat.le_of_ble_eq_true rfl) [1, 2, 3, 0] rfl 43 rfl ?_
    refine z_goto C 15 dX7_turnAt_43 (by decide) ?_
    exact z_locals (ks := [0, 1, 2, 3]) rfl (hrec _ _ _ h K)

def f_X7_turnAt (S0 : Nat → Nat → Int32) (v1 : Int32) (v2 : Int32) : Option (Int32) := zix v1 8 fun _ => zlet (S0 7 (Int32.toNatClampNeg v1)) fun u_1 => zix v1 8 fun _ => zlet (S0 6 (Int32.toNatClampNeg v1)) fun u_2 => (f_X7_turnAt_L15 S0 v2 zfuel (u_1, u_2)).bind fun y_5 => some y_5
theorem dd_X7_turnAt : RX7 ≠ "java/lang/invoke/MethodHandle" ∧ RX7 ≠ "java/lang/invoke/VarHandle" ∧ (parseMethodDescriptor yX7_turnAt.desc).map (fun d => d.parameters.length) = some 2 := by decide +kernel
set_option maxHeartbeats 4000000 in
set_option maxRecDepth 100000 in
theorem c_X7_turnAt (l : Launch) (D : va_G) (T : Nat → ClassId) (a0 : Nat → Nat) (S0 : Nat → Nat → Int32) (v1 : Int32) (v2 : Int32) (ex : Int32) (h : f_X7_turnAt S0 v1 v2 = some ex) : zRI l yX7_turnAt wsX7_turnAt ({ frames := 2, cells := 0, slots := 0, locals := 44 } : Room) D T [.ref (a0 99), .int v1, .int v2] (wX7 T a0 S0) ex := by
  refine z_begin (cc := cX7_turnAt) (nL := 5) (own := RX7) (fr := 2) (lc := 44) (ret := some .int) (by decide) rfl (Nat.le_of_ble_eq_true rfl) (fun _ => False) rfl [(0, .ref (a0 99)), (1, .int v1), (2, .int v2)] rfl ⟨rfl, rfl⟩ rfl ?_
  intro p e s m args below meth c C hr hD
  unfold f_X7_turnAt at h
  refine z_aload_n C dX7_turnAt_0 rfl 0 rfl 1 rfl ?_
  refine z_get C (in_X7_turnAt_X7) 0 rfl rfl 7 (by decide) (List.mem_of_getElem? (i := 1) rfl) rfl rfl dX7_turnAt_1 4 rfl ?_
  refine z_iload_n C dX7_turnAt_4 rfl 1 rfl 5 rfl ?_
  refine z_iald C 2 rfl rfl dX7_turnAt_5 6 rfl h (fun h => ?_)
  refine z_top h (fun u_1 h => ?_)
  refine z_istore_n C [(0, .ref (a0 99)), (1, .int v1), (2, .int v2), (3, .int u_1)] dX7_turnAt_6 rfl (Nat.le_of_ble_eq_true rfl) [1, 2, 3, 0] rfl 7 rfl ?_
  refine z_aload_n C dX7_turnAt_7 rfl 0 rfl 8 rfl ?_
  refine z_get C (in_X7_turnAt_X7) 0 rfl rfl 6 (by decide) (List.mem_of_getElem? (i := 2) rfl) rfl rfl dX7_turnAt_8 11 rfl ?_
  refine z_iload_n C dX7_turnAt_11 rfl 1 rfl 12 rfl ?_
  refine z_iald C 1 rfl rfl dX7_turnAt_12 13 rfl h (fun h => ?_)
  refine z_top h (fun u_2 h => ?_)
  refine z_istore C [(0, .ref (a0 99)), (1, .int v1), (2, .int v2), (3, .int u_1), (4, .int u_2)] dX7_turnAt_13 (Nat.le_of_ble_eq_true rfl) [1, 2, 3, 4, 0] rfl 15 rfl ?_
  obtain ⟨y_5, hl_y_5, h⟩ := Option.bind_eq_some_iff.mp h
  refine z_locals (ks := [0, 2, 3, 4]) rfl (p_X7_turnAt_L15 C S0 v2 (hD.zaddr rfl) _ _ _ _ hl_y_5 ?_)
  refine z_iload_n C dX7_turnAt_46 rfl 0 rfl 47 rfl ?_
  exact z_iretR C hr dX7_turnAt_47 h

end
/-! StreamTreeModel.costs (I)I -/
section
variable {p : Program} {l : Launch} {e : Env} {R : Room} {s : State} {m : MethodId} {args : Array Value} {below : List Frame} {meth : Method} {c : Code} {Q : State → Prop} {A : Nat → Prop} {D : va_G} {T : Nat → ClassId} {a0 : Nat → Nat}
theorem in_X7_costs_X7 : ∀ w ∈ u_ws RX7 TX7 35, w ∈ wsX7_costs := fun _ h => (List.mem_cons_of_mem _ (List.mem_append_right _ h))
def f_X7_costs (S0 : Nat → Nat → Int32) (v1 : Int32) : Option (Int32 × (Nat → Nat → Int32)) := zlet (zst S0 0 0 0) fun S0_1 => (f_X7_within v1 0 ((S0_1 9 0) - 1)).bind fun r_2 => if r_2 = 0 then (some ((-1), S0_1)) else ((f_X7_leastInk S0_1).bind fun r_3 => zix v1 8 fun _ => zlet (r_3.2 6 (Int32.toNatClampNeg v1)) fun u_4 => zix v1 8 fun _ => zlet (r_3.2 7 (Int32.toNatClampNeg v1)) fun u_5 => zix v1 8 fun _ => zlet (r_3.2 8 (Int32.toNatClampNeg v1)) fun u_6 => (f_X7_goes r_3.2 v1).bind fun r_7 => (f_X7_leastInk r_7).bind fun r_8 => (f_X7_adds r_8.2 u_4 u_5 u_6).bind fun r_9 => if r_3.1 = (-2) then (some ((-2), r_9)) else (if r_8.1 = (-2) then (some ((-2), r_9)) else (some ((r_3.1 - r_8.1), r_9))))
theorem dd_X7_costs : RX7 ≠ "java/lang/invoke/MethodHandle" ∧ RX7 ≠ "java/lang/invoke/VarHandle" ∧ (parseMethodDescriptor yX7_costs.desc).map (fun d => d.parameters.length) = some 1 := by decide +kernel
set_option maxHeartbeats 4000000 in
set_option maxRecDepth 100000 in
theorem c_X7_costs (l : Launch) (D : va_G) (T : Nat → ClassId) (a0 : Nat → Nat) (S0 : Nat → Nat → Int32) (v1 : Int32) (ex : Int32 × (Nat → Nat → Int32)) (h : f_X7_costs S0 v1 = some ex) : zWI l yX7_costs wsX7_costs ({ frames := 5, cells := 0, slots := 0, locals := 122 } : Room) D T [.ref (a0 99), .int v1] (wX7 T a0 S0) ex.1 (wX7 T a0 ex.2) := by
  refine z_begin (cc := cX7_costs) (nL := 7) (own := RX7) (fr := 5) (lc := 122) (ret := some .int) (by decide) rfl (Nat.le_of_ble_eq_true rfl) (zA (wX7 T a0 S0)) rfl [(0, .ref (a0 99)), (1, .int v1)] rfl ⟨rfl, rfl⟩ rfl ?_
  intro p e s m args below meth c C hr hD
  have hD := hD.zself
  unfold f_X7_costs at h
  refine z_aload_n C dX7_costs_0 rfl 0 rfl 1 rfl ?_
  refine z_iconst C 0 dX7_costs_1 (by decide) 2 rfl ?_
  refine z_put (ty := .int) C (fun z => wX7 T a0 z) S0 (hD.zaddr rfl) (in_X7_costs_X7) tyX7 tyX7_ok nmX7 0 rfl rfl 0 (by decide) (List.mem_of_getElem? (i := 1) rfl) rfl rfl (by decide +kernel) rfl rfl (Nat.le_of_ble_eq_true rfl) rfl dX7_costs_2 5 rfl h (fun S0_1 h => ?_)
  refine z_iload_n C dX7_costs_5 rfl 1 rfl 6 rfl ?_
  refine z_iconst C 0 dX7_costs_6 (by decide) 7 rfl ?_
  refine z_aload_n C dX7_costs_7 rfl 0 rfl 8 rfl ?_
  refine z_get C (in_X7_costs_X7) 0 rfl rfl 9 (by decide) (List.mem_of_getElem? (i := 2) rfl) rfl rfl dX7_costs_8 11 rfl ?_
  refine z_iconst C 1 dX7_costs_11 (by decide) 12 rfl ?_
  refine z_isub C dX7_costs_12 13 rfl ?_
  refine z_callR C ([]) (fun v h => c_X7_within l D T    v1 0 ((S0_1 9 0) - 1) v h) ⟨rfl, rfl⟩ (z_cwS C 3 gX7_costs_X7_within rfl dd_X7_within ⟨(Nat.le_of_ble_eq_true rfl), (Nat.le_of_ble_eq_true rfl)⟩) (hD.zaddr rfl) [] rfl rfl (fun h => absurd h (by decide)) (fun _ => rfl) rfl (Nat.le_of_ble_eq_true rfl) dX7_costs_13 16 rfl h (fun r_2 h => ?_)
  refine z_if_ne C 21 dX7_costs_16 (by decide) 19 rfl h (fun h => ?_) (fun h => ?_)
  · refine z_aload_n C dX7_costs_21 rfl 0 rfl 22 rfl ?_
    refine z_callW C (wX7 T a0 S0_1) (([] : va_W)) (fun z => z.1) (fun z => wX7 T a0 z.2) (fun z => wX7 T a0 z.2) (fun z h => c_X7_leastInk l D T a0  S0_1  z h) ⟨rfl, rfl⟩ (z_cwV C 0 gX7_costs_X7_leastInk rfl rfl dd_X7_leastInk ⟨(Nat.le_of_ble_eq_true rfl), (Nat.le_of_ble_eq_true rfl)⟩) (hD.zaddr rfl) [0, 1, 2, 3, 4, 5, 6, 7, 8, 9, 10, 11, 12, 13, 14, 15, 16, 17] [] [0, 1, 2, 3, 4, 5, 6, 7, 8, 9, 10, 11, 12, 13, 14, 15, 16, 17] rfl rfl rfl (by decide) (fun _ => rfl) (fun _ => ⟨a0 99, [], 6, 0, _, _, rfl, rfl, rfl, rfl, rfl⟩) (fun h => absurd rfl h) rfl (Nat.le_of_ble_eq_true rfl) dX7_costs_22 25 rfl h (fun r_3 h => ?_)
    refine z_istore_n C [(0, .ref (a0 99)), (1, .int v1), (2, .int r_3.1)] dX7_costs_25 rfl (Nat.le_of_ble_eq_true rfl) [1, 2, 0] rfl 26 rfl ?_
    refine z_aload_n C dX7_costs_26 rfl 0 rfl 27 rfl ?_
    refine z_get C (in_X7_costs_X7) 0 rfl rfl 6 (by decide) (List.mem_of_getElem? (i := 3) rfl) rfl rfl dX7_costs_27 30 rfl ?_
    refine z_iload_n C dX7_costs_30 rfl 1 rfl 31 rfl ?_
    refine z_iald C 1 rfl rfl dX7_costs_31 32 rfl h (fun h => ?_)
    refine z_top h (fun u_4 h => ?_)
    refine z_istore_n C [(0, .ref (a0 99)), (1, .int v1), (2, .int r_3.1), (3, .int u_4)] dX7_costs_32 rfl (Nat.le_of_ble_eq_true rfl) [1, 2, 3, 0] rfl 33 rfl ?_
    refine z_aload_n C dX7_costs_33 rfl 0 rfl 34 rfl ?_
    refine z_get C (in_X7_costs_X7) 0 rfl rfl 7 (by decide) (List.mem_of_getElem? (i := 4) rfl) rfl rfl dX7_costs_34 37 rfl ?_
    refine z_iload_n C dX7_costs_37 rfl 1 rfl 38 rfl ?_
    refine z_iald C 2 rfl rfl dX7_costs_38 39 rfl h (fun h => ?_)
    refine z_top h (fun u_5 h => ?_)
    refine z_istore C [(0, .ref (a0 99)), (1, .int v1), (2, .int r_3.1), (3, .int u_4), (4, .int u_5)] dX7_costs_39 (Nat.le_of_ble_eq_true rfl) [1, 2, 3, 4, 0] rfl 41 rfl ?_
    refine z_aload_n C dX7_costs_41 rfl 0 rfl 42 rfl ?_
    refine z_get C (in_X7_costs_X7) 0 rfl rfl 8 (by decide) (List.mem_of_getElem? (i := 5) rfl) rfl rfl dX7_costs_42 45 rfl ?_
    refine z_iload_n C dX7_costs_45 rfl 1 rfl 46 rfl ?_
    refine z_iald C 3 rfl rfl dX7_costs_46 47 rfl h (fun h => ?_)
    refine z_top h (fun u_6 h => ?_)
    refine z_istore C [(0, .ref (a0 99)), (1, .int v1), (2, .int r_3.1), (3, .int u_4), (4, .int u_5), (5, .int u_6)] dX7_costs_47 (Nat.le_of_ble_eq_true rfl) [1, 2, 3, 4, 5, 0] rfl 49 rfl ?_
    refine z_aload_n C dX7_costs_49 rfl 0 rfl 50 rfl ?_
    refine z_iload_n C dX7_costs_50 rfl 1 rfl 51 rfl ?_
    refine z_callV C (wX7 T a0 r_3.2) (([] : va_W)) (fun z => wX7 T a0 z) (fun z => wX7 T a0 z) (fun z h => c_X7_goes l D T a0  r_3.2 v1 z h) ⟨rfl, rfl⟩ (z_cwV C 1 gX7_costs_X7_goes rfl rfl dd_X7_goes ⟨(Nat.le_of_ble_eq_true rfl), (Nat.le_of_ble_eq_true rfl)⟩) (hD.zaddr rfl) [0, 1, 2, 3, 4, 5, 6, 7, 8, 9, 10, 11, 12, 13, 14, 15, 16, 17] [] [0, 1, 2, 3, 4, 5, 6, 7, 8, 9, 10, 11, 12, 13, 14, 15, 16, 17] rfl rfl rfl (by decide) (fun _ => rfl) (fun _ => ⟨a0 99, [.int v1], 6, 0, _, _, rfl, rfl, rfl, rfl, rfl⟩) (fun h => absurd rfl h) rfl (Nat.le_of_ble_eq_true rfl) dX7_costs_51 54 rfl h (fun r_7 h => ?_)
    refine z_aload_n C dX7_costs_54 rfl 0 rfl 55 rfl ?_
    refine z_callW C (wX7 T a0 r_7) (([] : va_W)) (fun z => z.1) (fun z => wX7 T a0 z.2) (fun z => wX7 T a0 z.2) (fun z h => c_X7_leastInk l D T a0  r_7  z h) ⟨rfl, rfl⟩ (z_cwV C 0 gX7_costs_X7_leastInk rfl rfl dd_X7_leastInk ⟨(Nat.le_of_ble_eq_true rfl), (Nat.le_of_ble_eq_true rfl)⟩) (hD.zaddr rfl) [0, 1, 2, 3, 4, 5, 6, 7, 8, 9, 10, 11, 12, 13, 14, 15, 16, 17] [] [0, 1, 2, 3, 4, 5, 6, 7, 8, 9, 10, 11, 12, 13, 14, 15, 16, 17] rfl rfl rfl (by decide) (fun _ => rfl) (fun _ => ⟨a0 99, [], 6, 0, _, _, rfl, rfl, rfl, rfl, rfl⟩) (fun h => absurd rfl h) rfl (Nat.le_of_ble_eq_true rfl) dX7_costs_55 58 rfl h (fun r_8 h => ?_)
    refine z_istore C [(0, .ref (a0 99)), (1, .int v1), (2, .int r_3.1), (3, .int u_4), (4, .int u_5), (5, .int u_6), (6, .int r_8.1)] dX7_costs_58 (Nat.le_of_ble_eq_true rfl) [1, 2, 3, 4, 5, 6, 0] rfl 60 rfl ?_
    refine z_aload_n C dX7_costs_60 rfl 0 rfl 61 rfl ?_
    refine z_iload_n C dX7_costs_61 rfl 3 rfl 62 rfl ?_
    refine z_iload C dX7_costs_62 4 rfl 64 rfl ?_
    refine z_iload C dX7_costs_64 5 rfl 66 rfl ?_
    refine z_callV C (wX7 T a0 r_8.2) (([] : va_W)) (fun z => wX7 T a0 z) (fun z => wX7 T a0 z) (fun z h => c_X7_adds l D T a0  r_8.2 u_4 u_5 u_6 z h) ⟨rfl, rfl⟩ (z_cwV C 3 gX7_costs_X7_adds rfl rfl dd_X7_adds ⟨(Nat.le_of_ble_eq_true rfl), (Nat.le_of_ble_eq_true rfl)⟩) (hD.zaddr rfl) [0, 1, 2, 3, 4, 5, 6, 7, 8, 9, 10, 11, 12, 13, 14, 15, 16, 17] [] [0, 1, 2, 3, 4, 5, 6, 7, 8, 9, 10, 11, 12, 13, 14, 15, 16, 17] rfl rfl rfl (by decide) (fun _ => rfl) (fun _ => ⟨a0 99, [.int u_4, .int u_5, .int u_6], 6, 0, _, _, rfl, rfl, rfl, rfl, rfl⟩) (fun h => absurd rfl h) rfl (Nat.le_of_ble_eq_true rfl) dX7_costs_66 69 rfl h (fun r_9 h => ?_)
    refine z_iload_n C dX7_costs_69 rfl 2 rfl 70 rfl ?_
    refine z_bipush C (-2) dX7_costs_70 (by decide) 72 rfl ?_
    refine z_icmp_eq C 82 dX7_costs_72 (by decide) 75 rfl h (fun h => ?_) (fun h => ?_)
    · refine z_bipush C (-2) dX7_costs_82 (by decide) 84 rfl ?_
      refine z_goto C 91 dX7_costs_84 (by decide) ?_
      exact z_iretW (x := r_9) (ex := ex) (fun z => wX7 T a0 z) C hr dX7_costs_91 h rfl
    · refine z_iload C dX7_costs_75 6 rfl 77 rfl ?_
      refine z_bipush C (-2) dX7_costs_77 (by decide) 79 rfl ?_
      refine z_icmp_ne C 87 dX7_costs_79 (by decide) 82 rfl h (fun h => ?_) (fun h => ?_)
      · refine z_iload_n C dX7_costs_87 rfl 2 rfl 88 rfl ?_
        refine z_iload C dX7_costs_88 6 rfl 90 rfl ?_
        refine z_isub C dX7_costs_90 91 rfl ?_
        exact z_iretW (x := r_9) (ex := ex) (fun z => wX7 T a0 z) C hr dX7_costs_91 h rfl
      · refine z_bipush C (-2) dX7_costs_82 (by decide) 84 rfl ?_
        refine z_goto C 91 dX7_costs_84 (by decide) ?_
        exact z_iretW (x := r_9) (ex := ex) (fun z => wX7 T a0 z) C hr dX7_costs_91 h rfl
  · refine z_iconst C (-1) dX7_costs_19 (by decide) 20 rfl ?_
    exact z_iretW (x := S0_1) (ex := ex) (fun z => wX7 T a0 z) C hr dX7_costs_20 h rfl

end
/-! StreamTreeModel.bars (II)I -/
section
variable {p : Program} {l : Launch} {e : Env} {R : Room} {s : State} {m : MethodId} {args : Array Value} {below : List Frame} {meth : Method} {c : Code} {Q : State → Prop} {A : Nat → Prop} {D : va_G} {T : Nat → ClassId} {a0 : Nat → Nat}
theorem in_X7_bars_X7 : ∀ w ∈ u_ws RX7 TX7 35, w ∈ wsX7_bars := fun _ h => (List.mem_cons_of_mem _ (List.mem_append_right _ h))
def f_X7_bars (S0 : Nat → Nat → Int32) (v1 : Int32) (v2 : Int32) : Option (Int32 × (Nat → Nat → Int32)) := zlet (zst S0 0 0 0) fun S0_1 => (f_X7_isCell S0_1 v1 v2).bind fun r_2 => if r_2 = 0 then (some ((-1), S0_1)) else ((f_X7_cell v1 v2).bind fun r_3 => zix r_3 240 fun _ => if (S0_1 10 (Int32.toNatClampNeg r_3)) = 0 then (some ((-1), S0_1)) else ((f_X7_leastInk S0_1).bind fun r_4 => if r_4.1 = (-2) then (some ((-2), r_4.2)) else ((f_X7_cell v1 v2).bind fun r_5 => zix r_5 240 fun j => zlet (zst r_4.2 10 j 0) fun S0_6 => (f_X7_leastInk S0_6).bind fun r_7 => (f_X7_cell v1 v2).bind fun r_8 => zix r_8 240 fun j => zlet (zst r_7.2 10 j 1) fun S0_9 => some ((r_4.1 - r_7.1), S0_9))))
theorem dd_X7_bars : RX7 ≠ "java/lang/invoke/MethodHandle" ∧ RX7 ≠ "java/lang/invoke/VarHandle" ∧ (parseMethodDescriptor yX7_bars.desc).map (fun d => d.parameters.length) = some 2 := by decide +kernel
set_option maxHeartbeats 4000000 in
set_option maxRecDepth 100000 in
theorem c_X7_bars (l : Launch) (D : va_G) (T : Nat → ClassId) (a0 : Nat → Nat) (S0 : Nat → Nat → Int32) (v1 : Int32) (v2 : Int32) (ex : Int32 × (Nat → Nat → Int32)) (h : f_X7_bars S0 v1 v2 = some ex) : zWI l yX7_bars wsX7_bars ({ frames := 5, cells := 0, slots := 0, locals := 122 } : Room) D T [.ref (a0 99), .int v1, .int v2] (wX7 T a0 S0) ex.1 (wX7 T a0 ex.2) := by
  refine z_begin (cc := cX7_bars) (nL := 5) (own := RX7) (fr := 5) (lc := 122) (ret := some .int) (by decide) rfl (Nat.le_of_ble_eq_true rfl) (zA (wX7 T a0 S0)) rfl [(0, .ref (a0 99)), (1, .int v1), (2, .int v2)] rfl ⟨rfl, rfl⟩ rfl ?_
  intro p e s m args below meth c C hr hD
  have hD := hD.zself
  unfold f_X7_bars at h
  refine z_aload_n C dX7_bars_0 rfl 0 rfl 1 rfl ?_
  refine z_iconst C 0 dX7_bars_1 (by decide) 2 rfl ?_
  refine z_put (ty := .int) C (fun z => wX7 T a0 z) S0 (hD.zaddr rfl) (in_X7_bars_X7) tyX7 tyX7_ok nmX7 0 rfl rfl 0 (by decide) (List.mem_of_getElem? (i := 1) rfl) rfl rfl (by decide +kernel) rfl rfl (Nat.le_of_ble_eq_true rfl) rfl dX7_bars_2 5 rfl h (fun S0_1 h => ?_)
  refine z_aload_n C dX7_bars_5 rfl 0 rfl 6 rfl ?_
  refine z_iload_n C dX7_bars_6 rfl 1 rfl 7 rfl ?_
  refine z_iload_n C dX7_bars_7 rfl 2 rfl 8 rfl ?_
  refine z_callR C (wX7 T a0 S0_1) (fun v h => c_X7_isCell l D T a0  S0_1 v1 v2 v h) ⟨rfl, rfl⟩ (z_cwV C 2 gX7_bars_X7_isCell rfl rfl dd_X7_isCell ⟨(Nat.le_of_ble_eq_true rfl), (Nat.le_of_ble_eq_true rfl)⟩) (hD.zaddr rfl) [0, 1, 2, 3, 4, 5, 6, 7, 8, 9, 10, 11, 12, 13, 14, 15, 16, 17] rfl rfl (fun _ => ⟨a0 99, [.int v1, .int v2], 6, 0, _, _, rfl, rfl, rfl, rfl, rfl⟩) (fun h => absurd rfl h) rfl (Nat.le_of_ble_eq_true rfl) dX7_bars_8 11 rfl h (fun r_2 h => ?_)
  refine z_if_eq C 27 dX7_bars_11 (by decide) 14 rfl h (fun h => ?_) (fun h => ?_)
  · refine z_iconst C (-1) dX7_bars_27 (by decide) 28 rfl ?_
    exact z_iretW (x := S0_1) (ex := ex) (fun z => wX7 T a0 z) C hr dX7_bars_28 h rfl
  · refine z_aload_n C dX7_bars_14 rfl 0 rfl 15 rfl ?_
    refine z_get C (in_X7_bars_X7) 0 rfl rfl 10 (by decide) (List.mem_of_getElem? (i := 2) rfl) rfl rfl dX7_bars_15 18 rfl ?_
    refine z_iload_n C dX7_bars_18 rfl 1 rfl 19 rfl ?_
    refine z_iload_n C dX7_bars_19 rfl 2 rfl 20 rfl ?_
    refine z_callR C ([]) (fun v h => c_X7_cell l D T    v1 v2 v h) ⟨rfl, rfl⟩ (z_cwS C 2 gX7_bars_X7_cell rfl dd_X7_cell ⟨(Nat.le_of_ble_eq_true rfl), (Nat.le_of_ble_eq_true rfl)⟩) (hD.zaddr rfl) [] rfl rfl (fun h => absurd h (by decide)) (fun _ => rfl) rfl (Nat.le_of_ble_eq_true rfl) dX7_bars_20 23 rfl h (fun r_3 h => ?_)
    refine z_zald C 4 rfl rfl dX7_bars_23 24 rfl h (fun h => ?_)
    refine z_if_ne C 29 dX7_bars_24 (by decide) 27 rfl h (fun h => ?_) (fun h => ?_)
    · refine z_aload_n C dX7_bars_29 rfl 0 rfl 30 rfl ?_
      refine z_callW C (wX7 T a0 S0_1) (([] : va_W)) (fun z => z.1) (fun z => wX7 T a0 z.2) (fun z => wX7 T a0 z.2) (fun z h => c_X7_leastInk l D T a0  S0_1  z h) ⟨rfl, rfl⟩ (z_cwV C 0 gX7_bars_X7_leastInk rfl rfl dd_X7_leastInk ⟨(Nat.le_of_ble_eq_true rfl), (Nat.le_of_ble_eq_true rfl)⟩) (hD.zaddr rfl) [0, 1, 2, 3, 4, 5, 6, 7, 8, 9, 10, 11, 12, 13, 14, 15, 16, 17] [] [0, 1, 2, 3, 4, 5, 6, 7, 8, 9, 10, 11, 12, 13, 14, 15, 16, 17] rfl rfl rfl (by decide) (fun _ => rfl) (fun _ => ⟨a0 99, [], 6, 0, _, _, rfl, rfl, rfl, rfl, rfl⟩) (fun h => absurd rfl h) rfl (Nat.le_of_ble_eq_true rfl) dX7_bars_30 33 rfl h (fun r_4 h => ?_)
      refine z_istore_n C [(0, .ref (a0 99)), (1, .int v1), (2, .int v2), (3, .int r_4.1)] dX7_bars_33 rfl (Nat.le_of_ble_eq_true rfl) [1, 2, 3, 0] rfl 34 rfl ?_
      refine z_iload_n C dX7_bars_34 rfl 3 rfl 35 rfl ?_
      refine z_bipush C (-2) dX7_bars_35 (by decide) 37 rfl ?_
      refine z_icmp_ne C 43 dX7_bars_37 (by decide) 40 rfl h (fun h => ?_) (fun h => ?_)
      · refine z_aload_n C dX7_bars_43 rfl 0 rfl 44 rfl ?_
        refine z_get C (in_X7_bars_X7) 0 rfl rfl 10 (by decide) (List.mem_of_getElem? (i := 2) rfl) rfl rfl dX7_bars_44 47 rfl ?_
        refine z_iload_n C dX7_bars_47 rfl 1 rfl 48 rfl ?_
        refine z_iload_n C dX7_bars_48 rfl 2 rfl 49 rfl ?_
        refine z_callR C ([]) (fun v h => c_X7_cell l D T    v1 v2 v h) ⟨rfl, rfl⟩ (z_cwS C 2 gX7_bars_X7_cell rfl dd_X7_cell ⟨(Nat.le_of_ble_eq_true rfl), (Nat.le_of_ble_eq_true rfl)⟩) (hD.zaddr rfl) [] rfl rfl (fun h => absurd h (by decide)) (fun _ => rfl) rfl (Nat.le_of_ble_eq_true rfl) dX7_bars_49 52 rfl h (fun r_5 h => ?_)
        refine z_iconst C 0 dX7_bars_52 (by decide) 53 rfl ?_
        refine z_zastc (Or.inl rfl) C (fun z => wX7 T a0 z) r_4.2 10 (hD.zaddr rfl) 4 rfl rfl (fun _ => rfl) dX7_bars_53 54 rfl h (fun S0_6 h => ?_)
        refine z_aload_n C dX7_bars_54 rfl 0 rfl 55 rfl ?_
        refine z_callW C (wX7 T a0 S0_6) (([] : va_W)) (fun z => z.1) (fun z => wX7 T a0 z.2) (fun z => wX7 T a0 z.2) (fun z h => c_X7_leastInk l D T a0  S0_6  z h) ⟨rfl, rfl⟩ (z_cwV C 0 gX7_bars_X7_leastInk rfl rfl dd_X7_leastInk ⟨(Nat.le_of_ble_eq_true rfl), (Nat.le_of_ble_eq_true rfl)⟩) (hD.zaddr rfl) [0, 1, 2, 3, 4, 5, 6, 7, 8, 9, 10, 11, 12, 13, 14, 15, 16, 17] [] [0, 1, 2, 3, 4, 5, 6, 7, 8, 9, 10, 11, 12, 13, 14, 15, 16, 17] rfl rfl rfl (by decide) (fun _ => rfl) (fun _ => ⟨a0 99, [], 6, 0, _, _, rfl, rfl, rfl, rfl, rfl⟩) (fun h => absurd rfl h) rfl (Nat.le_of_ble_eq_true rfl) dX7_bars_55 58 rfl h (fun r_7 h => ?_)
        refine z_istore C [(0, .ref (a0 99)), (1, .int v1), (2, .int v2), (3, .int r_4.1), (4, .int r_7.1)] dX7_bars_58 (Nat.le_of_ble_eq_true rfl) [1, 2, 3, 4, 0] rfl 60 rfl ?_
        refine z_aload_n C dX7_bars_60 rfl 0 rfl 61 rfl ?_
        refine z_get C (in_X7_bars_X7) 0 rfl rfl 10 (by decide) (List.mem_of_getElem? (i := 2) rfl) rfl rfl dX7_bars_61 64 rfl ?_
        refine z_iload_n C dX7_bars_64 rfl 1 rfl 65 rfl ?_
        refine z_iload_n C dX7_bars_65 rfl 2 rfl 66 rfl ?_
        refine z_callR C ([]) (fun v h => c_X7_cell l D T    v1 v2 v h) ⟨rfl, rfl⟩ (z_cwS C 2 gX7_bars_X7_cell rfl dd_X7_cell ⟨(Nat.le_of_ble_eq_true rfl), (Nat.le_of_ble_eq_true rfl)⟩) (hD.zaddr rfl) [] rfl rfl (fun h => absurd h (by decide)) (fun _ => rfl) rfl (Nat.le_of_ble_eq_true rfl) dX7_bars_66 69 rfl h (fun r_8 h => ?_)
        refine z_iconst C 1 dX7_bars_69 (by decide) 70 rfl ?_
        refine z_zastc (Or.inr rfl) C (fun z => wX7 T a0 z) r_7.2 10 (hD.zaddr rfl) 4 rfl rfl (fun _ => rfl) dX7_bars_70 71 rfl h (fun S0_9 h => ?_)
        refine z_iload_n C dX7_bars_71 rfl 3 rfl 72 rfl ?_
        refine z_iload C dX7_bars_72 4 rfl 74 rfl ?_
        refine z_isub C dX7_bars_74 75 rfl ?_
        exact z_iretW (x := S0_9) (ex := ex) (fun z => wX7 T a0 z) C hr dX7_bars_75 h rfl
      · refine z_bipush C (-2) dX7_bars_40 (by decide) 42 rfl ?_
        exact z_iretW (x := r_4.2) (ex := ex) (fun z => wX7 T a0 z) C hr dX7_bars_42 h rfl
    · refine z_iconst C (-1) dX7_bars_27 (by decide) 28 rfl ?_
      exact z_iretW (x := S0_1) (ex := ex) (fun z => wX7 T a0 z) C hr dX7_bars_28 h rfl

end
/-! StreamTreeModel.isBefore (III)Z -/
section
variable {p : Program} {l : Launch} {e : Env} {R : Room} {s : State} {m : MethodId} {args : Array Value} {below : List Frame} {meth : Method} {c : Code} {Q : State → Prop} {A : Nat → Prop} {D : va_G} {T : Nat → ClassId} {a0 : Nat → Nat}
theorem in_X7_isBefore_X7 : ∀ w ∈ u_ws RX7 TX7 35, w ∈ wsX7_isBefore := fun _ h => (List.mem_cons_of_mem _ (List.mem_append_right _ h))
def f_X7_isBefore (S0 : Nat → Nat → Int32) (v1 : Int32) (v2 : Int32) (v3 : Int32) : Option (Int32) := zix v3 240 fun _ => if v1 = (S0 32 (Int32.toNatClampNeg v3)) then (zix v2 240 fun _ => zix v3 240 fun _ => if (S0 33 (Int32.toNatClampNeg v2)) = (S0 33 (Int32.toNatClampNeg v3)) then (zix v2 240 fun _ => zix v3 240 fun _ => if (S0 34 (Int32.toNatClampNeg v3)) ≤ (S0 34 (Int32.toNatClampNeg v2)) then (some 0) else (some 1)) else (zix v2 240 fun _ => zix v3 240 fun _ => if (S0 33 (Int32.toNatClampNeg v3)) ≤ (S0 33 (Int32.toNatClampNeg v2)) then (some 0) else (some 1))) else (zix v3 240 fun _ => if (S0 32 (Int32.toNatClampNeg v3)) ≤ v1 then (some 0) else (some 1))
theorem dd_X7_isBefore : RX7 ≠ "java/lang/invoke/MethodHandle" ∧ RX7 ≠ "java/lang/invoke/VarHandle" ∧ (parseMethodDescriptor yX7_isBefore.desc).map (fun d => d.parameters.length) = some 3 := by decide +kernel
set_option maxHeartbeats 4000000 in
set_option maxRecDepth 100000 in
theorem c_X7_isBefore (l : Launch) (D : va_G) (T : Nat → ClassId) (a0 : Nat → Nat) (S0 : Nat → Nat → Int32) (v1 : Int32) (v2 : Int32) (v3 : Int32) (ex : Int32) (h : f_X7_isBefore S0 v1 v2 v3 = some ex) : zRI l yX7_isBefore wsX7_isBefore ({ frames := 0, cells := 0, slots := 0, locals := 0 } : Room) D T [.ref (a0 99), .int v1, .int v2, .int v3] (wX7 T a0 S0) ex := by
  refine z_begin (cc := cX7_isBefore) (nL := 4) (own := RX7) (fr := 0) (lc := 0) (ret := some .boolean) (by decide) rfl (Nat.le_of_ble_eq_true rfl) (fun _ => False) rfl [(0, .ref (a0 99)), (1, .int v1), (2, .int v2), (3, .int v3)] rfl ⟨rfl, rfl⟩ rfl ?_
  intro p e s m args below meth c C hr hD
  unfold f_X7_isBefore at h
  refine z_iload_n C dX7_isBefore_0 rfl 1 rfl 1 rfl ?_
  refine z_aload_n C dX7_isBefore_1 rfl 0 rfl 2 rfl ?_
  refine z_get C (in_X7_isBefore_X7) 0 rfl rfl 32 (by decide) (List.mem_of_getElem? (i := 1) rfl) rfl rfl dX7_isBefore_2 5 rfl ?_
  refine z_iload_n C dX7_isBefore_5 rfl 3 rfl 6 rfl ?_
  refine z_iald C 15 rfl rfl dX7_isBefore_6 7 rfl h (fun h => ?_)
  refine z_icmp_eq C 26 dX7_isBefore_7 (by decide) 10 rfl h (fun h => ?_) (fun h => ?_)
  · refine z_aload_n C dX7_isBefore_26 rfl 0 rfl 27 rfl ?_
    refine z_get C (in_X7_isBefore_X7) 0 rfl rfl 33 (by decide) (List.mem_of_getElem? (i := 2) rfl) rfl rfl dX7_isBefore_27 30 rfl ?_
    refine z_iload_n C dX7_isBefore_30 rfl 2 rfl 31 rfl ?_
    refine z_iald C 16 rfl rfl dX7_isBefore_31 32 rfl h (fun h => ?_)
    refine z_aload_n C dX7_isBefore_32 rfl 0 rfl 33 rfl ?_
    refine z_get C (in_X7_isBefore_X7) 0 rfl rfl 33 (by decide) (List.mem_of_getElem? (i := 2) rfl) rfl rfl dX7_isBefore_33 36 rfl ?_
    refine z_iload_n C dX7_isBefore_36 rfl 3 rfl 37 rfl ?_
    refine z_iald C 16 rfl rfl dX7_isBefore_37 38 rfl h (fun h => ?_)
    refine z_icmp_eq C 64 dX7_isBefore_38 (by decide) 41 rfl h (fun h => ?_) (fun h => ?_)
    · refine z_aload_n C dX7_isBefore_64 rfl 0 rfl 65 rfl ?_
      refine z_get C (in_X7_isBefore_X7) 0 rfl rfl 34 (by decide) (List.mem_of_getElem? (i := 3) rfl) rfl rfl dX7_isBefore_65 68 rfl ?_
      refine z_iload_n C dX7_isBefore_68 rfl 2 rfl 69 rfl ?_
      refine z_iald C 17 rfl rfl dX7_isBefore_69 70 rfl h (fun h => ?_)
      refine z_aload_n C dX7_isBefore_70 rfl 0 rfl 71 rfl ?_
      refine z_get C (in_X7_isBefore_X7) 0 rfl rfl 34 (by decide) (List.mem_of_getElem? (i := 3) rfl) rfl rfl dX7_isBefore_71 74 rfl ?_
      refine z_iload_n C dX7_isBefore_74 rfl 3 rfl 75 rfl ?_
      refine z_iald C 17 rfl rfl dX7_isBefore_75 76 rfl h (fun h => ?_)
      refine z_icmp_ge C 83 dX7_isBefore_76 (by decide) 79 rfl h (fun h => ?_) (fun h => ?_)
      · refine z_iconst C 0 dX7_isBefore_83 (by decide) 84 rfl ?_
        exact z_zretRc C hr dX7_isBefore_84 (Or.inl rfl) h
      · refine z_iconst C 1 dX7_isBefore_79 (by decide) 80 rfl ?_
        refine z_goto C 84 dX7_isBefore_80 (by decide) ?_
        exact z_zretRc C hr dX7_isBefore_84 (Or.inr rfl) h
    · refine z_aload_n C dX7_isBefore_41 rfl 0 rfl 42 rfl ?_
      refine z_get C (in_X7_isBefore_X7) 0 rfl rfl 33 (by decide) (List.mem_of_getElem? (i := 2) rfl) rfl rfl dX7_isBefore_42 45 rfl ?_
      refine z_iload_n C dX7_isBefore_45 rfl 2 rfl 46 rfl ?_
      refine z_iald C 16 rfl rfl dX7_isBefore_46 47 rfl h (fun h => ?_)
      refine z_aload_n C dX7_isBefore_47 rfl 0 rfl 48 rfl ?_
      refine z_get C (in_X7_isBefore_X7) 0 rfl rfl 33 (by decide) (List.mem_of_getElem? (i := 2) rfl) rfl rfl dX7_isBefore_48 51 rfl ?_
      refine z_iload_n C dX7_isBefore_51 rfl 3 rfl 52 rfl ?_
      refine z_iald C 16 rfl rfl dX7_isBefore_52 53 rfl h (fun h => ?_)
      refine z_icmp_ge C 60 dX7_isBefore_53 (by decide) 56 rfl h (fun h => ?_) (fun h => ?_)
      · refine z_iconst C 0 dX7_isBefore_60 (by decide) 61 rfl ?_
        refine z_goto C 84 dX7_isBefore_61 (by decide) ?_
        exact z_zretRc C hr dX7_isBefore_84 (Or.inl rfl) h
      · refine z_iconst C 1 dX7_isBefore_56 (by decide) 57 rfl ?_
        refine z_goto C 84 dX7_isBefore_57 (by decide) ?_
        exact z_zretRc C hr dX7_isBefore_84 (Or.inr rfl) h
  · refine z_iload_n C dX7_isBefore_10 rfl 1 rfl 11 rfl ?_
    refine z_aload_n C dX7_isBefore_11 rfl 0 rfl 12 rfl ?_
    refine z_get C (in_X7_isBefore_X7) 0 rfl rfl 32 (by decide) (List.mem_of_getElem? (i := 1) rfl) rfl rfl dX7_isBefore_12 15 rfl ?_
    refine z_iload_n C dX7_isBefore_15 rfl 3 rfl 16 rfl ?_
    refine z_iald C 15 rfl rfl dX7_isBefore_16 17 rfl h (fun h => ?_)
    refine z_icmp_ge C 24 dX7_isBefore_17 (by decide) 20 rfl h (fun h => ?_) (fun h => ?_)
    · refine z_iconst C 0 dX7_isBefore_24 (by decide) 25 rfl ?_
      exact z_zretRc C hr dX7_isBefore_25 (Or.inl rfl) h
    · refine z_iconst C 1 dX7_isBefore_20 (by decide) 21 rfl ?_
      refine z_goto C 25 dX7_isBefore_21 (by decide) ?_
      exact z_zretRc C hr dX7_isBefore_25 (Or.inr rfl) h

end
/-! StreamTreeModel.laysMore (III)V -/
section
variable {p : Program} {l : Launch} {e : Env} {R : Room} {s : State} {m : MethodId} {args : Array Value} {below : List Frame} {meth : Method} {c : Code} {Q : State → Prop} {A : Nat → Prop} {D : va_G} {T : Nat → ClassId} {a0 : Nat → Nat}
theorem in_X7_laysMore_X7 : ∀ w ∈ u_ws RX7 TX7 35, w ∈ wsX7_laysMore := fun _ h => (List.mem_cons_of_mem _ (List.mem_append_right _ h))
def f_X7_laysMore_J222 (rec : (Int32 × (Nat → Nat → Int32)) → Option ((Nat → Nat → Int32))) (S0 : Nat → Nat → Int32) (v1 : Int32) (v2 : Int32) (v3 : Int32) (v4 : Int32) (x5 : Int32)  : Option ((Nat → Nat → Int32)) := rec ((x5 + 1), S0)
set_option maxHeartbeats 4000000 in
set_option maxRecDepth 100000 in
theorem p_X7_laysMore_J222 (C : zC p R s m args meth c cX7_laysMore 8 RX7 wsX7_laysMore D T 4 90 0 0) (S0 : Nat → Nat → Int32) {v1 : Int32} {v2 : Int32} {v3 : Int32} {v4 : Int32} (x5 : Int32)  (hD : va_D A (wX7 T a0 S0)) {rec : (Int32 × (Nat → Nat → Int32)) → Option ((Nat → Nat → Int32))} (hrec : ∀ (c0 : Int32) (c1 : Nat → Nat → Int32) (b : (Nat → Nat → Int32)), rec (c0, c1) = some b → (zt p l e R s m args below meth c 8 A D 0 0 Q (wX7 T a0 b) [] 228 []) → zt p l e R s m args below meth c 8 A D 0 0 Q (wX7 T a0 c1) [(0, .ref (a0 99)), (1, .int v1), (2, .int v2), (3, .int v3), (4, .int v4), (5, .int c0)] 97 []) {b : (Nat → Nat → Int32)} (K : zt p l e R s m args below meth c 8 A D 0 0 Q (wX7 T a0 b) [] 228 []) (h : f_X7_laysMore_J222 rec S0 v1 v2 v3 v4 x5 = some b) : zt p l e R s m args below meth c 8 A D 0 0 Q (wX7 T a0 S0) [(0, .ref (a0 99)), (1, .int v1), (2, .int v2), (3, .int v3), (4, .int v4), (5, .int x5)] 222 [] := by
  unfold f_X7_laysMore_J222 at h
  refine z_iinc C (x5 + 1) [(0, .ref (a0 99)), (1, .int v1), (2, .int v2), (3, .int v3), (4, .int v4), (5, .int (x5 + 1))] dX7_laysMore_222 5 rfl rfl (Nat.le_of_ble_eq_true rfl) [1, 2, 3, 4, 5, 0] rfl 225 rfl ?_
  refine z_goto C 97 dX7_laysMore_225 (by decide) ?_
  exact z_locals (ks := [0, 1, 2, 3, 4, 5]) rfl (hrec _ _ _ h K)

def f_X7_laysMore_J185 (rec : (Int32 × (Nat → Nat → Int32)) → Option ((Nat → Nat → Int32))) (S0 : Nat → Nat → Int32) (v1 : Int32) (v2 : Int32) (v3 : Int32) (v4 : Int32) (x5 : Int32) (x6 : Int32) (x7 : Int32)  : Option ((Nat → Nat → Int32)) := zix v4 240 fun j => zlet (zst S0 32 j x7) fun S0_7 => zix x6 240 fun _ => zix v4 240 fun j => zlet (zst S0_7 33 j (S0_7 33 (Int32.toNatClampNeg x6))) fun S0_8 => zix x6 240 fun _ => zix v4 240 fun j => zlet (zst S0_8 34 j (S0_8 34 (Int32.toNatClampNeg x6))) fun S0_9 => f_X7_laysMore_J222 rec S0_9 v1 v2 v3 v4 x5
set_option maxHeartbeats 4000000 in
set_option maxRecDepth 100000 in
theorem p_X7_laysMore_J185 (C : zC p R s m args meth c cX7_laysMore 8 RX7 wsX7_laysMore D T 4 90 0 0) (S0 : Nat → Nat → Int32) {v1 : Int32} {v2 : Int32} {v3 : Int32} {v4 : Int32} (x5 : Int32) (x6 : Int32) (x7 : Int32)  (hD : va_D A (wX7 T a0 S0)) {rec : (Int32 × (Nat → Nat → Int32)) → Option ((Nat → Nat → Int32))} (hrec : ∀ (c0 : Int32) (c1 : Nat → Nat → Int32) (b : (Nat → Nat → Int32)), rec (c0, c1) = some b → (zt p l e R s m args below meth c 8 A D 0 0 Q (wX7 T a0 b) [] 228 []) → zt p l e R s m args below meth c 8 A D 0 0 Q (wX7 T a0 c1) [(0, .ref (a0 99)), (1, .int v1), (2, .int v2), (3, .int v3), (4, .int v4), (5, .int c0)] 97 []) {b : (Nat → Nat → Int32)} (K : zt p l e R s m args below meth c 8 A D 0 0 Q (wX7 T a0 b) [] 228 []) (h : f_X7_laysMore_J185 rec S0 v1 v2 v3 v4 x5 x6 x7 = some b) : zt p l e R s m args below meth c 8 A D 0 0 Q (wX7 T a0 S0) [(0, .ref (a0 99)), (1, .int v1), (2, .int v2), (3, .int v3), (4, .int v4), (5, .int x5), (6, .int x6), (7, .int x7)] 185 [] := by
  unfold f_X7_laysMore_J185 at h
  refine z_aload_n C dX7_laysMore_185 rfl 0 rfl 186 rfl ?_
  refine z_get C (in_X7_laysMore_X7) 0 rfl rfl 32 (by decide) (List.mem_of_getElem? (i := 1) rfl) rfl rfl dX7_laysMore_186 189 rfl ?_
  refine z_iload C dX7_laysMore_189 4 rfl 191 rfl ?_
  refine z_iload C dX7_laysMore_191 7 rfl 193 rfl ?_
  refine z_iast C (fun z => wX7 T a0 z) S0 32 (hD.zaddr rfl) 15 rfl rfl (fun _ => rfl) dX7_laysMore_193 194 rfl h (fun S0_7 h => ?_)
  refine z_aload_n C dX7_laysMore_194 rfl 0 rfl 195 rfl ?_
  refine z_get C (in_X7_laysMore_X7) 0 rfl rfl 33 (by decide) (List.mem_of_getElem? (i := 4) rfl) rfl rfl dX7_laysMore_195 198 rfl ?_
  refine z_iload C dX7_laysMore_198 4 rfl 200 rfl ?_
  refine z_aload_n C dX7_laysMore_200 rfl 0 rfl 201 rfl ?_
  refine z_get C (in_X7_laysMore_X7) 0 rfl rfl 33 (by decide) (List.mem_of_getElem? (i := 4) rfl) rfl rfl dX7_laysMore_201 204 rfl ?_
  refine z_iload C dX7_laysMore_204 6 rfl 206 rfl ?_
  refine z_iald C 16 rfl rfl dX7_laysMore_206 207 rfl h (fun h => ?_)
  refine z_iast C (fun z => wX7 T a0 z) S0_7 33 (hD.zaddr rfl) 16 rfl rfl (fun _ => rfl) dX7_laysMore_207 208 rfl h (fun S0_8 h => ?_)
  refine z_aload_n C dX7_laysMore_208 rfl 0 rfl 209 rfl ?_
  refine z_get C (in_X7_laysMore_X7) 0 rfl rfl 34 (by decide) (List.mem_of_getElem? (i := 5) rfl) rfl rfl dX7_laysMore_209 212 rfl ?_
  refine z_iload C dX7_laysMore_212 4 rfl 214 rfl ?_
  refine z_aload_n C dX7_laysMore_214 rfl 0 rfl 215 rfl ?_
  refine z_get C (in_X7_laysMore_X7) 0 rfl rfl 34 (by decide) (List.mem_of_getElem? (i := 5) rfl) rfl rfl dX7_laysMore_215 218 rfl ?_
  refine z_iload C dX7_laysMore_218 6 rfl 220 rfl ?_
  refine z_iald C 17 rfl rfl dX7_laysMore_220 221 rfl h (fun h => ?_)
  refine z_iast C (fun z => wX7 T a0 z) S0_8 34 (hD.zaddr rfl) 17 rfl rfl (fun _ => rfl) dX7_laysMore_221 222 rfl h (fun S0_9 h => ?_)
  exact z_locals (ks := [0, 1, 2, 3, 4, 5]) rfl (p_X7_laysMore_J222 C S0_9 x5 (hD.zaddr rfl) hrec K h)

def f_X7_laysMore_L97b  (v1 : Int32) (v2 : Int32) (v3 : Int32) (v4 : Int32) (rec : (Int32 × (Nat → Nat → Int32)) → Option ((Nat → Nat → Int32))) (a : Int32 × (Nat → Nat → Int32)) : Option ((Nat → Nat → Int32)) := if 2 < a.1 then (some a.2) else ((f_X7_target a.2 v1 v2 a.1).bind fun r_3 => (f_X7_isFree a.2 v1 v2 a.1).bind fun r_4 => if r_4 = 0 then (f_X7_laysMore_J222 rec a.2 v1 v2 v3 v4 a.1) else (zix r_3 240 fun _ => if 1000000000 ≤ (a.2 32 (Int32.toNatClampNeg r_3)) then (f_X7_laysMore_J222 rec a.2 v1 v2 v3 v4 a.1) else (zix r_3 240 fun _ => (f_X7_lengthOf a.2 v1 a.1).bind fun r_5 => zlet ((a.2 32 (Int32.toNatClampNeg r_3)) + (r_5 * ((a.2 3 0) + v3))) fun u_6 => zix v4 240 fun _ => if (a.2 32 (Int32.toNatClampNeg v4)) = 1000000000 then (f_X7_laysMore_J185 rec a.2 v1 v2 v3 v4 a.1 r_3 u_6) else ((f_X7_isBefore a.2 u_6 r_3 v4).bind fun r_10 => if r_10 = 0 then (f_X7_laysMore_J222 rec a.2 v1 v2 v3 v4 a.1) else (f_X7_laysMore_J185 rec a.2 v1 v2 v3 v4 a.1 r_3 u_6)))))
def f_X7_laysMore_L97  (v1 : Int32) (v2 : Int32) (v3 : Int32) (v4 : Int32) : Nat → (Int32 × (Nat → Nat → Int32)) → Option ((Nat → Nat → Int32)) := zloop (fun rec a => f_X7_laysMore_L97b v1 v2 v3 v4 rec a)
set_option maxHeartbeats 4000000 in
set_option maxRecDepth 100000 in
theorem p_X7_laysMore_L97 (C : zC p R s m args meth c cX7_laysMore 8 RX7 wsX7_laysMore D T 4 90 0 0) (S0 : Nat → Nat → Int32) (v1 : Int32) (v2 : Int32) (v3 : Int32) (v4 : Int32) (hD : va_D A (wX7 T a0 S0)) : ∀ (n : Nat) (c0 : Int32) (c1 : Nat → Nat → Int32) (b : (Nat → Nat → Int32)), f_X7_laysMore_L97 v1 v2 v3 v4 n (c0, c1) = some b → (zt p l e R s m args below meth c 8 A D 0 0 Q (wX7 T a0 b) [] 228 []) → zt p l e R s m args below meth c 8 A D 0 0 Q (wX7 T a0 c1) [(0, .ref (a0 99)), (1, .int v1), (2, .int v2), (3, .int v3), (4, .int v4), (5, .int c0)] 97 [] := by
  intro n c0 c1 b h K
  refine zloop_ind (P := fun a b => (zt p l e R s m args below meth c 8 A D 0 0 Q (wX7 T a0 b) [] 228 []) → zt p l e R s m args below meth c 8 A D 0 0 Q (wX7 T a0 a.2) [(0, .ref (a0 99)), (1, .int v1), (2, .int v2), (3, .int v3), (4, .int v4), (5, .int a.1)] 97 []) ?_ n (c0, c1) b h K
  clear h K b c0 c1
  intro rec hrec a b h K
  have hrec : ∀ (c0 : Int32) (c1 : Nat → Nat → Int32) (b : (Nat → Nat → Int32)), rec (c0, c1) = some b → (zt p l e R s m args below meth c 8 A D 0 0 Q (wX7 T a0 b) [] 228 []) → zt p l e R s m args below meth c 8 A D 0 0 Q (wX7 T a0 c1) [(0, .ref (a0 99)), (1, .int v1), (2, .int v2), (3, .int v3), (4, .int v4), (5, .int c0)] 97 [] := fun c0 c1 b h K => hrec (c0, c1) b h K
  unfold f_X7_laysMore_L97b at h
  refine z_iload C dX7_laysMore_97 5 rfl 99 rfl ?_
  refine z_iconst C 2 dX7_laysMore_99 (by decide) 100 rfl ?_
  refine z_icmp_gt C 228 dX7_laysMore_100 (by decide) 103 rfl h (fun h => ?_) (fun h => ?_)
  · refine z_locals (ks := []) (lv' := []) rfl ?_
    exact zex1 (F := (fun e0 => zt p l e R s m args below meth c 8 A D 0 0 Q (wX7 T a0 e0) [] 228 [])) h K
  · refine z_aload_n C dX7_laysMore_103 rfl 0 rfl 104 rfl ?_
    refine z_iload_n C dX7_laysMore_104 rfl 1 rfl 105 rfl ?_
    refine z_iload_n C dX7_laysMore_105 rfl 2 rfl 106 rfl ?_
    refine z_iload C dX7_laysMore_106 5 rfl 108 rfl ?_
    refine z_callR C (wX7 T a0 a.2) (fun v h => c_X7_target l D T a0  a.2 v1 v2 a.1 v h) ⟨rfl, rfl⟩ (z_cwV C 3 gX7_laysMore_X7_target rfl rfl dd_X7_target ⟨(Nat.le_of_ble_eq_true rfl), (Nat.le_of_ble_eq_true rfl)⟩) (hD.zaddr rfl) [0, 1, 2, 3, 4, 5, 6, 7, 8, 9, 10, 11, 12, 13, 14, 15, 16, 17] rfl rfl (fun _ => ⟨a0 99, [.int v1, .int v2, .int a.1], 6, 0, _, _, rfl, rfl, rfl, rfl, rfl⟩) (fun h => absurd rfl h) rfl (Nat.le_of_ble_eq_true rfl) dX7_laysMore_108 111 rfl h (fun r_3 h => ?_)
    refine z_istore C [(0, .ref (a0 99)), (1, .int v1), (2, .int v2), (3, .int v3), (4, .int v4), (5, .int a.1), (6, .int r_3)] dX7_laysMore_111 (Nat.le_of_ble_eq_true rfl) [1, 2, 3, 4, 5, 6, 0] rfl 113 rfl ?_
    refine z_aload_n C dX7_laysMore_113 rfl 0 rfl 114 rfl ?_
    refine z_iload_n C dX7_laysMore_114 rfl 1 rfl 115 rfl ?_
    refine z_iload_n C dX7_laysMore_115 rfl 2 rfl 116 rfl ?_
    refine z_iload C dX7_laysMore_116 5 rfl 118 rfl ?_
    refine z_callR C (wX7 T a0 a.2) (fun v h => c_X7_isFree l D T a0  a.2 v1 v2 a.1 v h) ⟨rfl, rfl⟩ (z_cwV C 3 gX7_laysMore_X7_isFree rfl rfl dd_X7_isFree ⟨(Nat.le_of_ble_eq_true rfl), (Nat.le_of_ble_eq_true rfl)⟩) (hD.zaddr rfl) [0, 1, 2, 3, 4, 5, 6, 7, 8, 9, 10, 11, 12, 13, 14, 15, 16, 17] rfl rfl (fun _ => ⟨a0 99, [.int v1, .int v2, .int a.1], 6, 0, _, _, rfl, rfl, rfl, rfl, rfl⟩) (fun h => absurd rfl h) rfl (Nat.le_of_ble_eq_true rfl) dX7_laysMore_118 121 rfl h (fun r_4 h => ?_)
    refine z_if_eq C 222 dX7_laysMore_121 (by decide) 124 rfl h (fun h => ?_) (fun h => ?_)
    · exact z_locals (ks := [0, 1, 2, 3, 4, 5]) rfl (p_X7_laysMore_J222 C a.2 a.1 (hD.zaddr rfl) hrec K h)
    · refine z_aload_n C dX7_laysMore_124 rfl 0 rfl 125 rfl ?_
      refine z_get C (in_X7_laysMore_X7) 0 rfl rfl 32 (by decide) (List.mem_of_getElem? (i := 1) rfl) rfl rfl dX7_laysMore_125 128 rfl ?_
      refine z_iload C dX7_laysMore_128 6 rfl 130 rfl ?_
      refine z_iald C 15 rfl rfl dX7_laysMore_130 131 rfl h (fun h => ?_)
      refine z_ldc C 1000000000 (List.mem_of_getElem? (i := 2) rfl) dX7_laysMore_131 133 rfl ?_
      refine z_icmp_ge C 222 dX7_laysMore_133 (by decide) 136 rfl h (fun h => ?_) (fun h => ?_)
      · exact z_locals (ks := [0, 1, 2, 3, 4, 5]) rfl (p_X7_laysMore_J222 C a.2 a.1 (hD.zaddr rfl) hrec K h)
      · refine z_aload_n C dX7_laysMore_136 rfl 0 rfl 137 rfl ?_
        refine z_get C (in_X7_laysMore_X7) 0 rfl rfl 32 (by decide) (List.mem_of_getElem? (i := 1) rfl) rfl rfl dX7_laysMore_137 140 rfl ?_
        refine z_iload C dX7_laysMore_140 6 rfl 142 rfl ?_
        refine z_iald C 15 rfl rfl dX7_laysMore_142 143 rfl h (fun h => ?_)
        refine z_aload_n C dX7_laysMore_143 rfl 0 rfl 144 rfl ?_
        refine z_iload_n C dX7_laysMore_144 rfl 1 rfl 145 rfl ?_
        refine z_iload C dX7_laysMore_145 5 rfl 147 rfl ?_
        refine z_callR C (wX7 T a0 a.2) (fun v h => c_X7_lengthOf l D T a0  a.2 v1 a.1 v h) ⟨rfl, rfl⟩ (z_cwV C 2 gX7_laysMore_X7_lengthOf rfl rfl dd_X7_lengthOf ⟨(Nat.le_of_ble_eq_true rfl), (Nat.le_of_ble_eq_true rfl)⟩) (hD.zaddr rfl) [0, 1, 2, 3, 4, 5, 6, 7, 8, 9, 10, 11, 12, 13, 14, 15, 16, 17] rfl rfl (fun _ => ⟨a0 99, [.int v1, .int a.1], 6, 0, _, _, rfl, rfl, rfl, rfl, rfl⟩) (fun h => absurd rfl h) rfl (Nat.le_of_ble_eq_true rfl) dX7_laysMore_147 150 rfl h (fun r_5 h => ?_)
        refine z_aload_n C dX7_laysMore_150 rfl 0 rfl 151 rfl ?_
        refine z_get C (in_X7_laysMore_X7) 0 rfl rfl 3 (by decide) (List.mem_of_getElem? (i := 7) rfl) rfl rfl dX7_laysMore_151 154 rfl ?_
        refine z_iload_n C dX7_laysMore_154 rfl 3 rfl 155 rfl ?_
        refine z_iadd C dX7_laysMore_155 156 rfl ?_
        refine z_imul C dX7_laysMore_156 157 rfl ?_
        refine z_iadd C dX7_laysMore_157 158 rfl ?_
        refine z_top h (fun u_6 h => ?_)
        refine z_istore C [(0, .ref (a0 99)), (1, .int v1), (2, .int v2), (3, .int v3), (4, .int v4), (5, .int a.1), (6, .int r_3), (7, .int u_6)] dX7_laysMore_158 (Nat.le_of_ble_eq_true rfl) [1, 2, 3, 4, 5, 6, 7, 0] rfl 160 rfl ?_
        refine z_aload_n C dX7_laysMore_160 rfl 0 rfl 161 rfl ?_
        refine z_get C (in_X7_laysMore_X7) 0 rfl rfl 32 (by decide) (List.mem_of_getElem? (i := 1) rfl) rfl rfl dX7_laysMore_161 164 rfl ?_
        refine z_iload C dX7_laysMore_164 4 rfl 166 rfl ?_
        refine z_iald C 15 rfl rfl dX7_laysMore_166 167 rfl h (fun h => ?_)
        refine z_ldc C 1000000000 (List.mem_of_getElem? (i := 2) rfl) dX7_laysMore_167 169 rfl ?_
        refine z_icmp_eq C 185 dX7_laysMore_169 (by decide) 172 rfl h (fun h => ?_) (fun h => ?_)
        · exact z_locals (ks := [0, 1, 2, 3, 4, 5, 6, 7]) rfl (p_X7_laysMore_J185 C a.2 a.1 r_3 u_6 (hD.zaddr rfl) hrec K h)
        · refine z_aload_n C dX7_laysMore_172 rfl 0 rfl 173 rfl ?_
          refine z_iload C dX7_laysMore_173 7 rfl 175 rfl ?_
          refine z_iload C dX7_laysMore_175 6 rfl 177 rfl ?_
          refine z_iload C dX7_laysMore_177 4 rfl 179 rfl ?_
          refine z_callR C (wX7 T a0 a.2) (fun v h => c_X7_isBefore l D T a0  a.2 u_6 r_3 v4 v h) ⟨rfl, rfl⟩ (z_cwV C 3 gX7_laysMore_X7_isBefore rfl rfl dd_X7_isBefore ⟨(Nat.le_of_ble_eq_true rfl), (Nat.le_of_ble_eq_true rfl)⟩) (hD.zaddr rfl) [0, 1, 2, 3, 4, 5, 6, 7, 8, 9, 10, 11, 12, 13, 14, 15, 16, 17] rfl rfl (fun _ => ⟨a0 99, [.int u_6, .int r_3, .int v4], 6, 0, _, _, rfl, rfl, rfl, rfl, rfl⟩) (fun h => absurd rfl h) rfl (Nat.le_of_ble_eq_true rfl) dX7_laysMore_179 182 rfl h (fun r_10 h => ?_)
          refine z_if_eq C 222 dX7_laysMore_182 (by decide) 185 rfl h (fun h => ?_) (fun h => ?_)
          · exact z_locals (ks := [0, 1, 2, 3, 4, 5]) rfl (p_X7_laysMore_J222 C a.2 a.1 (hD.zaddr rfl) hrec K h)
          · exact z_locals (ks := [0, 1, 2, 3, 4, 5, 6, 7]) rfl (p_X7_laysMore_J185 C a.2 a.1 r_3 u_6 (hD.zaddr rfl) hrec K h)

def f_X7_laysMore (S0 : Nat → Nat → Int32) (v1 : Int32) (v2 : Int32) (v3 : Int32) : Option ((Nat → Nat → Int32)) := (f_X7_cell v1 v2).bind fun r_1 => zix r_1 240 fun j => zlet (zst S0 32 j 1000000000) fun S0_2 => zix r_1 240 fun _ => if (S0_2 26 (Int32.toNatClampNeg r_1)) < 0 then (zix r_1 240 fun _ => if (S0_2 10 (Int32.toNatClampNeg r_1)) = 0 then ((f_X7_laysMore_L97 v1 v2 v3 r_1 zfuel (0, S0_2)).bind fun y_11 => some y_11) else (some S0_2)) else (zix r_1 240 fun _ => (f_X7_target S0_2 v1 v2 (S0_2 26 (Int32.toNatClampNeg r_1))).bind fun r_12 => zix r_12 240 fun _ => zix r_1 240 fun _ => (f_X7_lengthOf S0_2 v1 (S0_2 26 (Int32.toNatClampNeg r_1))).bind fun r_13 => zix r_1 240 fun j => zlet (zst S0_2 32 j ((S0_2 32 (Int32.toNatClampNeg r_12)) + (r_13 * v3))) fun S0_14 => zix r_1 240 fun j => zlet (zst S0_14 33 j v1) fun S0_15 => zix r_1 240 fun j => zlet (zst S0_15 34 j v2) fun S0_16 => some S0_16)
theorem dd_X7_laysMore : RX7 ≠ "java/lang/invoke/MethodHandle" ∧ RX7 ≠ "java/lang/invoke/VarHandle" ∧ (parseMethodDescriptor yX7_laysMore.desc).map (fun d => d.parameters.length) = some 3 := by decide +kernel
set_option maxHeartbeats 4000000 in
set_option maxRecDepth 100000 in
theorem c_X7_laysMore (l : Launch) (D : va_G) (T : Nat → ClassId) (a0 : Nat → Nat) (S0 : Nat → Nat → Int32) (v1 : Int32) (v2 : Int32) (v3 : Int32) (ex : (Nat → Nat → Int32)) (h : f_X7_laysMore S0 v1 v2 v3 = some ex) : zWV l yX7_laysMore wsX7_laysMore ({ frames := 4, cells := 0, slots := 0, locals := 90 } : Room) D T [.ref (a0 99), .int v1, .int v2, .int v3] (wX7 T a0 S0) (wX7 T a0 ex) := by
  refine z_begin (cc := cX7_laysMore) (nL := 8) (own := RX7) (fr := 4) (lc := 90) (ret := none) (by decide) rfl (Nat.le_of_ble_eq_true rfl) (zA (wX7 T a0 S0)) rfl [(0, .ref (a0 99)), (1, .int v1), (2, .int v2), (3, .int v3)] rfl ⟨rfl, rfl⟩ rfl ?_
  intro p e s m args below meth c C hr hD
  have hD := hD.zself
  unfold f_X7_laysMore at h
  refine z_iload_n C dX7_laysMore_0 rfl 1 rfl 1 rfl ?_
  refine z_iload_n C dX7_laysMore_1 rfl 2 rfl 2 rfl ?_
  refine z_callR C ([]) (fun v h => c_X7_cell l D T    v1 v2 v h) ⟨rfl, rfl⟩ (z_cwS C 2 gX7_laysMore_X7_cell rfl dd_X7_cell ⟨(Nat.le_of_ble_eq_true rfl), (Nat.le_of_ble_eq_true rfl)⟩) (hD.zaddr rfl) [] rfl rfl (fun h => absurd h (by decide)) (fun _ => rfl) rfl (Nat.le_of_ble_eq_true rfl) dX7_laysMore_2 5 rfl h (fun r_1 h => ?_)
  refine z_istore C [(0, .ref (a0 99)), (1, .int v1), (2, .int v2), (3, .int v3), (4, .int r_1)] dX7_laysMore_5 (Nat.le_of_ble_eq_true rfl) [1, 2, 3, 4, 0] rfl 7 rfl ?_
  refine z_aload_n C dX7_laysMore_7 rfl 0 rfl 8 rfl ?_
  refine z_get C (in_X7_laysMore_X7) 0 rfl rfl 32 (by decide) (List.mem_of_getElem? (i := 1) rfl) rfl rfl dX7_laysMore_8 11 rfl ?_
  refine z_iload C dX7_laysMore_11 4 rfl 13 rfl ?_
  refine z_ldc C 1000000000 (List.mem_of_getElem? (i := 2) rfl) dX7_laysMore_13 15 rfl ?_
  refine z_iast C (fun z => wX7 T a0 z) S0 32 (hD.zaddr rfl) 15 rfl rfl (fun _ => rfl) dX7_laysMore_15 16 rfl h (fun S0_2 h => ?_)
  refine z_aload_n C dX7_laysMore_16 rfl 0 rfl 17 rfl ?_
  refine z_get C (in_X7_laysMore_X7) 0 rfl rfl 26 (by decide) (List.mem_of_getElem? (i := 3) rfl) rfl rfl dX7_laysMore_17 20 rfl ?_
  refine z_iload C dX7_laysMore_20 4 rfl 22 rfl ?_
  refine z_iald C 9 rfl rfl dX7_laysMore_22 23 rfl h (fun h => ?_)
  refine z_if_lt C 83 dX7_laysMore_23 (by decide) 26 rfl h (fun h => ?_) (fun h => ?_)
  · refine z_aload_n C dX7_laysMore_83 rfl 0 rfl 84 rfl ?_
    refine z_get C (in_X7_laysMore_X7) 0 rfl rfl 10 (by decide) (List.mem_of_getElem? (i := 6) rfl) rfl rfl dX7_laysMore_84 87 rfl ?_
    refine z_iload C dX7_laysMore_87 4 rfl 89 rfl ?_
    refine z_zald C 4 rfl rfl dX7_laysMore_89 90 rfl h (fun h => ?_)
    refine z_if_eq C 94 dX7_laysMore_90 (by decide) 93 rfl h (fun h => ?_) (fun h => ?_)
    · refine z_iconst C 0 dX7_laysMore_94 (by decide) 95 rfl ?_
      refine z_istore C [(0, .ref (a0 99)), (1, .int v1), (2, .int v2), (3, .int v3), (4, .int r_1), (5, .int 0)] dX7_laysMore_95 (Nat.le_of_ble_eq_true rfl) [1, 2, 3, 4, 5, 0] rfl 97 rfl ?_
      obtain ⟨y_11, hl_y_11, h⟩ := Option.bind_eq_some_iff.mp h
      refine z_locals (ks := [0, 1, 2, 3, 4, 5]) rfl (p_X7_laysMore_L97 C S0_2 v1 v2 v3 r_1 (hD.zaddr rfl) _ _ _ _ hl_y_11 ?_)
      exact z_vretW (x := y_11) (ex := ex) (fun z => wX7 T a0 z) C hr dX7_laysMore_228 h rfl
    · exact z_vretW (x := S0_2) (ex := ex) (fun z => wX7 T a0 z) C hr dX7_laysMore_93 h rfl
  · refine z_aload_n C dX7_laysMore_26 rfl 0 rfl 27 rfl ?_
    refine z_get C (in_X7_laysMore_X7) 0 rfl rfl 32 (by decide) (List.mem_of_getElem? (i := 1) rfl) rfl rfl dX7_laysMore_27 30 rfl ?_
    refine z_iload C dX7_laysMore_30 4 rfl 32 rfl ?_
    refine z_aload_n C dX7_laysMore_32 rfl 0 rfl 33 rfl ?_
    refine z_get C (in_X7_laysMore_X7) 0 rfl rfl 32 (by decide) (List.mem_of_getElem? (i := 1) rfl) rfl rfl dX7_laysMore_33 36 rfl ?_
    refine z_aload_n C dX7_laysMore_36 rfl 0 rfl 37 rfl ?_
    refine z_iload_n C dX7_laysMore_37 rfl 1 rfl 38 rfl ?_
    refine z_iload_n C dX7_laysMore_38 rfl 2 rfl 39 rfl ?_
    refine z_aload_n C dX7_laysMore_39 rfl 0 rfl 40 rfl ?_
    refine z_get C (in_X7_laysMore_X7) 0 rfl rfl 26 (by decide) (List.mem_of_getElem? (i := 3) rfl) rfl rfl dX7_laysMore_40 43 rfl ?_
    refine z_iload C dX7_laysMore_43 4 rfl 45 rfl ?_
    refine z_iald C 9 rfl rfl dX7_laysMore_45 46 rfl h (fun h => ?_)
    refine z_callR C (wX7 T a0 S0_2) (fun v h => c_X7_target l D T a0  S0_2 v1 v2 (S0_2 26 (Int32.toNatClampNeg r_1)) v h) ⟨rfl, rfl⟩ (z_cwV C 3 gX7_laysMore_X7_target rfl rfl dd_X7_target ⟨(Nat.le_of_ble_eq_true rfl), (Nat.le_of_ble_eq_true rfl)⟩) (hD.zaddr rfl) [0, 1, 2, 3, 4, 5, 6, 7, 8, 9, 10, 11, 12, 13, 14, 15, 16, 17] rfl rfl (fun _ => ⟨a0 99, [.int v1, .int v2, .int (S0_2 26 (Int32.toNatClampNeg r_1))], 6, 0, _, _, rfl, rfl, rfl, rfl, rfl⟩) (fun h => absurd rfl h) rfl (Nat.le_of_ble_eq_true rfl) dX7_laysMore_46 49 rfl h (fun r_12 h => ?_)
    refine z_iald C 15 rfl rfl dX7_laysMore_49 50 rfl h (fun h => ?_)
    refine z_aload_n C dX7_laysMore_50 rfl 0 rfl 51 rfl ?_
    refine z_iload_n C dX7_laysMore_51 rfl 1 rfl 52 rfl ?_
    refine z_aload_n C dX7_laysMore_52 rfl 0 rfl 53 rfl ?_
    refine z_get C (in_X7_laysMore_X7) 0 rfl rfl 26 (by decide) (List.mem_of_getElem? (i := 3) rfl) rfl rfl dX7_laysMore_53 56 rfl ?_
    refine z_iload C dX7_laysMore_56 4 rfl 58 rfl ?_
    refine z_iald C 9 rfl rfl dX7_laysMore_58 59 rfl h (fun h => ?_)
    refine z_callR C (wX7 T a0 S0_2) (fun v h => c_X7_lengthOf l D T a0  S0_2 v1 (S0_2 26 (Int32.toNatClampNeg r_1)) v h) ⟨rfl, rfl⟩ (z_cwV C 2 gX7_laysMore_X7_lengthOf rfl rfl dd_X7_lengthOf ⟨(Nat.le_of_ble_eq_true rfl), (Nat.le_of_ble_eq_true rfl)⟩) (hD.zaddr rfl) [0, 1, 2, 3, 4, 5, 6, 7, 8, 9, 10, 11, 12, 13, 14, 15, 16, 17] rfl rfl (fun _ => ⟨a0 99, [.int v1, .int (S0_2 26 (Int32.toNatClampNeg r_1))], 6, 0, _, _, rfl, rfl, rfl, rfl, rfl⟩) (fun h => absurd rfl h) rfl (Nat.le_of_ble_eq_true rfl) dX7_laysMore_59 62 rfl h (fun r_13 h => ?_)
    refine z_iload_n C dX7_laysMore_62 rfl 3 rfl 63 rfl ?_
    refine z_imul C dX7_laysMore_63 64 rfl ?_
    refine z_iadd C dX7_laysMore_64 65 rfl ?_
    refine z_iast C (fun z => wX7 T a0 z) S0_2 32 (hD.zaddr rfl) 15 rfl rfl (fun _ => rfl) dX7_laysMore_65 66 rfl h (fun S0_14 h => ?_)
    refine z_aload_n C dX7_laysMore_66 rfl 0 rfl 67 rfl ?_
    refine z_get C (in_X7_laysMore_X7) 0 rfl rfl 33 (by decide) (List.mem_of_getElem? (i := 4) rfl) rfl rfl dX7_laysMore_67 70 rfl ?_
    refine z_iload C dX7_laysMore_70 4 rfl 72 rfl ?_
    refine z_iload_n C dX7_laysMore_72 rfl 1 rfl 73 rfl ?_
    refine z_iast C (fun z => wX7 T a0 z) S0_14 33 (hD.zaddr rfl) 16 rfl rfl (fun _ => rfl) dX7_laysMore_73 74 rfl h (fun S0_15 h => ?_)
    refine z_aload_n C dX7_laysMore_74 rfl 0 rfl 75 rfl ?_
    refine z_get C (in_X7_laysMore_X7) 0 rfl rfl 34 (by decide) (List.mem_of_getElem? (i := 5) rfl) rfl rfl dX7_laysMore_75 78 rfl ?_
    refine z_iload C dX7_laysMore_78 4 rfl 80 rfl ?_
    refine z_iload_n C dX7_laysMore_80 rfl 2 rfl 81 rfl ?_
    refine z_iast C (fun z => wX7 T a0 z) S0_15 34 (hD.zaddr rfl) 17 rfl rfl (fun _ => rfl) dX7_laysMore_81 82 rfl h (fun S0_16 h => ?_)
    exact z_vretW (x := S0_16) (ex := ex) (fun z => wX7 T a0 z) C hr dX7_laysMore_82 h rfl

end
/-! StreamTreeModel.best (III)I -/
section
variable {p : Program} {l : Launch} {e : Env} {R : Room} {s : State} {m : MethodId} {args : Array Value} {below : List Frame} {meth : Method} {c : Code} {Q : State → Prop} {A : Nat → Prop} {D : va_G} {T : Nat → ClassId} {a0 : Nat → Nat}
theorem in_X7_best_X7 : ∀ w ∈ u_ws RX7 TX7 35, w ∈ wsX7_best := fun _ h => (List.mem_cons_of_mem _ (List.mem_append_right _ h))
def f_X7_best_J31 (S0 : Nat → Nat → Int32) (x1 : Int32) (x2 : Int32) (x3 : Int32)  : Option (Int32 × (Nat → Nat → Int32)) := (f_X7_all S0).bind fun r_3 => (f_X7_within x3 1 r_3).bind fun r_4 => if r_4 = 0 then (some ((-1), S0)) else ((f_X7_laysAllBest S0).bind fun r_5 => (f_X7_cell x1 x2).bind fun r_6 => (f_X7_bestOf r_5 r_6 x3).bind fun r_7 => if 1000000000 ≤ r_7 then (some ((-2), r_5)) else (some (r_7, r_5)))
set_option maxHeartbeats 4000000 in
set_option maxRecDepth 100000 in
theorem p_X7_best_J31 {w0 : va_W} (C : zC p R s m args meth c cX7_best 5 RX7 wsX7_best D T 4 102 0 0) (hr : meth.sig.returnType = some .int) (S0 : Nat → Nat → Int32) (x1 : Int32) (x2 : Int32) (x3 : Int32)  (hD : va_D (zA w0) (wX7 T a0 S0)) {ex : Int32 × (Nat → Nat → Int32)} (h : f_X7_best_J31 S0 x1 x2 x3 = some ex) : zt p l e R s m args below meth c 5 (zA w0) D 0 0 (MQ below (zQJ D w0 ex.1 (wX7 T a0 ex.2)) args s 0 0 (zA w0)) (wX7 T a0 S0) [(0, .ref (a0 99)), (1, .int x1), (2, .int x2), (3, .int x3)] 31 [] := by
  unfold f_X7_best_J31 at h
  refine z_iload_n C dX7_best_31 rfl 3 rfl 32 rfl ?_
  refine z_iconst C 1 dX7_best_32 (by decide) 33 rfl ?_
  refine z_aload_n C dX7_best_33 rfl 0 rfl 34 rfl ?_
  refine z_callR C (wX7 T a0 S0) (fun v h => c_X7_all l D T a0  S0  v h) ⟨rfl, rfl⟩ (z_cwV C 0 gX7_best_X7_all rfl rfl dd_X7_all ⟨(Nat.le_of_ble_eq_true rfl), (Nat.le_of_ble_eq_true rfl)⟩) (hD.zaddr rfl) [0, 1, 2, 3, 4, 5, 6, 7, 8, 9, 10, 11, 12, 13, 14, 15, 16, 17] rfl rfl (fun _ => ⟨a0 99, [], 6, 0, _, _, rfl, rfl, rfl, rfl, rfl⟩) (fun h => absurd rfl h) rfl (Nat.le_of_ble_eq_true rfl) dX7_best_34 37 rfl h (fun r_3 h => ?_)
  refine z_callR C ([]) (fun v h => c_X7_within l D T    x3 1 r_3 v h) ⟨rfl, rfl⟩ (z_cwS C 3 gX7_best_X7_within rfl dd_X7_within ⟨(Nat.le_of_ble_eq_true rfl), (Nat.le_of_ble_eq_true rfl)⟩) (hD.zaddr rfl) [] rfl rfl (fun h => absurd h (by decide)) (fun _ => rfl) rfl (Nat.le_of_ble_eq_true rfl) dX7_best_37 40 rfl h (fun r_4 h => ?_)
  refine z_if_ne C 45 dX7_best_40 (by decide) 43 rfl h (fun h => ?_) (fun h => ?_)
  · refine z_aload_n C dX7_best_45 rfl 0 rfl 46 rfl ?_
    refine z_callV C (wX7 T a0 S0) (([] : va_W)) (fun z => wX7 T a0 z) (fun z => wX7 T a0 z) (fun z h => c_X7_laysAllBest l D T a0  S0  z h) ⟨rfl, rfl⟩ (z_cwV C 0 gX7_best_X7_laysAllBest rfl rfl dd_X7_laysAllBest ⟨(Nat.le_of_ble_eq_true rfl), (Nat.le_of_ble_eq_true rfl)⟩) (hD.zaddr rfl) [0, 1, 2, 3, 4, 5, 6, 7, 8, 9, 10, 11, 12, 13, 14, 15, 16, 17] [] [0, 1, 2, 3, 4, 5, 6, 7, 8, 9, 10, 11, 12, 13, 14, 15, 16, 17] rfl rfl rfl (by decide) (fun _ => rfl) (fun _ => ⟨a0 99, [], 6, 0, _, _, rfl, rfl, rfl, rfl, rfl⟩) (fun h => absurd rfl h) rfl (Nat.le_of_ble_eq_true rfl) dX7_best_46 49 rfl h (fun r_5 h => ?_)
    refine z_aload_n C dX7_best_49 rfl 0 rfl 50 rfl ?_
    refine z_iload_n C dX7_best_50 rfl 1 rfl 51 rfl ?_
    refine z_iload_n C dX7_best_51 rfl 2 rfl 52 rfl ?_
    refine z_callR C ([]) (fun v h => c_X7_cell l D T    x1 x2 v h) ⟨rfl, rfl⟩ (z_cwS C 2 gX7_best_X7_cell rfl dd_X7_cell ⟨(Nat.le_of_ble_eq_true rfl), (Nat.le_of_ble_eq_true rfl)⟩) (hD.zaddr rfl) [] rfl rfl (fun h => absurd h (by decide)) (fun _ => rfl) rfl (Nat.le_of_ble_eq_true rfl) dX7_best_52 55 rfl h (fun r_6 h => ?_)
    refine z_iload_n C dX7_best_55 rfl 3 rfl 56 rfl ?_
    refine z_callR C (wX7 T a0 r_5) (fun v h => c_X7_bestOf l D T a0  r_5 r_6 x3 v h) ⟨rfl, rfl⟩ (z_cwV C 2 gX7_best_X7_bestOf rfl rfl dd_X7_bestOf ⟨(Nat.le_of_ble_eq_true rfl), (Nat.le_of_ble_eq_true rfl)⟩) (hD.zaddr rfl) [0, 1, 2, 3, 4, 5, 6, 7, 8, 9, 10, 11, 12, 13, 14, 15, 16, 17] rfl rfl (fun _ => ⟨a0 99, [.int r_6, .int x3], 6, 0, _, _, rfl, rfl, rfl, rfl, rfl⟩) (fun h => absurd rfl h) rfl (Nat.le_of_ble_eq_true rfl) dX7_best_56 59 rfl h (fun r_7 h => ?_)
    refine z_istore C [(0, .ref (a0 99)), (1, .int x1), (2, .int x2), (3, .int x3), (4, .int r_7)] dX7_best_59 (Nat.le_of_ble_eq_true rfl) [1, 2, 3, 4, 0] rfl 61 rfl ?_
    refine z_iload C dX7_best_61 4 rfl 63 rfl ?_
    refine z_ldc C 1000000000 (List.mem_of_getElem? (i := 3) rfl) dX7_best_63 65 rfl ?_
    refine z_icmp_ge C 73 dX7_best_65 (by decide) 68 rfl h (fun h => ?_) (fun h => ?_)
    · refine z_bipush C (-2) dX7_best_73 (by decide) 75 rfl ?_
      exact z_iretW (x := r_5) (ex := ex) (fun z => wX7 T a0 z) C hr dX7_best_75 h rfl
    · refine z_iload C dX7_best_68 4 rfl 70 rfl ?_
      refine z_goto C 75 dX7_best_70 (by decide) ?_
      exact z_iretW (x := r_5) (ex := ex) (fun z => wX7 T a0 z) C hr dX7_best_75 h rfl
  · refine z_iconst C (-1) dX7_best_43 (by decide) 44 rfl ?_
    exact z_iretW (x := S0) (ex := ex) (fun z => wX7 T a0 z) C hr dX7_best_44 h rfl

def f_X7_best (S0 : Nat → Nat → Int32) (v1 : Int32) (v2 : Int32) (v3 : Int32) : Option (Int32 × (Nat → Nat → Int32)) := zlet (zst S0 0 0 0) fun S0_1 => (f_X7_isAny S0_1 v1 v2).bind fun r_2 => if r_2 = 0 then (some ((-1), S0_1)) else (if v1 ≤ 0 then (f_X7_best_J31 S0_1 v1 v2 v3) else ((f_X7_cell v1 v2).bind fun r_8 => zix r_8 240 fun _ => if (S0_1 10 (Int32.toNatClampNeg r_8)) = 0 then (f_X7_best_J31 S0_1 v1 v2 v3) else (some ((-1), S0_1))))
theorem dd_X7_best : RX7 ≠ "java/lang/invoke/MethodHandle" ∧ RX7 ≠ "java/lang/invoke/VarHandle" ∧ (parseMethodDescriptor yX7_best.desc).map (fun d => d.parameters.length) = some 3 := by decide +kernel
set_option maxHeartbeats 4000000 in
set_option maxRecDepth 100000 in
theorem c_X7_best (l : Launch) (D : va_G) (T : Nat → ClassId) (a0 : Nat → Nat) (S0 : Nat → Nat → Int32) (v1 : Int32) (v2 : Int32) (v3 : Int32) (ex : Int32 × (Nat → Nat → Int32)) (h : f_X7_best S0 v1 v2 v3 = some ex) : zWI l yX7_best wsX7_best ({ frames := 4, cells := 0, slots := 0, locals := 102 } : Room) D T [.ref (a0 99), .int v1, .int v2, .int v3] (wX7 T a0 S0) ex.1 (wX7 T a0 ex.2) := by
  refine z_begin (cc := cX7_best) (nL := 5) (own := RX7) (fr := 4) (lc := 102) (ret := some .int) (by decide) rfl (Nat.le_of_ble_eq_true rfl) (zA (wX7 T a0 S0)) rfl [(0, .ref (a0 99)), (1, .int v1), (2, .int v2), (3, .int v3)] rfl ⟨rfl, rfl⟩ rfl ?_
  intro p e s m args below meth c C hr hD
  have hD := hD.zself
  unfold f_X7_best at h
  refine z_aload_n C dX7_best_0 rfl 0 rfl 1 rfl ?_
  refine z_iconst C 0 dX7_best_1 (by decide) 2 rfl ?_
  refine z_put (ty := .int) C (fun z => wX7 T a0 z) S0 (hD.zaddr rfl) (in_X7_best_X7) tyX7 tyX7_ok nmX7 0 rfl rfl 0 (by decide) (List.mem_of_getElem? (i := 1) rfl) rfl rfl (by decide +kernel) rfl rfl (Nat.le_of_ble_eq_true rfl) rfl dX7_best_2 5 rfl h (fun S0_1 h => ?_)
  refine z_aload_n C dX7_best_5 rfl 0 rfl 6 rfl ?_
  refine z_iload_n C dX7_best_6 rfl 1 rfl 7 rfl ?_
  refine z_iload_n C dX7_best_7 rfl 2 rfl 8 rfl ?_
  refine z_callR C (wX7 T a0 S0_1) (fun v h => c_X7_isAny l D T a0  S0_1 v1 v2 v h) ⟨rfl, rfl⟩ (z_cwV C 2 gX7_best_X7_isAny rfl rfl dd_X7_isAny ⟨(Nat.le_of_ble_eq_true rfl), (Nat.le_of_ble_eq_true rfl)⟩) (hD.zaddr rfl) [0, 1, 2, 3, 4, 5, 6, 7, 8, 9, 10, 11, 12, 13, 14, 15, 16, 17] rfl rfl (fun _ => ⟨a0 99, [.int v1, .int v2], 6, 0, _, _, rfl, rfl, rfl, rfl, rfl⟩) (fun h => absurd rfl h) rfl (Nat.le_of_ble_eq_true rfl) dX7_best_8 11 rfl h (fun r_2 h => ?_)
  refine z_if_eq C 43 dX7_best_11 (by decide) 14 rfl h (fun h => ?_) (fun h => ?_)
  · refine z_iconst C (-1) dX7_best_43 (by decide) 44 rfl ?_
    exact z_iretW (x := S0_1) (ex := ex) (fun z => wX7 T a0 z) C hr dX7_best_44 h rfl
  · refine z_iload_n C dX7_best_14 rfl 1 rfl 15 rfl ?_
    refine z_if_le C 31 dX7_best_15 (by decide) 18 rfl h (fun h => ?_) (fun h => ?_)
    · exact z_locals (ks := [0, 1, 2, 3]) rfl (p_X7_best_J31 C hr S0_1 v1 v2 v3 (hD.zaddr rfl) h)
    · refine z_aload_n C dX7_best_18 rfl 0 rfl 19 rfl ?_
      refine z_get C (in_X7_best_X7) 0 rfl rfl 10 (by decide) (List.mem_of_getElem? (i := 2) rfl) rfl rfl dX7_best_19 22 rfl ?_
      refine z_iload_n C dX7_best_22 rfl 1 rfl 23 rfl ?_
      refine z_iload_n C dX7_best_23 rfl 2 rfl 24 rfl ?_
      refine z_callR C ([]) (fun v h => c_X7_cell l D T    v1 v2 v h) ⟨rfl, rfl⟩ (z_cwS C 2 gX7_best_X7_cell rfl dd_X7_cell ⟨(Nat.le_of_ble_eq_true rfl), (Nat.le_of_ble_eq_true rfl)⟩) (hD.zaddr rfl) [] rfl rfl (fun h => absurd h (by decide)) (fun _ => rfl) rfl (Nat.le_of_ble_eq_true rfl) dX7_best_24 27 rfl h (fun r_8 h => ?_)
      refine z_zald C 4 rfl rfl dX7_best_27 28 rfl h (fun h => ?_)
      refine z_if_ne C 43 dX7_best_28 (by decide) 31 rfl h (fun h => ?_) (fun h => ?_)
      · refine z_iconst C (-1) dX7_best_43 (by decide) 44 rfl ?_
        exact z_iretW (x := S0_1) (ex := ex) (fun z => wX7 T a0 z) C hr dX7_best_44 h rfl
      · exact z_locals (ks := [0, 1, 2, 3]) rfl (p_X7_best_J31 C hr S0_1 v1 v2 v3 (hD.zaddr rfl) h)

end
/-! StreamTreeModel.rockMany ()I -/
section
variable {p : Program} {l : Launch} {e : Env} {R : Room} {s : State} {m : MethodId} {args : Array Value} {below : List Frame} {meth : Method} {c : Code} {Q : State → Prop} {A : Nat → Prop} {D : va_G} {T : Nat → ClassId} {a0 : Nat → Nat}
theorem in_X7_rockMany_X7 : ∀ w ∈ u_ws RX7 TX7 35, w ∈ wsX7_rockMany := fun _ h => (List.mem_cons_of_mem _ (List.mem_append_right _ h))
def f_X7_rockMany_J26 (rec : (Int32 × Int32) → Option (Int32)) (S0 : Nat → Nat → Int32) (x2 : Int32) (k0 : Int32) (k1 : Int32) : Option (Int32) := zlet (k0 + k1) fun u_1 => rec (u_1, (x2 + 1))
set_option maxHeartbeats 4000000 in
set_option maxRecDepth 100000 in
theorem p_X7_rockMany_J26 (C : zC p R s m args meth c cX7_rockMany 3 RX7 wsX7_rockMany D T 0 0 0 0) (S0 : Nat → Nat → Int32)  (x2 : Int32) (k0 : Int32) (k1 : Int32) (hD : va_D (fun _ => True) (wX7 T a0 S0)) {rec : (Int32 × Int32) → Option (Int32)} (hrec : ∀ (c0 : Int32) (c1 : Int32) (b : Int32), rec (c0, c1) = some b → (zt p l e R s m args below meth c 3 A D 0 0 Q (wX7 T a0 S0) [(1, .int b)] 34 []) → zt p l e R s m args below meth c 3 A D 0 0 Q (wX7 T a0 S0) [(0, .ref (a0 99)), (1, .int c0), (2, .int c1)] 4 []) {b : Int32} (K : zt p l e R s m args below meth c 3 A D 0 0 Q (wX7 T a0 S0) [(1, .int b)] 34 []) (h : f_X7_rockMany_J26 rec S0 x2 k0 k1 = some b) : zt p l e R s m args below meth c 3 A D 0 0 Q (wX7 T a0 S0) [(0, .ref (a0 99)), (2, .int x2)] 26 [.int k1, .int k0] := by
  unfold f_X7_rockMany_J26 at h
  refine z_iadd C dX7_rockMany_26 27 rfl ?_
  refine z_top h (fun u_1 h => ?_)
  refine z_istore_n C [(0, .ref (a0 99)), (1, .int u_1), (2, .int x2)] dX7_rockMany_27 rfl (Nat.le_of_ble_eq_true rfl) [1, 0, 2] rfl 28 rfl ?_
  refine z_iinc C (x2 + 1) [(0, .ref (a0 99)), (1, .int u_1), (2, .int (x2 + 1))] dX7_rockMany_28 2 rfl rfl (Nat.le_of_ble_eq_true rfl) [1, 2, 0] rfl 31 rfl ?_
  refine z_goto C 4 dX7_rockMany_31 (by decide) ?_
  exact z_locals (ks := [0, 1, 2]) rfl (hrec _ _ _ h K)

def f_X7_rockMany_L4b (S0 : Nat → Nat → Int32)  (rec : (Int32 × Int32) → Option (Int32)) (a : Int32 × Int32) : Option (Int32) := if 240 ≤ a.2 then (some a.1) else (zix a.2 240 fun _ => if (S0 10 (Int32.toNatClampNeg a.2)) = 0 then (f_X7_rockMany_J26 rec S0 a.2 a.1 0) else (f_X7_rockMany_J26 rec S0 a.2 a.1 1))
def f_X7_rockMany_L4 (S0 : Nat → Nat → Int32)  : Nat → (Int32 × Int32) → Option (Int32) := zloop (fun rec a => f_X7_rockMany_L4b S0 rec a)
set_option maxHeartbeats 4000000 in
set_option maxRecDepth 100000 in
theorem p_X7_rockMany_L4 (C : zC p R s m args meth c cX7_rockMany 3 RX7 wsX7_rockMany D T 0 0 0 0) (S0 : Nat → Nat → Int32)  (hD : va_D (fun _ => True) (wX7 T a0 S0)) : ∀ (n : Nat) (c0 : Int32) (c1 : Int32) (b : Int32), f_X7_rockMany_L4 S0 n (c0, c1) = some b → (zt p l e R s m args below meth c 3 A D 0 0 Q (wX7 T a0 S0) [(1, .int b)] 34 []) → zt p l e R s m args below meth c 3 A D 0 0 Q (wX7 T a0 S0) [(0, .ref (a0 99)), (1, .int c0), (2, .int c1)] 4 [] := by
  intro n c0 c1 b h K
  refine zloop_ind (P := fun a b => (zt p l e R s m args below meth c 3 A D 0 0 Q (wX7 T a0 S0) [(1, .int b)] 34 []) → zt p l e R s m args below meth c 3 A D 0 0 Q (wX7 T a0 S0) [(0, .ref (a0 99)), (1, .int a.1), (2, .int a.2)] 4 []) ?_ n (c0, c1) b h K
  clear h K b c0 c1
  intro rec hrec a b h K
  have hrec : ∀ (c0 : Int32) (c1 : Int32) (b : Int32), rec (c0, c1) = some b → (zt p l e R s m args below meth c 3 A D 0 0 Q (wX7 T a0 S0) [(1, .int b)] 34 []) → zt p l e R s m args below meth c 3 A D 0 0 Q (wX7 T a0 S0) [(0, .ref (a0 99)), (1, .int c0), (2, .int c1)] 4 [] := fun c0 c1 b h K => hrec (c0, c1) b h K
  unfold f_X7_rockMany_L4b at h
  refine z_iload_n C dX7_rockMany_4 rfl 2 rfl 5 rfl ?_
  refine z_sipush C 240 dX7_rockMany_5 (by decide) 8 rfl ?_
  refine z_icmp_ge C 34 dX7_rockMany_8 (by decide) 11 rfl h (fun h => ?_) (fun h => ?_)
  · refine z_locals (ks := [1]) (lv' := [(1, .int a.1)]) rfl ?_
    exact zex1 (F := (fun e0 => zt p l e R s m args below meth c 3 A D 0 0 Q (wX7 T a0 S0) [(1, .int e0)] 34 [])) h K
  · refine z_iload_n C dX7_rockMany_11 rfl 1 rfl 12 rfl ?_
    refine z_aload_n C dX7_rockMany_12 rfl 0 rfl 13 rfl ?_
    refine z_get C (in_X7_rockMany_X7) 0 rfl rfl 10 (by decide) (List.mem_of_getElem? (i := 1) rfl) rfl rfl dX7_rockMany_13 16 rfl ?_
    refine z_iload_n C dX7_rockMany_16 rfl 2 rfl 17 rfl ?_
    refine z_zald C 4 rfl rfl dX7_rockMany_17 18 rfl h (fun h => ?_)
    refine z_if_eq C 25 dX7_rockMany_18 (by decide) 21 rfl h (fun h => ?_) (fun h => ?_)
    · refine z_iconst C 0 dX7_rockMany_25 (by decide) 26 rfl ?_
      exact z_locals (ks := [0, 2]) rfl (p_X7_rockMany_J26 C S0 a.2 a.1 0 (hD.zaddr rfl) hrec K h)
    · refine z_iconst C 1 dX7_rockMany_21 (by decide) 22 rfl ?_
      refine z_goto C 26 dX7_rockMany_22 (by decide) ?_
      exact z_locals (ks := [0, 2]) rfl (p_X7_rockMany_J26 C S0 a.2 a.1 1 (hD.zaddr rfl) hrec K h)

def f_X7_rockMany (S0 : Nat → Nat → Int32)  : Option (Int32) := (f_X7_rockMany_L4 S0 zfuel (0, 0)).bind fun y_2 => some y_2
theorem dd_X7_rockMany : RX7 ≠ "java/lang/invoke/MethodHandle" ∧ RX7 ≠ "java/lang/invoke/VarHandle" ∧ (parseMethodDescriptor yX7_rockMany.desc).map (fun d => d.parameters.length) = some 0 := by decide +kernel
set_option maxHeartbeats 4000000 in
set_option maxRecDepth 100000 in
theorem c_X7_rockMany (l : Launch) (D : va_G) (T : Nat → ClassId) (a0 : Nat → Nat) (S0 : Nat → Nat → Int32)  (ex : Int32) (h : f_X7_rockMany S0 = some ex) : zRI l yX7_rockMany wsX7_rockMany ({ frames := 0, cells := 0, slots := 0, locals := 0 } : Room) D T [.ref (a0 99)] (wX7 T a0 S0) ex := by
  refine z_begin (cc := cX7_rockMany) (nL := 3) (own := RX7) (fr := 0) (lc := 0) (ret := some .int) (by decide) rfl (Nat.le_of_ble_eq_true rfl) (fun _ => False) rfl [(0, .ref (a0 99))] rfl ⟨rfl, rfl⟩ rfl ?_
  intro p e s m args below meth c C hr hD
  unfold f_X7_rockMany at h
  refine z_iconst C 0 dX7_rockMany_0 (by decide) 1 rfl ?_
  refine z_istore_n C [(0, .ref (a0 99)), (1, .int 0)] dX7_rockMany_1 rfl (Nat.le_of_ble_eq_true rfl) [1, 0] rfl 2 rfl ?_
  refine z_iconst C 0 dX7_rockMany_2 (by decide) 3 rfl ?_
  refine z_istore_n C [(0, .ref (a0 99)), (1, .int 0), (2, .int 0)] dX7_rockMany_3 rfl (Nat.le_of_ble_eq_true rfl) [1, 2, 0] rfl 4 rfl ?_
  obtain ⟨y_2, hl_y_2, h⟩ := Option.bind_eq_some_iff.mp h
  refine z_locals (ks := [0, 1, 2]) rfl (p_X7_rockMany_L4 C S0  (hD.zaddr rfl) _ _ _ _ hl_y_2 ?_)
  refine z_iload_n C dX7_rockMany_34 rfl 0 rfl 35 rfl ?_
  exact z_iretR C hr dX7_rockMany_35 h

end
/-! StreamTreeModel.count (I)I -/
section
variable {p : Program} {l : Launch} {e : Env} {R : Room} {s : State} {m : MethodId} {args : Array Value} {below : List Frame} {meth : Method} {c : Code} {Q : State → Prop} {A : Nat → Prop} {D : va_G} {T : Nat → ClassId} {a0 : Nat → Nat}
theorem in_X7_count_X7 : ∀ w ∈ u_ws RX7 TX7 35, w ∈ wsX7_count := fun _ h => (List.mem_cons_of_mem _ (List.mem_append_right _ h))
def f_X7_count_L9b (S0 : Nat → Nat → Int32) (v1 : Int32) (rec : (Int32 × Int32) → Option (Int32)) (a : Int32 × Int32) : Option (Int32) := if (S0 9 0) ≤ a.2 then (some a.1) else (zix a.2 8 fun _ => zlet (a.1 + (S0 8 (Int32.toNatClampNeg a.2))) fun u_2 => rec (u_2, (a.2 + 1)))
def f_X7_count_L9 (S0 : Nat → Nat → Int32) (v1 : Int32) : Nat → (Int32 × Int32) → Option (Int32) := zloop (fun rec a => f_X7_count_L9b S0 v1 rec a)
set_option maxHeartbeats 4000000 in
set_option maxRecDepth 100000 in
theorem p_X7_count_L9 (C : zC p R s m args meth c cX7_count 5 RX7 wsX7_count D T 6 138 0 0) (S0 : Nat → Nat → Int32) (v1 : Int32) (hD : va_D A (wX7 T a0 S0)) : ∀ (n : Nat) (c0 : Int32) (c1 : Int32) (b : Int32), f_X7_count_L9 S0 v1 n (c0, c1) = some b → (zt p l e R s m args below meth c 5 A D 0 0 Q (wX7 T a0 S0) [(0, .ref (a0 99)), (1, .int v1), (2, .int b)] 32 []) → zt p l e R s m args below meth c 5 A D 0 0 Q (wX7 T a0 S0) [(0, .ref (a0 99)), (1, .int v1), (2, .int c0), (3, .int c1)] 9 [] := by
  intro n c0 c1 b h K
  refine zloop_ind (P := fun a b => (zt p l e R s m args below meth c 5 A D 0 0 Q (wX7 T a0 S0) [(0, .ref (a0 99)), (1, .int v1), (2, .int b)] 32 []) → zt p l e R s m args below meth c 5 A D 0 0 Q (wX7 T a0 S0) [(0, .ref (a0 99)), (1, .int v1), (2, .int a.1), (3, .int a.2)] 9 []) ?_ n (c0, c1) b h K
  clear h K b c0 c1
  intro rec hrec a b h K
  have hrec : ∀ (c0 : Int32) (c1 : Int32) (b : Int32), rec (c0, c1) = some b → (zt p l e R s m args below meth c 5 A D 0 0 Q (wX7 T a0 S0) [(0, .ref (a0 99)), (1, .int v1), (2, .int b)] 32 []) → zt p l e R s m args below meth c 5 A D 0 0 Q (wX7 T a0 S0) [(0, .ref (a0 99)), (1, .int v1), (2, .int c0), (3, .int c1)] 9 [] := fun c0 c1 b h K => hrec (c0, c1) b h K
  unfold f_X7_count_L9b at h
  refine z_iload_n C dX7_count_9 rfl 3 rfl 10 rfl ?_
  refine z_aload_n C dX7_count_10 rfl 0 rfl 11 rfl ?_
  refine z_get C (in_X7_count_X7) 0 rfl rfl 9 (by decide) (List.mem_of_getElem? (i := 2) rfl) rfl rfl dX7_count_11 14 rfl ?_
  refine z_icmp_ge C 32 dX7_count_14 (by decide) 17 rfl h (fun h => ?_) (fun h => ?_)
  · refine z_locals (ks := [0, 1, 2]) (lv' := [(0, .ref (a0 99)), (1, .int v1), (2, .int a.1)]) rfl ?_
    exact zex1 (F := (fun e0 => zt p l e R s m args below meth c 5 A D 0 0 Q (wX7 T a0 S0) [(0, .ref (a0 99)), (1, .int v1), (2, .int e0)] 32 [])) h K
  · refine z_iload_n C dX7_count_17 rfl 2 rfl 18 rfl ?_
    refine z_aload_n C dX7_count_18 rfl 0 rfl 19 rfl ?_
    refine z_get C (in_X7_count_X7) 0 rfl rfl 8 (by decide) (List.mem_of_getElem? (i := 3) rfl) rfl rfl dX7_count_19 22 rfl ?_
    refine z_iload_n C dX7_count_22 rfl 3 rfl 23 rfl ?_
    refine z_iald C 3 rfl rfl dX7_count_23 24 rfl h (fun h => ?_)
    refine z_iadd C dX7_count_24 25 rfl ?_
    refine z_top h (fun u_2 h => ?_)
    refine z_istore_n C [(0, .ref (a0 99)), (1, .int v1), (2, .int u_2), (3, .int a.2)] dX7_count_25 rfl (Nat.le_of_ble_eq_true rfl) [1, 2, 0, 3] rfl 26 rfl ?_
    refine z_iinc C (a.2 + 1) [(0, .ref (a0 99)), (1, .int v1), (2, .int u_2), (3, .int (a.2 + 1))] dX7_count_26 3 rfl rfl (Nat.le_of_ble_eq_true rfl) [1, 2, 3, 0] rfl 29 rfl ?_
    refine z_goto C 9 dX7_count_29 (by decide) ?_
    exact z_locals (ks := [0, 1, 2, 3]) rfl (hrec _ _ _ h K)

def f_X7_count (S0 : Nat → Nat → Int32) (v1 : Int32) : Option (Int32 × (Nat → Nat → Int32)) := zlet (zst S0 0 0 0) fun S0_1 => (f_X7_count_L9 S0_1 v1 zfuel (0, 0)).bind fun y_3 => if v1 = 0 then (some ((S0_1 1 0), S0_1)) else (if v1 = 1 then (some ((S0_1 2 0), S0_1)) else (if v1 = 2 then (some ((S0_1 9 0), S0_1)) else (if v1 = 3 then ((f_X7_rockMany S0_1).bind fun r_4 => some (r_4, S0_1)) else (if v1 = 4 then (some ((S0_1 3 0), S0_1)) else (if v1 = 5 then (some ((S0_1 4 0), S0_1)) else (if v1 = 6 then (some ((S0_1 5 0), S0_1)) else (if v1 = 7 then (some (y_3, S0_1)) else (if v1 = 8 then (some ((S0_1 12 0), S0_1)) else (if v1 = 9 then ((f_X7_allAlone S0_1).bind fun r_5 => (f_X7_leastInk r_5.2).bind fun r_6 => if r_5.1 = (-2) then (some ((-2), r_6.2)) else (if r_6.1 = (-2) then (some ((-2), r_6.2)) else (some ((r_5.1 - r_6.1), r_6.2)))) else (some ((-1), S0_1)))))))))))
theorem dd_X7_count : RX7 ≠ "java/lang/invoke/MethodHandle" ∧ RX7 ≠ "java/lang/invoke/VarHandle" ∧ (parseMethodDescriptor yX7_count.desc).map (fun d => d.parameters.length) = some 1 := by decide +kernel
set_option maxHeartbeats 4000000 in
set_option maxRecDepth 100000 in
theorem c_X7_count (l : Launch) (D : va_G) (T : Nat → ClassId) (a0 : Nat → Nat) (S0 : Nat → Nat → Int32) (v1 : Int32) (ex : Int32 × (Nat → Nat → Int32)) (h : f_X7_count S0 v1 = some ex) : zWI l yX7_count wsX7_count ({ frames := 6, cells := 0, slots := 0, locals := 138 } : Room) D T [.ref (a0 99), .int v1] (wX7 T a0 S0) ex.1 (wX7 T a0 ex.2) := by
  refine z_begin (cc := cX7_count) (nL := 5) (own := RX7) (fr := 6) (lc := 138) (ret := some .int) (by decide) rfl (Nat.le_of_ble_eq_true rfl) (zA (wX7 T a0 S0)) rfl [(0, .ref (a0 99)), (1, .int v1)] rfl ⟨rfl, rfl⟩ rfl ?_
  intro p e s m args below meth c C hr hD
  have hD := hD.zself
  unfold f_X7_count at h
  refine z_aload_n C dX7_count_0 rfl 0 rfl 1 rfl ?_
  refine z_iconst C 0 dX7_count_1 (by decide) 2 rfl ?_
  refine z_put (ty := .int) C (fun z => wX7 T a0 z) S0 (hD.zaddr rfl) (in_X7_count_X7) tyX7 tyX7_ok nmX7 0 rfl rfl 0 (by decide) (List.mem_of_getElem? (i := 1) rfl) rfl rfl (by decide +kernel) rfl rfl (Nat.le_of_ble_eq_true rfl) rfl dX7_count_2 5 rfl h (fun S0_1 h => ?_)
  refine z_iconst C 0 dX7_count_5 (by decide) 6 rfl ?_
  refine z_istore_n C [(0, .ref (a0 99)), (1, .int v1), (2, .int 0)] dX7_count_6 rfl (Nat.le_of_ble_eq_true rfl) [1, 2, 0] rfl 7 rfl ?_
  refine z_iconst C 0 dX7_count_7 (by decide) 8 rfl ?_
  refine z_istore_n C [(0, .ref (a0 99)), (1, .int v1), (2, .int 0), (3, .int 0)] dX7_count_8 rfl (Nat.le_of_ble_eq_true rfl) [1, 2, 3, 0] rfl 9 rfl ?_
  obtain ⟨y_3, hl_y_3, h⟩ := Option.bind_eq_some_iff.mp h
  refine z_locals (ks := [0, 1, 2, 3]) rfl (p_X7_count_L9 C S0_1 v1 (hD.zaddr rfl) _ _ _ _ hl_y_3 ?_)
  refine z_iload_n C dX7_count_32 rfl 1 rfl 33 rfl ?_
  refine z_case h (fun hx h => ?_) (fun hx_0 h => ?_)
  · refine z_tableIn (off := 55) C 88 dX7_count_33 hx (by decide) (by decide) (by decide) (by decide) ?_
    refine z_aload_n C dX7_count_88 rfl 0 rfl 89 rfl ?_
    refine z_get C (in_X7_count_X7) 0 rfl rfl 1 (by decide) (List.mem_of_getElem? (i := 4) rfl) rfl rfl dX7_count_89 92 rfl ?_
    exact z_iretW (x := S0_1) (ex := ex) (fun z => wX7 T a0 z) C hr dX7_count_92 h rfl
  · refine z_case h (fun hx h => ?_) (fun hx_1 h => ?_)
    · refine z_tableIn (off := 60) C 93 dX7_count_33 hx (by decide) (by decide) (by decide) (by decide) ?_
      refine z_aload_n C dX7_count_93 rfl 0 rfl 94 rfl ?_
      refine z_get C (in_X7_count_X7) 0 rfl rfl 2 (by decide) (List.mem_of_getElem? (i := 5) rfl) rfl rfl dX7_count_94 97 rfl ?_
      exact z_iretW (x := S0_1) (ex := ex) (fun z => wX7 T a0 z) C hr dX7_count_97 h rfl
    · refine z_case h (fun hx h => ?_) (fun hx_2 h => ?_)
      · refine z_tableIn (off := 65) C 98 dX7_count_33 hx (by decide) (by decide) (by decide) (by decide) ?_
        refine z_aload_n C dX7_count_98 rfl 0 rfl 99 rfl ?_
        refine z_get C (in_X7_count_X7) 0 rfl rfl 9 (by decide) (List.mem_of_getElem? (i := 2) rfl) rfl rfl dX7_count_99 102 rfl ?_
        exact z_iretW (x := S0_1) (ex := ex) (fun z => wX7 T a0 z) C hr dX7_count_102 h rfl
      · refine z_case h (fun hx h => ?_) (fun hx_3 h => ?_)
        · refine z_tableIn (off := 70) C 103 dX7_count_33 hx (by decide) (by decide) (by decide) (by decide) ?_
          refine z_aload_n C dX7_count_103 rfl 0 rfl 104 rfl ?_
          refine z_callR C (wX7 T a0 S0_1) (fun v h => c_X7_rockMany l D T a0  S0_1  v h) ⟨rfl, rfl⟩ (z_cwV C 0 gX7_count_X7_rockMany rfl rfl dd_X7_rockMany ⟨(Nat.le_of_ble_eq_true rfl), (Nat.le_of_ble_eq_true rfl)⟩) (hD.zaddr rfl) [0, 1, 2, 3, 4, 5, 6, 7, 8, 9, 10, 11, 12, 13, 14, 15, 16, 17] rfl rfl (fun _ => ⟨a0 99, [], 6, 0, _, _, rfl, rfl, rfl, rfl, rfl⟩) (fun h => absurd rfl h) rfl (Nat.le_of_ble_eq_true rfl) dX7_count_104 107 rfl h (fun r_4 h => ?_)
          exact z_iretW (x := S0_1) (ex := ex) (fun z => wX7 T a0 z) C hr dX7_count_107 h rfl
        · refine z_case h (fun hx h => ?_) (fun hx_4 h => ?_)
          · refine z_tableIn (off := 75) C 108 dX7_count_33 hx (by decide) (by decide) (by decide) (by decide) ?_
            refine z_aload_n C dX7_count_108 rfl 0 rfl 109 rfl ?_
            refine z_get C (in_X7_count_X7) 0 rfl rfl 3 (by decide) (List.mem_of_getElem? (i := 6) rfl) rfl rfl dX7_count_109 112 rfl ?_
            exact z_iretW (x := S0_1) (ex := ex) (fun z => wX7 T a0 z) C hr dX7_count_112 h rfl
          · refine z_case h (fun hx h => ?_) (fun hx_5 h => ?_)
            · refine z_tableIn (off := 80) C 113 dX7_count_33 hx (by decide) (by decide) (by decide) (by decide) ?_
              refine z_aload_n C dX7_count_113 rfl 0 rfl 114 rfl ?_
              refine z_get C (in_X7_count_X7) 0 rfl rfl 4 (by decide) (List.mem_of_getElem? (i := 7) rfl) rfl rfl dX7_count_114 117 rfl ?_
              exact z_iretW (x := S0_1) (ex := ex) (fun z => wX7 T a0 z) C hr dX7_count_117 h rfl
            · refine z_case h (fun hx h => ?_) (fun hx_6 h => ?_)
              · refine z_tableIn (off := 85) C 118 dX7_count_33 hx (by decide) (by decide) (by decide) (by decide) ?_
                refine z_aload_n C dX7_count_118 rfl 0 rfl 119 rfl ?_
                refine z_get C (in_X7_count_X7) 0 rfl rfl 5 (by decide) (List.mem_of_getElem? (i := 8) rfl) rfl rfl dX7_count_119 122 rfl ?_
                exact z_iretW (x := S0_1) (ex := ex) (fun z => wX7 T a0 z) C hr dX7_count_122 h rfl
              · refine z_case h (fun hx h => ?_) (fun hx_7 h => ?_)
                · refine z_tableIn (off := 90) C 123 dX7_count_33 hx (by decide) (by decide) (by decide) (by decide) ?_
                  refine z_iload_n C dX7_count_123 rfl 2 rfl 124 rfl ?_
                  exact z_iretW (x := S0_1) (ex := ex) (fun z => wX7 T a0 z) C hr dX7_count_124 h rfl
                · refine z_case h (fun hx h => ?_) (fun hx_8 h => ?_)
                  · refine z_tableIn (off := 92) C 125 dX7_count_33 hx (by decide) (by decide) (by decide) (by decide) ?_
                    refine z_aload_n C dX7_count_125 rfl 0 rfl 126 rfl ?_
                    refine z_get C (in_X7_count_X7) 0 rfl rfl 12 (by decide) (List.mem_of_getElem? (i := 9) rfl) rfl rfl dX7_count_126 129 rfl ?_
                    exact z_iretW (x := S0_1) (ex := ex) (fun z => wX7 T a0 z) C hr dX7_count_129 h rfl
                  · refine z_case h (fun hx h => ?_) (fun hx_9 h => ?_)
                    · refine z_tableIn (off := 97) C 130 dX7_count_33 hx (by decide) (by decide) (by decide) (by decide) ?_
                      refine z_aload_n C dX7_count_130 rfl 0 rfl 131 rfl ?_
                      refine z_callW C (wX7 T a0 S0_1) (([] : va_W)) (fun z => z.1) (fun z => wX7 T a0 z.2) (fun z => wX7 T a0 z.2) (fun z h => c_X7_allAlone l D T a0  S0_1  z h) ⟨rfl, rfl⟩ (z_cwV C 0 gX7_count_X7_allAlone rfl rfl dd_X7_allAlone ⟨(Nat.le_of_ble_eq_true rfl), (Nat.le_of_ble_eq_true rfl)⟩) (hD.zaddr rfl) [0, 1, 2, 3, 4, 5, 6, 7, 8, 9, 10, 11, 12, 13, 14, 15, 16, 17] [] [0, 1, 2, 3, 4, 5, 6, 7, 8, 9, 10, 11, 12, 13, 14, 15, 16, 17] rfl rfl rfl (by decide) (fun _ => rfl) (fun _ => ⟨a0 99, [], 6, 0, _, _, rfl, rfl, rfl, rfl, rfl⟩) (fun h => absurd rfl h) rfl (Nat.le_of_ble_eq_true rfl) dX7_count_131 134 rfl h (fun r_5 h => ?_)
                      refine z_istore_n C [(0, .ref (a0 99)), (1, .int v1), (2, .int y_3), (3, .int r_5.1)] dX7_count_134 rfl (Nat.le_of_ble_eq_true rfl) [1, 2, 3, 0] rfl 135 rfl ?_
                      refine z_aload_n C dX7_count_135 rfl 0 rfl 136 rfl ?_
                      refine z_callW C (wX7 T a0 r_5.2) (([] : va_W)) (fun z => z.1) (fun z => wX7 T a0 z.2) (fun z => wX7 T a0 z.2) (fun z h => c_X7_leastInk l D T a0  r_5.2  z h) ⟨rfl, rfl⟩ (z_cwV C 0 gX7_count_X7_leastInk rfl rfl dd_X7_leastInk ⟨(Nat.le_of_ble_eq_true rfl), (Nat.le_of_ble_eq_true rfl)⟩) (hD.zaddr rfl) [0, 1, 2, 3, 4, 5, 6, 7, 8, 9, 10, 11, 12, 13, 14, 15, 16, 17] [] [0, 1, 2, 3, 4, 5, 6, 7, 8, 9, 10, 11, 12, 13, 14, 15, 16, 17] rfl rfl rfl (by decide) (fun _ => rfl) (fun _ => ⟨a0 99, [], 6, 0, _, _, rfl, rfl, rfl, rfl, rfl⟩) (fun h => absurd rfl h) rfl (Nat.le_of_ble_eq_true rfl) dX7_count_136 139 rfl h (fun r_6 h => ?_)
                      refine z_istore C [(0, .ref (a0 99)), (1, .int v1), (2, .int y_3), (3, .int r_5.1), (4, .int r_6.1)] dX7_count_139 (Nat.le_of_ble_eq_true rfl) [1, 2, 3, 4, 0] rfl 141 rfl ?_
                      refine z_iload_n C dX7_count_141 rfl 3 rfl 142 rfl ?_
                      refine z_bipush C (-2) dX7_count_142 (by decide) 144 rfl ?_
                      refine z_icmp_eq C 154 dX7_count_144 (by decide) 147 rfl h (fun h => ?_) (fun h => ?_)
                      · refine z_bipush C (-2) dX7_count_154 (by decide) 156 rfl ?_
                        refine z_goto C 163 dX7_count_156 (by decide) ?_
                        exact z_iretW (x := r_6.2) (ex := ex) (fun z => wX7 T a0 z) C hr dX7_count_163 h rfl
                      · refine z_iload C dX7_count_147 4 rfl 149 rfl ?_
                        refine z_bipush C (-2) dX7_count_149 (by decide) 151 rfl ?_
                        refine z_icmp_ne C 159 dX7_count_151 (by decide) 154 rfl h (fun h => ?_) (fun h => ?_)
                        · refine z_iload_n C dX7_count_159 rfl 3 rfl 160 rfl ?_
                          refine z_iload C dX7_count_160 4 rfl 162 rfl ?_
                          refine z_isub C dX7_count_162 163 rfl ?_
                          exact z_iretW (x := r_6.2) (ex := ex) (fun z => wX7 T a0 z) C hr dX7_count_163 h rfl
                        · refine z_bipush C (-2) dX7_count_154 (by decide) 156 rfl ?_
                          refine z_goto C 163 dX7_count_156 (by decide) ?_
                          exact z_iretW (x := r_6.2) (ex := ex) (fun z => wX7 T a0 z) C hr dX7_count_163 h rfl
                    · refine z_tableOut C 164 dX7_count_33 (by have : (v1).toInt ≠ 0 := z_ne_toInt hx_0; have : (v1).toInt ≠ 1 := z_ne_toInt hx_1; have : (v1).toInt ≠ 2 := z_ne_toInt hx_2; have : (v1).toInt ≠ 3 := z_ne_toInt hx_3; have : (v1).toInt ≠ 4 := z_ne_toInt hx_4; have : (v1).toInt ≠ 5 := z_ne_toInt hx_5; have : (v1).toInt ≠ 6 := z_ne_toInt hx_6; have : (v1).toInt ≠ 7 := z_ne_toInt hx_7; have : (v1).toInt ≠ 8 := z_ne_toInt hx_8; have : (v1).toInt ≠ 9 := z_ne_toInt hx_9; omega) (by decide) ?_
                      refine z_iconst C (-1) dX7_count_164 (by decide) 165 rfl ?_
                      exact z_iretW (x := S0_1) (ex := ex) (fun z => wX7 T a0 z) C hr dX7_count_165 h rfl

end
/-! StreamTreeModel.feed (IIIII)I -/
section
variable {p : Program} {l : Launch} {e : Env} {R : Room} {s : State} {m : MethodId} {args : Array Value} {below : List Frame} {meth : Method} {c : Code} {Q : State → Prop} {A : Nat → Prop} {D : va_G} {T : Nat → ClassId} {a0 : Nat → Nat}
theorem in_X7_feed_X7 : ∀ w ∈ u_ws RX7 TX7 35, w ∈ wsX7_feed := fun _ h => (List.mem_cons_of_mem _ (List.mem_append_right _ h))
def f_X7_feed (S0 : Nat → Nat → Int32) (v1 : Int32) (v2 : Int32) (v3 : Int32) (v4 : Int32) (v5 : Int32) : Option (Int32 × (Nat → Nat → Int32)) := zlet (zst S0 0 0 0) fun S0_1 => if ((S0_1 12 0) + 20) ≤ 500 then ((f_X7_puts S0_1 v1).bind fun r_2 => (f_X7_puts r_2 v2).bind fun r_3 => (f_X7_puts r_3 v3).bind fun r_4 => (f_X7_puts r_4 v4).bind fun r_5 => (f_X7_puts r_5 v5).bind fun r_6 => some ((r_6 12 0), r_6)) else (some ((-1), S0_1))
theorem dd_X7_feed : RX7 ≠ "java/lang/invoke/MethodHandle" ∧ RX7 ≠ "java/lang/invoke/VarHandle" ∧ (parseMethodDescriptor yX7_feed.desc).map (fun d => d.parameters.length) = some 5 := by decide +kernel
set_option maxHeartbeats 4000000 in
set_option maxRecDepth 100000 in
theorem c_X7_feed (l : Launch) (D : va_G) (T : Nat → ClassId) (a0 : Nat → Nat) (S0 : Nat → Nat → Int32) (v1 : Int32) (v2 : Int32) (v3 : Int32) (v4 : Int32) (v5 : Int32) (ex : Int32 × (Nat → Nat → Int32)) (h : f_X7_feed S0 v1 v2 v3 v4 v5 = some ex) : zWI l yX7_feed wsX7_feed ({ frames := 1, cells := 0, slots := 0, locals := 22 } : Room) D T [.ref (a0 99), .int v1, .int v2, .int v3, .int v4, .int v5] (wX7 T a0 S0) ex.1 (wX7 T a0 ex.2) := by
  refine z_begin (cc := cX7_feed) (nL := 6) (own := RX7) (fr := 1) (lc := 22) (ret := some .int) (by decide) rfl (Nat.le_of_ble_eq_true rfl) (zA (wX7 T a0 S0)) rfl [(0, .ref (a0 99)), (1, .int v1), (2, .int v2), (3, .int v3), (4, .int v4), (5, .int v5)] rfl ⟨rfl, rfl⟩ rfl ?_
  intro p e s m args below meth c C hr hD
  have hD := hD.zself
  unfold f_X7_feed at h
  refine z_aload_n C dX7_feed_0 rfl 0 rfl 1 rfl ?_
  refine z_iconst C 0 dX7_feed_1 (by decide) 2 rfl ?_
  refine z_put (ty := .int) C (fun z => wX7 T a0 z) S0 (hD.zaddr rfl) (in_X7_feed_X7) tyX7 tyX7_ok nmX7 0 rfl rfl 0 (by decide) (List.mem_of_getElem? (i := 1) rfl) rfl rfl (by decide +kernel) rfl rfl (Nat.le_of_ble_eq_true rfl) rfl dX7_feed_2 5 rfl h (fun S0_1 h => ?_)
  refine z_aload_n C dX7_feed_5 rfl 0 rfl 6 rfl ?_
  refine z_get C (in_X7_feed_X7) 0 rfl rfl 12 (by decide) (List.mem_of_getElem? (i := 2) rfl) rfl rfl dX7_feed_6 9 rfl ?_
  refine z_bipush C 20 dX7_feed_9 (by decide) 11 rfl ?_
  refine z_iadd C dX7_feed_11 12 rfl ?_
  refine z_sipush C 500 dX7_feed_12 (by decide) 15 rfl ?_
  refine z_icmp_le C 20 dX7_feed_15 (by decide) 18 rfl h (fun h => ?_) (fun h => ?_)
  · refine z_aload_n C dX7_feed_20 rfl 0 rfl 21 rfl ?_
    refine z_iload_n C dX7_feed_21 rfl 1 rfl 22 rfl ?_
    refine z_callV C (wX7 T a0 S0_1) (([] : va_W)) (fun z => wX7 T a0 z) (fun z => wX7 T a0 z) (fun z h => c_X7_puts l D T a0  S0_1 v1 z h) ⟨rfl, rfl⟩ (z_cwV C 1 gX7_feed_X7_puts rfl rfl dd_X7_puts ⟨(Nat.le_of_ble_eq_true rfl), (Nat.le_of_ble_eq_true rfl)⟩) (hD.zaddr rfl) [0, 1, 2, 3, 4, 5, 6, 7, 8, 9, 10, 11, 12, 13, 14, 15, 16, 17] [] [0, 1, 2, 3, 4, 5, 6, 7, 8, 9, 10, 11, 12, 13, 14, 15, 16, 17] rfl rfl rfl (by decide) (fun _ => rfl) (fun _ => ⟨a0 99, [.int v1], 6, 0, _, _, rfl, rfl, rfl, rfl, rfl⟩) (fun h => absurd rfl h) rfl (Nat.le_of_ble_eq_true rfl) dX7_feed_22 25 rfl h (fun r_2 h => ?_)
    refine z_aload_n C dX7_feed_25 rfl 0 rfl 26 rfl ?_
    refine z_iload_n C dX7_feed_26 rfl 2 rfl 27 rfl ?_
    refine z_callV C (wX7 T a0 r_2) (([] : va_W)) (fun z => wX7 T a0 z) (fun z => wX7 T a0 z) (fun z h => c_X7_puts l D T a0  r_2 v2 z h) ⟨rfl, rfl⟩ (z_cwV C 1 gX7_feed_X7_puts rfl rfl dd_X7_puts ⟨(Nat.le_of_ble_eq_true rfl), (Nat.le_of_ble_eq_true rfl)⟩) (hD.zaddr rfl) [0, 1, 2, 3, 4, 5, 6, 7, 8, 9, 10, 11, 12, 13, 14, 15, 16, 17] [] [0, 1, 2, 3, 4, 5, 6, 7, 8, 9, 10, 11, 12, 13, 14, 15, 16, 17] rfl rfl rfl (by decide) (fun _ => rfl) (fun _ => ⟨a0 99, [.int v2], 6, 0, _, _, rfl, rfl, rfl, rfl, rfl⟩) (fun h => absurd rfl h) rfl (Nat.le_of_ble_eq_true rfl) dX7_feed_27 30 rfl h (fun r_3 h => ?_)
    refine z_aload_n C dX7_feed_30 rfl 0 rfl 31 rfl ?_
    refine z_iload_n C dX7_feed_31 rfl 3 rfl 32 rfl ?_
    refine z_callV C (wX7 T a0 r_3) (([] : va_W)) (fun z => wX7 T a0 z) (fun z => wX7 T a0 z) (fun z h => c_X7_puts l D T a0  r_3 v3 z h) ⟨rfl, rfl⟩ (z_cwV C 1 gX7_feed_X7_puts rfl rfl dd_X7_puts ⟨(Nat.le_of_ble_eq_true rfl), (Nat.le_of_ble_eq_true rfl)⟩) (hD.zaddr rfl) [0, 1, 2, 3, 4, 5, 6, 7, 8, 9, 10, 11, 12, 13, 14, 15, 16, 17] [] [0, 1, 2, 3, 4, 5, 6, 7, 8, 9, 10, 11, 12, 13, 14, 15, 16, 17] rfl rfl rfl (by decide) (fun _ => rfl) (fun _ => ⟨a0 99, [.int v3], 6, 0, _, _, rfl, rfl, rfl, rfl, rfl⟩) (fun h => absurd rfl h) rfl (Nat.le_of_ble_eq_true rfl) dX7_feed_32 35 rfl h (fun r_4 h => ?_)
    refine z_aload_n C dX7_feed_35 rfl 0 rfl 36 rfl ?_
    refine z_iload C dX7_feed_36 4 rfl 38 rfl ?_
    refine z_callV C (wX7 T a0 r_4) (([] : va_W)) (fun z => wX7 T a0 z) (fun z => wX7 T a0 z) (fun z h => c_X7_puts l D T a0  r_4 v4 z h) ⟨rfl, rfl⟩ (z_cwV C 1 gX7_feed_X7_puts rfl rfl dd_X7_puts ⟨(Nat.le_of_ble_eq_true rfl), (Nat.le_of_ble_eq_true rfl)⟩) (hD.zaddr rfl) [0, 1, 2, 3, 4, 5, 6, 7, 8, 9, 10, 11, 12, 13, 14, 15, 16, 17] [] [0, 1, 2, 3, 4, 5, 6, 7, 8, 9, 10, 11, 12, 13, 14, 15, 16, 17] rfl rfl rfl (by decide) (fun _ => rfl) (fun _ => ⟨a0 99, [.int v4], 6, 0, _, _, rfl, rfl, rfl, rfl, rfl⟩) (fun h => absurd rfl h) rfl (Nat.le_of_ble_eq_true rfl) dX7_feed_38 41 rfl h (fun r_5 h => ?_)
    refine z_aload_n C dX7_feed_41 rfl 0 rfl 42 rfl ?_
    refine z_iload C dX7_feed_42 5 rfl 44 rfl ?_
    refine z_callV C (wX7 T a0 r_5) (([] : va_W)) (fun z => wX7 T a0 z) (fun z => wX7 T a0 z) (fun z h => c_X7_puts l D T a0  r_5 v5 z h) ⟨rfl, rfl⟩ (z_cwV C 1 gX7_feed_X7_puts rfl rfl dd_X7_puts ⟨(Nat.le_of_ble_eq_true rfl), (Nat.le_of_ble_eq_true rfl)⟩) (hD.zaddr rfl) [0, 1, 2, 3, 4, 5, 6, 7, 8, 9, 10, 11, 12, 13, 14, 15, 16, 17] [] [0, 1, 2, 3, 4, 5, 6, 7, 8, 9, 10, 11, 12, 13, 14, 15, 16, 17] rfl rfl rfl (by decide) (fun _ => rfl) (fun _ => ⟨a0 99, [.int v5], 6, 0, _, _, rfl, rfl, rfl, rfl, rfl⟩) (fun h => absurd rfl h) rfl (Nat.le_of_ble_eq_true rfl) dX7_feed_44 47 rfl h (fun r_6 h => ?_)
    refine z_aload_n C dX7_feed_47 rfl 0 rfl 48 rfl ?_
    refine z_get C (in_X7_feed_X7) 0 rfl rfl 12 (by decide) (List.mem_of_getElem? (i := 2) rfl) rfl rfl dX7_feed_48 51 rfl ?_
    exact z_iretW (x := r_6) (ex := ex) (fun z => wX7 T a0 z) C hr dX7_feed_51 h rfl
  · refine z_iconst C (-1) dX7_feed_18 (by decide) 19 rfl ?_
    exact z_iretW (x := S0_1) (ex := ex) (fun z => wX7 T a0 z) C hr dX7_feed_19 h rfl

end
/-! StreamTreeModel.wants (II)I -/
section
variable {p : Program} {l : Launch} {e : Env} {R : Room} {s : State} {m : MethodId} {args : Array Value} {below : List Frame} {meth : Method} {c : Code} {Q : State → Prop} {A : Nat → Prop} {D : va_G} {T : Nat → ClassId} {a0 : Nat → Nat}
theorem in_X7_wants_X7 : ∀ w ∈ u_ws RX7 TX7 35, w ∈ wsX7_wants := fun _ h => (List.mem_cons_of_mem _ (List.mem_append_right _ h))
def f_X7_wants_J108 (rec : Int32 → Option (Nat × Int32 × Int32)) (S0 : Nat → Nat → Int32) (v1 : Int32) (v2 : Int32) (v3 : Int32) (x4 : Int32)  : Option (Nat × Int32 × Int32) := rec (x4 + (-1))
set_option maxHeartbeats 4000000 in
set_option maxRecDepth 100000 in
theorem p_X7_wants_J108 (C : zC p R s m args meth c cX7_wants 6 RX7 wsX7_wants D T 1 22 0 0) (S0 : Nat → Nat → Int32) {v1 : Int32} {v2 : Int32} {v3 : Int32} (x4 : Int32)  (hD : va_D (fun _ => True) (wX7 T a0 S0)) {rec : Int32 → Option (Nat × Int32 × Int32)} (hrec : ∀ (c0 : Int32) (b : Nat × Int32 × Int32), rec c0 = some b → ((b.1 = 0 → zt p l e R s m args below meth c 6 A D 0 0 Q (wX7 T a0 S0) [(0, .ref (a0 99)), (1, .int v1), (2, .int v2), (3, .int v3), (4, .int b.2.1), (5, .int b.2.2)] 63 []) ∧ (b.1 = 1 → zt p l e R s m args below meth c 6 A D 0 0 Q (wX7 T a0 S0) [(0, .ref (a0 99)), (1, .int v1), (2, .int v2), (3, .int v3)] 114 [])) → zt p l e R s m args below meth c 6 A D 0 0 Q (wX7 T a0 S0) [(0, .ref (a0 99)), (1, .int v1), (2, .int v2), (3, .int v3), (4, .int c0)] 13 []) {b : Nat × Int32 × Int32} (K : (b.1 = 0 → zt p l e R s m args below meth c 6 A D 0 0 Q (wX7 T a0 S0) [(0, .ref (a0 99)), (1, .int v1), (2, .int v2), (3, .int v3), (4, .int b.2.1), (5, .int b.2.2)] 63 []) ∧ (b.1 = 1 → zt p l e R s m args below meth c 6 A D 0 0 Q (wX7 T a0 S0) [(0, .ref (a0 99)), (1, .int v1), (2, .int v2), (3, .int v3)] 114 [])) (h : f_X7_wants_J108 rec S0 v1 v2 v3 x4 = some b) : zt p l e R s m args below meth c 6 A D 0 0 Q (wX7 T a0 S0) [(0, .ref (a0 99)), (1, .int v1), (2, .int v2), (3, .int v3), (4, .int x4)] 108 [] := by
  unfold f_X7_wants_J108 at h
  refine z_iinc C (x4 + (-1)) [(0, .ref (a0 99)), (1, .int v1), (2, .int v2), (3, .int v3), (4, .int (x4 + (-1)))] dX7_wants_108 4 rfl rfl (Nat.le_of_ble_eq_true rfl) [1, 2, 3, 4, 0] rfl 111 rfl ?_
  refine z_goto C 13 dX7_wants_111 (by decide) ?_
  exact z_locals (ks := [0, 1, 2, 3, 4]) rfl (hrec _ _ h K)

def f_X7_wants_J34 (rec : Int32 → Option (Nat × Int32 × Int32)) (S0 : Nat → Nat → Int32) (v1 : Int32) (v2 : Int32) (v3 : Int32) (x4 : Int32) (k0 : Int32) (k2 : Int32) (k3 : Int32) : Option (Nat × Int32 × Int32) := (f_X7_around S0 (k2 + k3)).bind fun r_1 => (f_X7_cell k0 r_1).bind fun r_2 => if (S0 2 0) < (2 * v3) then (f_X7_wants_J108 rec S0 v1 v2 v3 x4) else (zix r_2 240 fun _ => if (S0 27 (Int32.toNatClampNeg r_2)) ≤ 0 then (f_X7_wants_J108 rec S0 v1 v2 v3 x4) else (some (0, x4, r_2)))
set_option maxHeartbeats 4000000 in
set_option maxRecDepth 100000 in
theorem p_X7_wants_J34 (C : zC p R s m args meth c cX7_wants 6 RX7 wsX7_wants D T 1 22 0 0) (S0 : Nat → Nat → Int32) {v1 : Int32} {v2 : Int32} {v3 : Int32} (x4 : Int32) (k0 : Int32) (k2 : Int32) (k3 : Int32) (hD : va_D (fun _ => True) (wX7 T a0 S0)) {rec : Int32 → Option (Nat × Int32 × Int32)} (hrec : ∀ (c0 : Int32) (b : Nat × Int32 × Int32), rec c0 = some b → ((b.1 = 0 → zt p l e R s m args below meth c 6 A D 0 0 Q (wX7 T a0 S0) [(0, .ref (a0 99)), (1, .int v1), (2, .int v2), (3, .int v3), (4, .int b.2.1), (5, .int b.2.2)] 63 []) ∧ (b.1 = 1 → zt p l e R s m args below meth c 6 A D 0 0 Q (wX7 T a0 S0) [(0, .ref (a0 99)), (1, .int v1), (2, .int v2), (3, .int v3)] 114 [])) → zt p l e R s m args below meth c 6 A D 0 0 Q (wX7 T a0 S0) [(0, .ref (a0 99)), (1, .int v1), (2, .int v2), (3, .int v3), (4, .int c0)] 13 []) {b : Nat × Int32 × Int32} (K : (b.1 = 0 → zt p l e R s m args below meth c 6 A D 0 0 Q (wX7 T a0 S0) [(0, .ref (a0 99)), (1, .int v1), (2, .int v2), (3, .int v3), (4, .int b.2.1), (5, .int b.2.2)] 63 []) ∧ (b.1 = 1 → zt p l e R s m args below meth c 6 A D 0 0 Q (wX7 T a0 S0) [(0, .ref (a0 99)), (1, .int v1), (2, .int v2), (3, .int v3)] 114 [])) (h : f_X7_wants_J34 rec S0 v1 v2 v3 x4 k0 k2 k3 = some b) : zt p l e R s m args below meth c 6 A D 0 0 Q (wX7 T a0 S0) [(0, .ref (a0 99)), (1, .int v1), (2, .int v2), (3, .int v3), (4, .int x4)] 34 [.int k3, .int k2, .ref (a0 99), .int k0] := by
  unfold f_X7_wants_J34 at h
  refine z_iadd C dX7_wants_34 35 rfl ?_
  refine z_callR C (wX7 T a0 S0) (fun v h => c_X7_around l D T a0  S0 (k2 + k3) v h) ⟨rfl, rfl⟩ (z_cwV C 1 gX7_wants_X7_around rfl rfl dd_X7_around ⟨(Nat.le_of_ble_eq_true rfl), (Nat.le_of_ble_eq_true rfl)⟩) (hD.zaddr rfl) [0, 1, 2, 3, 4, 5, 6, 7, 8, 9, 10, 11, 12, 13, 14, 15, 16, 17] rfl rfl (fun _ => ⟨a0 99, [.int (k2 + k3)], 6, 0, _, _, rfl, rfl, rfl, rfl, rfl⟩) (fun h => absurd rfl h) rfl (Nat.le_of_ble_eq_true rfl) dX7_wants_35 38 rfl h (fun r_1 h => ?_)
  refine z_callR C ([]) (fun v h => c_X7_cell l D T    k0 r_1 v h) ⟨rfl, rfl⟩ (z_cwS C 2 gX7_wants_X7_cell rfl dd_X7_cell ⟨(Nat.le_of_ble_eq_true rfl), (Nat.le_of_ble_eq_true rfl)⟩) (hD.zaddr rfl) [] rfl rfl (fun h => absurd h (by decide)) (fun _ => rfl) rfl (Nat.le_of_ble_eq_true rfl) dX7_wants_38 41 rfl h (fun r_2 h => ?_)
  refine z_istore C [(0, .ref (a0 99)), (1, .int v1), (2, .int v2), (3, .int v3), (4, .int x4), (5, .int r_2)] dX7_wants_41 (Nat.le_of_ble_eq_true rfl) [1, 2, 3, 4, 5, 0] rfl 43 rfl ?_
  refine z_iconst C 2 dX7_wants_43 (by decide) 44 rfl ?_
  refine z_iload_n C dX7_wants_44 rfl 3 rfl 45 rfl ?_
  refine z_imul C dX7_wants_45 46 rfl ?_
  refine z_aload_n C dX7_wants_46 rfl 0 rfl 47 rfl ?_
  refine z_get C (in_X7_wants_X7) 0 rfl rfl 2 (by decide) (List.mem_of_getElem? (i := 1) rfl) rfl rfl dX7_wants_47 50 rfl ?_
  refine z_icmp_gt C 108 dX7_wants_50 (by decide) 53 rfl h (fun h => ?_) (fun h => ?_)
  · exact z_locals (ks := [0, 1, 2, 3, 4]) rfl (p_X7_wants_J108 C S0 x4 (hD.zaddr rfl) hrec K h)
  · refine z_aload_n C dX7_wants_53 rfl 0 rfl 54 rfl ?_
    refine z_get C (in_X7_wants_X7) 0 rfl rfl 27 (by decide) (List.mem_of_getElem? (i := 2) rfl) rfl rfl dX7_wants_54 57 rfl ?_
    refine z_iload C dX7_wants_57 5 rfl 59 rfl ?_
    refine z_iald C 10 rfl rfl dX7_wants_59 60 rfl h (fun h => ?_)
    refine z_if_le C 108 dX7_wants_60 (by decide) 63 rfl h (fun h => ?_) (fun h => ?_)
    · exact z_locals (ks := [0, 1, 2, 3, 4]) rfl (p_X7_wants_J108 C S0 x4 (hD.zaddr rfl) hrec K h)
    · refine z_locals (ks := [0, 1, 2, 3, 4, 5]) (lv' := [(0, .ref (a0 99)), (1, .int v1), (2, .int v2), (3, .int v3), (4, .int x4), (5, .int r_2)]) rfl ?_
      exact zexT2 (F := (fun e0 e1 => zt p l e R s m args below meth c 6 A D 0 0 Q (wX7 T a0 S0) [(0, .ref (a0 99)), (1, .int v1), (2, .int v2), (3, .int v3), (4, .int e0), (5, .int e1)] 63 [])) h K.1

def f_X7_wants_L13b (S0 : Nat → Nat → Int32) (v1 : Int32) (v2 : Int32) (v3 : Int32) (rec : Int32 → Option (Nat × Int32 × Int32)) (a : Int32) : Option (Nat × Int32 × Int32) := if a < 1 then (some (1, 0, 0)) else (if a = 2 then (f_X7_wants_J34 rec S0 v1 v2 v3 a v1 v2 v3) else (f_X7_wants_J34 rec S0 v1 v2 v3 a v1 v2 (-v3)))
def f_X7_wants_L13 (S0 : Nat → Nat → Int32) (v1 : Int32) (v2 : Int32) (v3 : Int32) : Nat → Int32 → Option (Nat × Int32 × Int32) := zloop (fun rec a => f_X7_wants_L13b S0 v1 v2 v3 rec a)
set_option maxHeartbeats 4000000 in
set_option maxRecDepth 100000 in
theorem p_X7_wants_L13 (C : zC p R s m args meth c cX7_wants 6 RX7 wsX7_wants D T 1 22 0 0) (S0 : Nat → Nat → Int32) (v1 : Int32) (v2 : Int32) (v3 : Int32) (hD : va_D (fun _ => True) (wX7 T a0 S0)) : ∀ (n : Nat) (c0 : Int32) (b : Nat × Int32 × Int32), f_X7_wants_L13 S0 v1 v2 v3 n c0 = some b → ((b.1 = 0 → zt p l e R s m args below meth c 6 A D 0 0 Q (wX7 T a0 S0) [(0, .ref (a0 99)), (1, .int v1), (2, .int v2), (3, .int v3), (4, .int b.2.1), (5, .int b.2.2)] 63 []) ∧ (b.1 = 1 → zt p l e R s m args below meth c 6 A D 0 0 Q (wX7 T a0 S0) [(0, .ref (a0 99)), (1, .int v1), (2, .int v2), (3, .int v3)] 114 [])) → zt p l e R s m args below meth c 6 A D 0 0 Q (wX7 T a0 S0) [(0, .ref (a0 99)), (1, .int v1), (2, .int v2), (3, .int v3), (4, .int c0)] 13 [] := by
  intro n c0 b h K
  refine zloop_ind (P := fun a b => ((b.1 = 0 → zt p l e R s m args below meth c 6 A D 0 0 Q (wX7 T a0 S0) [(0, .ref (a0 99)), (1, .int v1), (2, .int v2), (3, .int v3), (4, .int b.2.1), (5, .int b.2.2)] 63 []) ∧ (b.1 = 1 → zt p l e R s m args below meth c 6 A D 0 0 Q (wX7 T a0 S0) [(0, .ref (a0 99)), (1, .int v1), (2, .int v2), (3, .int v3)] 114 [])) → zt p l e R s m args below meth c 6 A D 0 0 Q (wX7 T a0 S0) [(0, .ref (a0 99)), (1, .int v1), (2, .int v2), (3, .int v3), (4, .int a)] 13 []) ?_ n c0 b h K
  clear h K b c0
  intro rec hrec a b h K
  have hrec : ∀ (c0 : Int32) (b : Nat × Int32 × Int32), rec c0 = some b → ((b.1 = 0 → zt p l e R s m args below meth c 6 A D 0 0 Q (wX7 T a0 S0) [(0, .ref (a0 99)), (1, .int v1), (2, .int v2), (3, .int v3), (4, .int b.2.1), (5, .int b.2.2)] 63 []) ∧ (b.1 = 1 → zt p l e R s m args below meth c 6 A D 0 0 Q (wX7 T a0 S0) [(0, .ref (a0 99)), (1, .int v1), (2, .int v2), (3, .int v3)] 114 [])) → zt p l e R s m args below meth c 6 A D 0 0 Q (wX7 T a0 S0) [(0, .ref (a0 99)), (1, .int v1), (2, .int v2), (3, .int v3), (4, .int c0)] 13 [] := fun c0 b h K => hrec c0 b h K
  unfold f_X7_wants_L13b at h
  refine z_iload C dX7_wants_13 4 rfl 15 rfl ?_
  refine z_iconst C 1 dX7_wants_15 (by decide) 16 rfl ?_
  refine z_icmp_lt C 114 dX7_wants_16 (by decide) 19 rfl h (fun h => ?_) (fun h => ?_)
  · refine z_locals (ks := [0, 1, 2, 3]) (lv' := [(0, .ref (a0 99)), (1, .int v1), (2, .int v2), (3, .int v3)]) rfl ?_
    exact zexT2 (F := (fun e0 e1 => zt p l e R s m args below meth c 6 A D 0 0 Q (wX7 T a0 S0) [(0, .ref (a0 99)), (1, .int v1), (2, .int v2), (3, .int v3)] 114 [])) h K.2
  · refine z_iload_n C dX7_wants_19 rfl 1 rfl 20 rfl ?_
    refine z_aload_n C dX7_wants_20 rfl 0 rfl 21 rfl ?_
    refine z_iload_n C dX7_wants_21 rfl 2 rfl 22 rfl ?_
    refine z_iload C dX7_wants_22 4 rfl 24 rfl ?_
    refine z_iconst C 2 dX7_wants_24 (by decide) 25 rfl ?_
    refine z_icmp_ne C 32 dX7_wants_25 (by decide) 28 rfl h (fun h => ?_) (fun h => ?_)
    · refine z_iload_n C dX7_wants_32 rfl 3 rfl 33 rfl ?_
      refine z_ineg C dX7_wants_33 34 rfl ?_
      exact z_locals (ks := [0, 1, 2, 3, 4]) rfl (p_X7_wants_J34 C S0 a v1 v2 (-v3) (hD.zaddr rfl) hrec K h)
    · refine z_iload_n C dX7_wants_28 rfl 3 rfl 29 rfl ?_
      refine z_goto C 34 dX7_wants_29 (by decide) ?_
      exact z_locals (ks := [0, 1, 2, 3, 4]) rfl (p_X7_wants_J34 C S0 a v1 v2 v3 (hD.zaddr rfl) hrec K h)

def f_X7_wants_L2b (S0 : Nat → Nat → Int32) (v1 : Int32) (v2 : Int32) (rec : Int32 → Option (Nat × Int32 × Int32 × Int32)) (a : Int32) : Option (Nat × Int32 × Int32 × Int32) := if (S0 2 0) ≤ a then (some (1, 0, 0, 0)) else ((f_X7_wants_L13 S0 v1 v2 a zfuel 2).bind fun y_3 => if y_3.1 = 0 then (some (0, a, y_3.2.1, y_3.2.2)) else (rec (a + 1)))
def f_X7_wants_L2 (S0 : Nat → Nat → Int32) (v1 : Int32) (v2 : Int32) : Nat → Int32 → Option (Nat × Int32 × Int32 × Int32) := zloop (fun rec a => f_X7_wants_L2b S0 v1 v2 rec a)
set_option maxHeartbeats 4000000 in
set_option maxRecDepth 100000 in
theorem p_X7_wants_L2 (C : zC p R s m args meth c cX7_wants 6 RX7 wsX7_wants D T 1 22 0 0) (S0 : Nat → Nat → Int32) (v1 : Int32) (v2 : Int32) (hD : va_D (fun _ => True) (wX7 T a0 S0)) : ∀ (n : Nat) (c0 : Int32) (b : Nat × Int32 × Int32 × Int32), f_X7_wants_L2 S0 v1 v2 n c0 = some b → ((b.1 = 0 → zt p l e R s m args below meth c 6 A D 0 0 Q (wX7 T a0 S0) [(0, .ref (a0 99)), (1, .int v1), (2, .int v2), (3, .int b.2.1), (4, .int b.2.2.1), (5, .int b.2.2.2)] 63 []) ∧ (b.1 = 1 → zt p l e R s m args below meth c 6 A D 0 0 Q (wX7 T a0 S0) [] 120 [])) → zt p l e R s m args below meth c 6 A D 0 0 Q (wX7 T a0 S0) [(0, .ref (a0 99)), (1, .int v1), (2, .int v2), (3, .int c0)] 2 [] := by
  intro n c0 b h K
  refine zloop_ind (P := fun a b => ((b.1 = 0 → zt p l e R s m args below meth c 6 A D 0 0 Q (wX7 T a0 S0) [(0, .ref (a0 99)), (1, .int v1), (2, .int v2), (3, .int b.2.1), (4, .int b.2.2.1), (5, .int b.2.2.2)] 63 []) ∧ (b.1 = 1 → zt p l e R s m args below meth c 6 A D 0 0 Q (wX7 T a0 S0) [] 120 [])) → zt p l e R s m args below meth c 6 A D 0 0 Q (wX7 T a0 S0) [(0, .ref (a0 99)), (1, .int v1), (2, .int v2), (3, .int a)] 2 []) ?_ n c0 b h K
  clear h K b c0
  intro rec hrec a b h K
  have hrec : ∀ (c0 : Int32) (b : Nat × Int32 × Int32 × Int32), rec c0 = some b → ((b.1 = 0 → zt p l e R s m args below meth c 6 A D 0 0 Q (wX7 T a0 S0) [(0, .ref (a0 99)), (1, .int v1), (2, .int v2), (3, .int b.2.1), (4, .int b.2.2.1), (5, .int b.2.2.2)] 63 []) ∧ (b.1 = 1 → zt p l e R s m args below meth c 6 A D 0 0 Q (wX7 T a0 S0) [] 120 [])) → zt p l e R s m args below meth c 6 A D 0 0 Q (wX7 T a0 S0) [(0, .ref (a0 99)), (1, .int v1), (2, .int v2), (3, .int c0)] 2 [] := fun c0 b h K => hrec c0 b h K
  unfold f_X7_wants_L2b at h
  refine z_iload_n C dX7_wants_2 rfl 3 rfl 3 rfl ?_
  refine z_aload_n C dX7_wants_3 rfl 0 rfl 4 rfl ?_
  refine z_get C (in_X7_wants_X7) 0 rfl rfl 2 (by decide) (List.mem_of_getElem? (i := 1) rfl) rfl rfl dX7_wants_4 7 rfl ?_
  refine z_icmp_ge C 120 dX7_wants_7 (by decide) 10 rfl h (fun h => ?_) (fun h => ?_)
  · refine z_locals (ks := []) (lv' := []) rfl ?_
    exact zexT3 (F := (fun e0 e1 e2 => zt p l e R s m args below meth c 6 A D 0 0 Q (wX7 T a0 S0) [] 120 [])) h K.2
  · refine z_iconst C 2 dX7_wants_10 (by decide) 11 rfl ?_
    refine z_istore C [(0, .ref (a0 99)), (1, .int v1), (2, .int v2), (3, .int a), (4, .int 2)] dX7_wants_11 (Nat.le_of_ble_eq_true rfl) [1, 2, 3, 4, 0] rfl 13 rfl ?_
    obtain ⟨y_3, hl_y_3, h⟩ := Option.bind_eq_some_iff.mp h
    refine z_locals (ks := [0, 1, 2, 3, 4]) rfl (p_X7_wants_L13 C S0 v1 v2 a (hD.zaddr rfl) _ _ _ hl_y_3 ⟨fun ht => ?_, fun ht => ?_⟩)
    · replace h := z_pos ht h
      refine z_locals (ks := [0, 1, 2, 3, 4, 5]) (lv' := [(0, .ref (a0 99)), (1, .int v1), (2, .int v2), (3, .int a), (4, .int y_3.2.1), (5, .int y_3.2.2)]) rfl ?_
      exact zexT3 (F := (fun e0 e1 e2 => zt p l e R s m args below meth c 6 A D 0 0 Q (wX7 T a0 S0) [(0, .ref (a0 99)), (1, .int v1), (2, .int v2), (3, .int e0), (4, .int e1), (5, .int e2)] 63 [])) h K.1
    · replace h := z_neg (by rw [ht]; decide) h
      refine z_iinc C (a + 1) [(0, .ref (a0 99)), (1, .int v1), (2, .int v2), (3, .int (a + 1))] dX7_wants_114 3 rfl rfl (Nat.le_of_ble_eq_true rfl) [1, 2, 3, 0] rfl 117 rfl ?_
      refine z_goto C 2 dX7_wants_117 (by decide) ?_
      exact z_locals (ks := [0, 1, 2, 3]) rfl (hrec _ _ h K)

def f_X7_wants (S0 : Nat → Nat → Int32) (v1 : Int32) (v2 : Int32) : Option (Int32) := (f_X7_wants_L2 S0 v1 v2 zfuel 1).bind fun y_4 => if y_4.1 = 0 then (if y_4.2.1 ≤ (S0 5 0) then (if y_4.2.1 ≤ 1 then ((f_X7_cell v1 v2).bind fun r_5 => zix r_5 240 fun _ => zix y_4.2.2.2 240 fun _ => (f_X7_wantsBeside (S0 27 (Int32.toNatClampNeg r_5)) (S0 27 (Int32.toNatClampNeg y_4.2.2.2)) y_4.2.2.1).bind fun r_6 => some r_6) else (some y_4.2.2.1)) else (some 0)) else (some 0)
theorem dd_X7_wants : RX7 ≠ "java/lang/invoke/MethodHandle" ∧ RX7 ≠ "java/lang/invoke/VarHandle" ∧ (parseMethodDescriptor yX7_wants.desc).map (fun d => d.parameters.length) = some 2 := by decide +kernel
set_option maxHeartbeats 4000000 in
set_option maxRecDepth 100000 in
theorem c_X7_wants (l : Launch) (D : va_G) (T : Nat → ClassId) (a0 : Nat → Nat) (S0 : Nat → Nat → Int32) (v1 : Int32) (v2 : Int32) (ex : Int32) (h : f_X7_wants S0 v1 v2 = some ex) : zRI l yX7_wants wsX7_wants ({ frames := 1, cells := 0, slots := 0, locals := 22 } : Room) D T [.ref (a0 99), .int v1, .int v2] (wX7 T a0 S0) ex := by
  refine z_begin (cc := cX7_wants) (nL := 6) (own := RX7) (fr := 1) (lc := 22) (ret := some .int) (by decide) rfl (Nat.le_of_ble_eq_true rfl) (fun _ => False) rfl [(0, .ref (a0 99)), (1, .int v1), (2, .int v2)] rfl ⟨rfl, rfl⟩ rfl ?_
  intro p e s m args below meth c C hr hD
  unfold f_X7_wants at h
  refine z_iconst C 1 dX7_wants_0 (by decide) 1 rfl ?_
  refine z_istore_n C [(0, .ref (a0 99)), (1, .int v1), (2, .int v2), (3, .int 1)] dX7_wants_1 rfl (Nat.le_of_ble_eq_true rfl) [1, 2, 3, 0] rfl 2 rfl ?_
  obtain ⟨y_4, hl_y_4, h⟩ := Option.bind_eq_some_iff.mp h
  refine z_locals (ks := [0, 1, 2, 3]) rfl (p_X7_wants_L2 C S0 v1 v2 (hD.zaddr rfl) _ _ _ hl_y_4 ⟨fun ht => ?_, fun ht => ?_⟩)
  · replace h := z_pos ht h
    refine z_iload_n C dX7_wants_63 rfl 3 rfl 64 rfl ?_
    refine z_aload_n C dX7_wants_64 rfl 0 rfl 65 rfl ?_
    refine z_get C (in_X7_wants_X7) 0 rfl rfl 5 (by decide) (List.mem_of_getElem? (i := 3) rfl) rfl rfl dX7_wants_65 68 rfl ?_
    refine z_icmp_le C 75 dX7_wants_68 (by decide) 71 rfl h (fun h => ?_) (fun h => ?_)
    · refine z_iload_n C dX7_wants_75 rfl 3 rfl 76 rfl ?_
      refine z_iconst C 1 dX7_wants_76 (by decide) 77 rfl ?_
      refine z_icmp_le C 85 dX7_wants_77 (by decide) 80 rfl h (fun h => ?_) (fun h => ?_)
      · refine z_aload_n C dX7_wants_85 rfl 0 rfl 86 rfl ?_
        refine z_get C (in_X7_wants_X7) 0 rfl rfl 27 (by decide) (List.mem_of_getElem? (i := 2) rfl) rfl rfl dX7_wants_86 89 rfl ?_
        refine z_iload_n C dX7_wants_89 rfl 1 rfl 90 rfl ?_
        refine z_iload_n C dX7_wants_90 rfl 2 rfl 91 rfl ?_
        refine z_callR C ([]) (fun v h => c_X7_cell l D T    v1 v2 v h) ⟨rfl, rfl⟩ (z_cwS C 2 gX7_wants_X7_cell rfl dd_X7_cell ⟨(Nat.le_of_ble_eq_true rfl), (Nat.le_of_ble_eq_true rfl)⟩) (hD.zaddr rfl) [] rfl rfl (fun h => absurd h (by decide)) (fun _ => rfl) rfl (Nat.le_of_ble_eq_true rfl) dX7_wants_91 94 rfl h (fun r_5 h => ?_)
        refine z_iald C 10 rfl rfl dX7_wants_94 95 rfl h (fun h => ?_)
        refine z_aload_n C dX7_wants_95 rfl 0 rfl 96 rfl ?_
        refine z_get C (in_X7_wants_X7) 0 rfl rfl 27 (by decide) (List.mem_of_getElem? (i := 2) rfl) rfl rfl dX7_wants_96 99 rfl ?_
        refine z_iload C dX7_wants_99 5 rfl 101 rfl ?_
        refine z_iald C 10 rfl rfl dX7_wants_101 102 rfl h (fun h => ?_)
        refine z_iload C dX7_wants_102 4 rfl 104 rfl ?_
        refine z_callR C ([]) (fun v h => c_X7_wantsBeside l D T    (S0 27 (Int32.toNatClampNeg r_5)) (S0 27 (Int32.toNatClampNeg y_4.2.2.2)) y_4.2.2.1 v h) ⟨rfl, rfl⟩ (z_cwS C 3 gX7_wants_X7_wantsBeside rfl dd_X7_wantsBeside ⟨(Nat.le_of_ble_eq_true rfl), (Nat.le_of_ble_eq_true rfl)⟩) (hD.zaddr rfl) [] rfl rfl (fun h => absurd h (by decide)) (fun _ => rfl) rfl (Nat.le_of_ble_eq_true rfl) dX7_wants_104 107 rfl h (fun r_6 h => ?_)
        exact z_iretR C hr dX7_wants_107 h
      · refine z_iload C dX7_wants_80 4 rfl 82 rfl ?_
        refine z_goto C 107 dX7_wants_82 (by decide) ?_
        exact z_iretR C hr dX7_wants_107 h
    · refine z_iconst C 0 dX7_wants_71 (by decide) 72 rfl ?_
      refine z_goto C 107 dX7_wants_72 (by decide) ?_
      exact z_iretR C hr dX7_wants_107 h
  · replace h := z_neg (by rw [ht]; decide) h
    refine z_iconst C 0 dX7_wants_120 (by decide) 121 rfl ?_
    exact z_iretR C hr dX7_wants_121 h

end
/-! StreamTreeModel.laysLean ()Z -/
section
variable {p : Program} {l : Launch} {e : Env} {R : Room} {s : State} {m : MethodId} {args : Array Value} {below : List Frame} {meth : Method} {c : Code} {Q : State → Prop} {A : Nat → Prop} {D : va_G} {T : Nat → ClassId} {a0 : Nat → Nat}
theorem in_X7_laysLean_X7 : ∀ w ∈ u_ws RX7 TX7 35, w ∈ wsX7_laysLean := fun _ h => (List.mem_cons_of_mem _ (List.mem_append_right _ h))
def f_X7_laysLean_J67 (rec : (Int32 × (Nat → Nat → Int32)) → Option (Nat × (Nat → Nat → Int32))) (S0 : Nat → Nat → Int32) (v1 : Int32) (x2 : Int32)  : Option (Nat × (Nat → Nat → Int32)) := rec ((x2 + 1), S0)
set_option maxHeartbeats 4000000 in
set_option maxRecDepth 100000 in
theorem p_X7_laysLean_J67 (C : zC p R s m args meth c cX7_laysLean 4 RX7 wsX7_laysLean D T 5 114 0 0) (S0 : Nat → Nat → Int32) {v1 : Int32} (x2 : Int32)  (hD : va_D A (wX7 T a0 S0)) {rec : (Int32 × (Nat → Nat → Int32)) → Option (Nat × (Nat → Nat → Int32))} (hrec : ∀ (c0 : Int32) (c1 : Nat → Nat → Int32) (b : Nat × (Nat → Nat → Int32)), rec (c0, c1) = some b → ((b.1 = 0 → zt p l e R s m args below meth c 4 A D 0 0 Q (wX7 T a0 b.2) [] 58 []) ∧ (b.1 = 1 → zt p l e R s m args below meth c 4 A D 0 0 Q (wX7 T a0 b.2) [(0, .ref (a0 99)), (1, .int v1)] 73 [])) → zt p l e R s m args below meth c 4 A D 0 0 Q (wX7 T a0 c1) [(0, .ref (a0 99)), (1, .int v1), (2, .int c0)] 11 []) {b : Nat × (Nat → Nat → Int32)} (K : (b.1 = 0 → zt p l e R s m args below meth c 4 A D 0 0 Q (wX7 T a0 b.2) [] 58 []) ∧ (b.1 = 1 → zt p l e R s m args below meth c 4 A D 0 0 Q (wX7 T a0 b.2) [(0, .ref (a0 99)), (1, .int v1)] 73 [])) (h : f_X7_laysLean_J67 rec S0 v1 x2 = some b) : zt p l e R s m args below meth c 4 A D 0 0 Q (wX7 T a0 S0) [(0, .ref (a0 99)), (1, .int v1), (2, .int x2)] 67 [] := by
  unfold f_X7_laysLean_J67 at h
  refine z_iinc C (x2 + 1) [(0, .ref (a0 99)), (1, .int v1), (2, .int (x2 + 1))] dX7_laysLean_67 2 rfl rfl (Nat.le_of_ble_eq_true rfl) [1, 2, 0] rfl 70 rfl ?_
  refine z_goto C 11 dX7_laysLean_70 (by decide) ?_
  exact z_locals (ks := [0, 1, 2]) rfl (hrec _ _ _ h K)

def f_X7_laysLean_J53 (rec : (Int32 × (Nat → Nat → Int32)) → Option (Nat × (Nat → Nat → Int32))) (S0 : Nat → Nat → Int32) (v1 : Int32) (x2 : Int32) (k0 : Int32) : Option (Nat × (Nat → Nat → Int32)) := if 0 ≤ k0 then ((f_X7_steps S0 v1 x2 k0).bind fun r_5 => f_X7_laysLean_J67 rec r_5 v1 x2) else (some (0, S0))
set_option maxHeartbeats 4000000 in
set_option maxRecDepth 100000 in
theorem p_X7_laysLean_J53 (C : zC p R s m args meth c cX7_laysLean 4 RX7 wsX7_laysLean D T 5 114 0 0) (S0 : Nat → Nat → Int32) {v1 : Int32} (x2 : Int32) (k0 : Int32) (hD : va_D A (wX7 T a0 S0)) {rec : (Int32 × (Nat → Nat → Int32)) → Option (Nat × (Nat → Nat → Int32))} (hrec : ∀ (c0 : Int32) (c1 : Nat → Nat → Int32) (b : Nat × (Nat → Nat → Int32)), rec (c0, c1) = some b → ((b.1 = 0 → zt p l e R s m args below meth c 4 A D 0 0 Q (wX7 T a0 b.2) [] 58 []) ∧ (b.1 = 1 → zt p l e R s m args below meth c 4 A D 0 0 Q (wX7 T a0 b.2) [(0, .ref (a0 99)), (1, .int v1)] 73 [])) → zt p l e R s m args below meth c 4 A D 0 0 Q (wX7 T a0 c1) [(0, .ref (a0 99)), (1, .int v1), (2, .int c0)] 11 []) {b : Nat × (Nat → Nat → Int32)} (K : (b.1 = 0 → zt p l e R s m args below meth c 4 A D 0 0 Q (wX7 T a0 b.2) [] 58 []) ∧ (b.1 = 1 → zt p l e R s m args below meth c 4 A D 0 0 Q (wX7 T a0 b.2) [(0, .ref (a0 99)), (1, .int v1)] 73 [])) (h : f_X7_laysLean_J53 rec S0 v1 x2 k0 = some b) : zt p l e R s m args below meth c 4 A D 0 0 Q (wX7 T a0 S0) [(0, .ref (a0 99)), (1, .int v1), (2, .int x2)] 53 [.int k0] := by
  unfold f_X7_laysLean_J53 at h
  refine z_istore_n C [(0, .ref (a0 99)), (1, .int v1), (2, .int x2), (3, .int k0)] dX7_laysLean_53 rfl (Nat.le_of_ble_eq_true rfl) [1, 2, 3, 0] rfl 54 rfl ?_
  refine z_iload_n C dX7_laysLean_54 rfl 3 rfl 55 rfl ?_
  refine z_if_ge C 60 dX7_laysLean_55 (by decide) 58 rfl h (fun h => ?_) (fun h => ?_)
  · refine z_aload_n C dX7_laysLean_60 rfl 0 rfl 61 rfl ?_
    refine z_iload_n C dX7_laysLean_61 rfl 1 rfl 62 rfl ?_
    refine z_iload_n C dX7_laysLean_62 rfl 2 rfl 63 rfl ?_
    refine z_iload_n C dX7_laysLean_63 rfl 3 rfl 64 rfl ?_
    refine z_callV C (wX7 T a0 S0) (([] : va_W)) (fun z => wX7 T a0 z) (fun z => wX7 T a0 z) (fun z h => c_X7_steps l D T a0  S0 v1 x2 k0 z h) ⟨rfl, rfl⟩ (z_cwV C 3 gX7_laysLean_X7_steps rfl rfl dd_X7_steps ⟨(Nat.le_of_ble_eq_true rfl), (Nat.le_of_ble_eq_true rfl)⟩) (hD.zaddr rfl) [0, 1, 2, 3, 4, 5, 6, 7, 8, 9, 10, 11, 12, 13, 14, 15, 16, 17] [] [0, 1, 2, 3, 4, 5, 6, 7, 8, 9, 10, 11, 12, 13, 14, 15, 16, 17] rfl rfl rfl (by decide) (fun _ => rfl) (fun _ => ⟨a0 99, [.int v1, .int x2, .int k0], 6, 0, _, _, rfl, rfl, rfl, rfl, rfl⟩) (fun h => absurd rfl h) rfl (Nat.le_of_ble_eq_true rfl) dX7_laysLean_64 67 rfl h (fun r_5 h => ?_)
    exact z_locals (ks := [0, 1, 2]) rfl (p_X7_laysLean_J67 C r_5 x2 (hD.zaddr rfl) hrec K h)
  · refine z_locals (ks := []) (lv' := []) rfl ?_
    exact zexT1 (F := (fun e0 => zt p l e R s m args below meth c 4 A D 0 0 Q (wX7 T a0 e0) [] 58 [])) h K.1

def f_X7_laysLean_L11b  (v1 : Int32) (rec : (Int32 × (Nat → Nat → Int32)) → Option (Nat × (Nat → Nat → Int32))) (a : Int32 × (Nat → Nat → Int32)) : Option (Nat × (Nat → Nat → Int32)) := if (a.2 2 0) ≤ a.1 then (some (1, a.2)) else ((f_X7_cell v1 a.1).bind fun r_2 => zix r_2 240 fun _ => if (a.2 27 (Int32.toNatClampNeg r_2)) ≤ 0 then (f_X7_laysLean_J67 rec a.2 v1 a.1) else (if v1 = 1 then (f_X7_laysLean_J53 rec a.2 v1 a.1 0) else ((f_X7_wants a.2 v1 a.1).bind fun r_3 => (f_X7_goesBy a.2 v1 a.1 r_3).bind fun r_4 => f_X7_laysLean_J53 rec a.2 v1 a.1 r_4)))
def f_X7_laysLean_L11  (v1 : Int32) : Nat → (Int32 × (Nat → Nat → Int32)) → Option (Nat × (Nat → Nat → Int32)) := zloop (fun rec a => f_X7_laysLean_L11b v1 rec a)
set_option maxHeartbeats 4000000 in
set_option maxRecDepth 100000 in
theorem p_X7_laysLean_L11 (C : zC p R s m args meth c cX7_laysLean 4 RX7 wsX7_laysLean D T 5 114 0 0) (S0 : Nat → Nat → Int32) (v1 : Int32) (hD : va_D A (wX7 T a0 S0)) : ∀ (n : Nat) (c0 : Int32) (c1 : Nat → Nat → Int32) (b : Nat × (Nat → Nat → Int32)), f_X7_laysLean_L11 v1 n (c0, c1) = some b → ((b.1 = 0 → zt p l e R s m args below meth c 4 A D 0 0 Q (wX7 T a0 b.2) [] 58 []) ∧ (b.1 = 1 → zt p l e R s m args below meth c 4 A D 0 0 Q (wX7 T a0 b.2) [(0, .ref (a0 99)), (1, .int v1)] 73 [])) → zt p l e R s m args below meth c 4 A D 0 0 Q (wX7 T a0 c1) [(0, .ref (a0 99)), (1, .int v1), (2, .int c0)] 11 [] := by
  intro n c0 c1 b h K
  refine zloop_ind (P := fun a b => ((b.1 = 0 → zt p l e R s m args below meth c 4 A D 0 0 Q (wX7 T a0 b.2) [] 58 []) ∧ (b.1 = 1 → zt p l e R s m args below meth c 4 A D 0 0 Q (wX7 T a0 b.2) [(0, .ref (a0 99)), (1, .int v1)] 73 [])) → zt p l e R s m args below meth c 4 A D 0 0 Q (wX7 T a0 a.2) [(0, .ref (a0 99)), (1, .int v1), (2, .int a.1)] 11 []) ?_ n (c0, c1) b h K
  clear h K b c0 c1
  intro rec hrec a b h K
  have hrec : ∀ (c0 : Int32) (c1 : Nat → Nat → Int32) (b : Nat × (Nat → Nat → Int32)), rec (c0, c1) = some b → ((b.1 = 0 → zt p l e R s m args below meth c 4 A D 0 0 Q (wX7 T a0 b.2) [] 58 []) ∧ (b.1 = 1 → zt p l e R s m args below meth c 4 A D 0 0 Q (wX7 T a0 b.2) [(0, .ref (a0 99)), (1, .int v1)] 73 [])) → zt p l e R s m args below meth c 4 A D 0 0 Q (wX7 T a0 c1) [(0, .ref (a0 99)), (1, .int v1), (2, .int c0)] 11 [] := fun c0 c1 b h K => hrec (c0, c1) b h K
  unfold f_X7_laysLean_L11b at h
  refine z_iload_n C dX7_laysLean_11 rfl 2 rfl 12 rfl ?_
  refine z_aload_n C dX7_laysLean_12 rfl 0 rfl 13 rfl ?_
  refine z_get C (in_X7_laysLean_X7) 0 rfl rfl 2 (by decide) (List.mem_of_getElem? (i := 2) rfl) rfl rfl dX7_laysLean_13 16 rfl ?_
  refine z_icmp_ge C 73 dX7_laysLean_16 (by decide) 19 rfl h (fun h => ?_) (fun h => ?_)
  · refine z_locals (ks := [0, 1]) (lv' := [(0, .ref (a0 99)), (1, .int v1)]) rfl ?_
    exact zexT1 (F := (fun e0 => zt p l e R s m args below meth c 4 A D 0 0 Q (wX7 T a0 e0) [(0, .ref (a0 99)), (1, .int v1)] 73 [])) h K.2
  · refine z_aload_n C dX7_laysLean_19 rfl 0 rfl 20 rfl ?_
    refine z_get C (in_X7_laysLean_X7) 0 rfl rfl 27 (by decide) (List.mem_of_getElem? (i := 3) rfl) rfl rfl dX7_laysLean_20 23 rfl ?_
    refine z_iload_n C dX7_laysLean_23 rfl 1 rfl 24 rfl ?_
    refine z_iload_n C dX7_laysLean_24 rfl 2 rfl 25 rfl ?_
    refine z_callR C ([]) (fun v h => c_X7_cell l D T    v1 a.1 v h) ⟨rfl, rfl⟩ (z_cwS C 2 gX7_laysLean_X7_cell rfl dd_X7_cell ⟨(Nat.le_of_ble_eq_true rfl), (Nat.le_of_ble_eq_true rfl)⟩) (hD.zaddr rfl) [] rfl rfl (fun h => absurd h (by decide)) (fun _ => rfl) rfl (Nat.le_of_ble_eq_true rfl) dX7_laysLean_25 28 rfl h (fun r_2 h => ?_)
    refine z_iald C 10 rfl rfl dX7_laysLean_28 29 rfl h (fun h => ?_)
    refine z_if_le C 67 dX7_laysLean_29 (by decide) 32 rfl h (fun h => ?_) (fun h => ?_)
    · exact z_locals (ks := [0, 1, 2]) rfl (p_X7_laysLean_J67 C a.2 a.1 (hD.zaddr rfl) hrec K h)
    · refine z_iload_n C dX7_laysLean_32 rfl 1 rfl 33 rfl ?_
      refine z_iconst C 1 dX7_laysLean_33 (by decide) 34 rfl ?_
      refine z_icmp_ne C 41 dX7_laysLean_34 (by decide) 37 rfl h (fun h => ?_) (fun h => ?_)
      · refine z_aload_n C dX7_laysLean_41 rfl 0 rfl 42 rfl ?_
        refine z_iload_n C dX7_laysLean_42 rfl 1 rfl 43 rfl ?_
        refine z_iload_n C dX7_laysLean_43 rfl 2 rfl 44 rfl ?_
        refine z_aload_n C dX7_laysLean_44 rfl 0 rfl 45 rfl ?_
        refine z_iload_n C dX7_laysLean_45 rfl 1 rfl 46 rfl ?_
        refine z_iload_n C dX7_laysLean_46 rfl 2 rfl 47 rfl ?_
        refine z_callR C (wX7 T a0 a.2) (fun v h => c_X7_wants l D T a0  a.2 v1 a.1 v h) ⟨rfl, rfl⟩ (z_cwV C 2 gX7_laysLean_X7_wants rfl rfl dd_X7_wants ⟨(Nat.le_of_ble_eq_true rfl), (Nat.le_of_ble_eq_true rfl)⟩) (hD.zaddr rfl) [0, 1, 2, 3, 4, 5, 6, 7, 8, 9, 10, 11, 12, 13, 14, 15, 16, 17] rfl rfl (fun _ => ⟨a0 99, [.int v1, .int a.1], 6, 0, _, _, rfl, rfl, rfl, rfl, rfl⟩) (fun h => absurd rfl h) rfl (Nat.le_of_ble_eq_true rfl) dX7_laysLean_47 50 rfl h (fun r_3 h => ?_)
        refine z_callR C (wX7 T a0 a.2) (fun v h => c_X7_goesBy l D T a0  a.2 v1 a.1 r_3 v h) ⟨rfl, rfl⟩ (z_cwV C 3 gX7_laysLean_X7_goesBy rfl rfl dd_X7_goesBy ⟨(Nat.le_of_ble_eq_true rfl), (Nat.le_of_ble_eq_true rfl)⟩) (hD.zaddr rfl) [0, 1, 2, 3, 4, 5, 6, 7, 8, 9, 10, 11, 12, 13, 14, 15, 16, 17] rfl rfl (fun _ => ⟨a0 99, [.int v1, .int a.1, .int r_3], 6, 0, _, _, rfl, rfl, rfl, rfl, rfl⟩) (fun h => absurd rfl h) rfl (Nat.le_of_ble_eq_true rfl) dX7_laysLean_50 53 rfl h (fun r_4 h => ?_)
        exact z_locals (ks := [0, 1, 2]) rfl (p_X7_laysLean_J53 C a.2 a.1 r_4 (hD.zaddr rfl) hrec K h)
      · refine z_iconst C 0 dX7_laysLean_37 (by decide) 38 rfl ?_
        refine z_goto C 53 dX7_laysLean_38 (by decide) ?_
        exact z_locals (ks := [0, 1, 2]) rfl (p_X7_laysLean_J53 C a.2 a.1 0 (hD.zaddr rfl) hrec K h)

def f_X7_laysLean_L5b   (rec : (Int32 × (Nat → Nat → Int32)) → Option (Nat × (Nat → Nat → Int32))) (a : Int32 × (Nat → Nat → Int32)) : Option (Nat × (Nat → Nat → Int32)) := if a.1 ≤ 0 then (some (1, a.2)) else ((f_X7_laysLean_L11 a.1 zfuel (0, a.2)).bind fun y_6 => if y_6.1 = 0 then (some (0, y_6.2)) else (rec ((a.1 + (-1)), y_6.2)))
def f_X7_laysLean_L5   : Nat → (Int32 × (Nat → Nat → Int32)) → Option (Nat × (Nat → Nat → Int32)) := zloop (fun rec a => f_X7_laysLean_L5b  rec a)
set_option maxHeartbeats 4000000 in
set_option maxRecDepth 100000 in
theorem p_X7_laysLean_L5 (C : zC p R s m args meth c cX7_laysLean 4 RX7 wsX7_laysLean D T 5 114 0 0) (S0 : Nat → Nat → Int32)  (hD : va_D A (wX7 T a0 S0)) : ∀ (n : Nat) (c0 : Int32) (c1 : Nat → Nat → Int32) (b : Nat × (Nat → Nat → Int32)), f_X7_laysLean_L5  n (c0, c1) = some b → ((b.1 = 0 → zt p l e R s m args below meth c 4 A D 0 0 Q (wX7 T a0 b.2) [] 58 []) ∧ (b.1 = 1 → zt p l e R s m args below meth c 4 A D 0 0 Q (wX7 T a0 b.2) [] 79 [])) → zt p l e R s m args below meth c 4 A D 0 0 Q (wX7 T a0 c1) [(0, .ref (a0 99)), (1, .int c0)] 5 [] := by
  intro n c0 c1 b h K
  refine zloop_ind (P := fun a b => ((b.1 = 0 → zt p l e R s m args below meth c 4 A D 0 0 Q (wX7 T a0 b.2) [] 58 []) ∧ (b.1 = 1 → zt p l e R s m args below meth c 4 A D 0 0 Q (wX7 T a0 b.2) [] 79 [])) → zt p l e R s m args below meth c 4 A D 0 0 Q (wX7 T a0 a.2) [(0, .ref (a0 99)), (1, .int a.1)] 5 []) ?_ n (c0, c1) b h K
  clear h K b c0 c1
  intro rec hrec a b h K
  have hrec : ∀ (c0 : Int32) (c1 : Nat → Nat → Int32) (b : Nat × (Nat → Nat → Int32)), rec (c0, c1) = some b → ((b.1 = 0 → zt p l e R s m args below meth c 4 A D 0 0 Q (wX7 T a0 b.2) [] 58 []) ∧ (b.1 = 1 → zt p l e R s m args below meth c 4 A D 0 0 Q (wX7 T a0 b.2) [] 79 [])) → zt p l e R s m args below meth c 4 A D 0 0 Q (wX7 T a0 c1) [(0, .ref (a0 99)), (1, .int c0)] 5 [] := fun c0 c1 b h K => hrec (c0, c1) b h K
  unfold f_X7_laysLean_L5b at h
  refine z_iload_n C dX7_laysLean_5 rfl 1 rfl 6 rfl ?_
  refine z_if_le C 79 dX7_laysLean_6 (by decide) 9 rfl h (fun h => ?_) (fun h => ?_)
  · refine z_locals (ks := []) (lv' := []) rfl ?_
    exact zexT1 (F := (fun e0 => zt p l e R s m args below meth c 4 A D 0 0 Q (wX7 T a0 e0) [] 79 [])) h K.2
  · refine z_iconst C 0 dX7_laysLean_9 (by decide) 10 rfl ?_
    refine z_istore_n C [(0, .ref (a0 99)), (1, .int a.1), (2, .int 0)] dX7_laysLean_10 rfl (Nat.le_of_ble_eq_true rfl) [1, 2, 0] rfl 11 rfl ?_
    obtain ⟨y_6, hl_y_6, h⟩ := Option.bind_eq_some_iff.mp h
    refine z_locals (ks := [0, 1, 2]) rfl (p_X7_laysLean_L11 C a.2 a.1 (hD.zaddr rfl) _ _ _ _ hl_y_6 ⟨fun ht => ?_, fun ht => ?_⟩)
    · replace h := z_pos ht h
      refine z_locals (ks := []) (lv' := []) rfl ?_
      exact zexT1 (F := (fun e0 => zt p l e R s m args below meth c 4 A D 0 0 Q (wX7 T a0 e0) [] 58 [])) h K.1
    · replace h := z_neg (by rw [ht]; decide) h
      refine z_iinc C (a.1 + (-1)) [(0, .ref (a0 99)), (1, .int (a.1 + (-1)))] dX7_laysLean_73 1 rfl rfl (Nat.le_of_ble_eq_true rfl) [1, 0] rfl 76 rfl ?_
      refine z_goto C 5 dX7_laysLean_76 (by decide) ?_
      exact z_locals (ks := [0, 1]) rfl (hrec _ _ _ h K)

def f_X7_laysLean (S0 : Nat → Nat → Int32)  : Option (Int32 × (Nat → Nat → Int32)) := zlet (S0 1 0) fun u_1 => (f_X7_laysLean_L5  zfuel (u_1, S0)).bind fun y_7 => if y_7.1 = 0 then (some (0, y_7.2)) else (some (1, y_7.2))
theorem dd_X7_laysLean : RX7 ≠ "java/lang/invoke/MethodHandle" ∧ RX7 ≠ "java/lang/invoke/VarHandle" ∧ (parseMethodDescriptor yX7_laysLean.desc).map (fun d => d.parameters.length) = some 0 := by decide +kernel
set_option maxHeartbeats 4000000 in
set_option maxRecDepth 100000 in
theorem c_X7_laysLean (l : Launch) (D : va_G) (T : Nat → ClassId) (a0 : Nat → Nat) (S0 : Nat → Nat → Int32)  (ex : Int32 × (Nat → Nat → Int32)) (h : f_X7_laysLean S0 = some ex) : zWI l yX7_laysLean wsX7_laysLean ({ frames := 5, cells := 0, slots := 0, locals := 114 } : Room) D T [.ref (a0 99)] (wX7 T a0 S0) ex.1 (wX7 T a0 ex.2) := by
  refine z_begin (cc := cX7_laysLean) (nL := 4) (own := RX7) (fr := 5) (lc := 114) (ret := some .boolean) (by decide) rfl (Nat.le_of_ble_eq_true rfl) (zA (wX7 T a0 S0)) rfl [(0, .ref (a0 99))] rfl ⟨rfl, rfl⟩ rfl ?_
  intro p e s m args below meth c C hr hD
  have hD := hD.zself
  unfold f_X7_laysLean at h
  refine z_aload_n C dX7_laysLean_0 rfl 0 rfl 1 rfl ?_
  refine z_get C (in_X7_laysLean_X7) 0 rfl rfl 1 (by decide) (List.mem_of_getElem? (i := 1) rfl) rfl rfl dX7_laysLean_1 4 rfl ?_
  refine z_top h (fun u_1 h => ?_)
  refine z_istore_n C [(0, .ref (a0 99)), (1, .int u_1)] dX7_laysLean_4 rfl (Nat.le_of_ble_eq_true rfl) [1, 0] rfl 5 rfl ?_
  obtain ⟨y_7, hl_y_7, h⟩ := Option.bind_eq_some_iff.mp h
  refine z_locals (ks := [0, 1]) rfl (p_X7_laysLean_L5 C S0  (hD.zaddr rfl) _ _ _ _ hl_y_7 ⟨fun ht => ?_, fun ht => ?_⟩)
  · replace h := z_pos ht h
    refine z_iconst C 0 dX7_laysLean_58 (by decide) 59 rfl ?_
    exact z_zretWc (x := y_7.2) (ex := ex) (fun z => wX7 T a0 z) C hr dX7_laysLean_59 (Or.inl rfl) h rfl
  · replace h := z_neg (by rw [ht]; decide) h
    refine z_iconst C 1 dX7_laysLean_79 (by decide) 80 rfl ?_
    exact z_zretWc (x := y_7.2) (ex := ex) (fun z => wX7 T a0 z) C hr dX7_laysLean_80 (Or.inr rfl) h rfl

end
