/-! StreamTree.isWithin (III)Z -/
section
variable {p : Program} {l : Launch} {e : Env} {R : Room} {s : State} {m : MethodId} {args : Array Value} {below : List Frame} {meth : Method} {c : Code} {Q : State → Prop} {A : Nat → Prop} {D : va_G} {T : Nat → ClassId} 
def f_X6_isWithin  (v0 : Int32) (v1 : Int32) (v2 : Int32) : Option (Int32) := if v0 < v1 then (some 0) else (if v2 < v0 then (some 0) else (some 1))
theorem dd_X6_isWithin : RX6 ≠ "java/lang/invoke/MethodHandle" ∧ RX6 ≠ "java/lang/invoke/VarHandle" ∧ (parseMethodDescriptor yX6_isWithin.desc).map (fun d => d.parameters.length) = some 3 := by decide +kernel
set_option maxHeartbeats 4000000 in
set_option maxRecDepth 100000 in
theorem c_X6_isWithin (l : Launch) (D : va_G) (T : Nat → ClassId)   (v0 : Int32) (v1 : Int32) (v2 : Int32) (ex : Int32) (h : f_X6_isWithin v0 v1 v2 = some ex) : zRI l yX6_isWithin wsX6_isWithin ({ frames := 0, cells := 0, slots := 0, locals := 0 } : Room) D T [.int v0, .int v1, .int v2] ([]) ex := by
  refine z_begin (cc := cX6_isWithin) (nL := 3) (own := RX6) (fr := 0) (lc := 0) (ret := some .boolean) (by decide) rfl (Nat.le_of_ble_eq_true rfl) (fun _ => False) rfl [(0, .int v0), (1, .int v1), (2, .int v2)] rfl ⟨rfl, rfl⟩ rfl ?_
  intro p e s m args below meth c C hr hD
  unfold f_X6_isWithin at h
  refine z_iload_n C dX6_isWithin_0 rfl 0 rfl 1 rfl ?_
  refine z_iload_n C dX6_isWithin_1 rfl 1 rfl 2 rfl ?_
  refine z_icmp_lt C 14 dX6_isWithin_2 (by decide) 5 rfl h (fun h => ?_) (fun h => ?_)
  · refine z_iconst C 0 dX6_isWithin_14 (by decide) 15 rfl ?_
    exact z_zretRc C hr dX6_isWithin_15 (Or.inl rfl) h
  · refine z_iload_n C dX6_isWithin_5 rfl 0 rfl 6 rfl ?_
    refine z_iload_n C dX6_isWithin_6 rfl 2 rfl 7 rfl ?_
    refine z_icmp_gt C 14 dX6_isWithin_7 (by decide) 10 rfl h (fun h => ?_) (fun h => ?_)
    · refine z_iconst C 0 dX6_isWithin_14 (by decide) 15 rfl ?_
      exact z_zretRc C hr dX6_isWithin_15 (Or.inl rfl) h
    · refine z_iconst C 1 dX6_isWithin_10 (by decide) 11 rfl ?_
      refine z_goto C 15 dX6_isWithin_11 (by decide) ?_
      exact z_zretRc C hr dX6_isWithin_15 (Or.inr rfl) h

end
/-! StreamTree.cellOf (II)I -/
section
variable {p : Program} {l : Launch} {e : Env} {R : Room} {s : State} {m : MethodId} {args : Array Value} {below : List Frame} {meth : Method} {c : Code} {Q : State → Prop} {A : Nat → Prop} {D : va_G} {T : Nat → ClassId} 
def f_X6_cellOf  (v0 : Int32) (v1 : Int32) : Option (Int32) := some ((v0 * 24) + v1)
theorem dd_X6_cellOf : RX6 ≠ "java/lang/invoke/MethodHandle" ∧ RX6 ≠ "java/lang/invoke/VarHandle" ∧ (parseMethodDescriptor yX6_cellOf.desc).map (fun d => d.parameters.length) = some 2 := by decide +kernel
set_option maxHeartbeats 4000000 in
set_option maxRecDepth 100000 in
theorem c_X6_cellOf (l : Launch) (D : va_G) (T : Nat → ClassId)   (v0 : Int32) (v1 : Int32) (ex : Int32) (h : f_X6_cellOf v0 v1 = some ex) : zRI l yX6_cellOf wsX6_cellOf ({ frames := 0, cells := 0, slots := 0, locals := 0 } : Room) D T [.int v0, .int v1] ([]) ex := by
  refine z_begin (cc := cX6_cellOf) (nL := 2) (own := RX6) (fr := 0) (lc := 0) (ret := some .int) (by decide) rfl (Nat.le_of_ble_eq_true rfl) (fun _ => False) rfl [(0, .int v0), (1, .int v1)] rfl ⟨rfl, rfl⟩ rfl ?_
  intro p e s m args below meth c C hr hD
  unfold f_X6_cellOf at h
  refine z_iload_n C dX6_cellOf_0 rfl 0 rfl 1 rfl ?_
  refine z_bipush C 24 dX6_cellOf_1 (by decide) 3 rfl ?_
  refine z_imul C dX6_cellOf_3 4 rfl ?_
  refine z_iload_n C dX6_cellOf_4 rfl 1 rfl 5 rfl ?_
  refine z_iadd C dX6_cellOf_5 6 rfl ?_
  exact z_iretR C hr dX6_cellOf_6 h

end
/-! StreamTree$Chart.hasCell (II)Z -/
section
variable {p : Program} {l : Launch} {e : Env} {R : Room} {s : State} {m : MethodId} {args : Array Value} {below : List Frame} {meth : Method} {c : Code} {Q : State → Prop} {A : Nat → Prop} {D : va_G} {T : Nat → ClassId} {a0 : Nat → Nat}
theorem in_X1_hasCell_X1 : ∀ w ∈ u_ws RX1 TX1 10, w ∈ wsX1_hasCell := fun _ h => (List.mem_cons_of_mem _ (List.mem_append_right _ h))
def f_X1_hasCell (S0 : Nat → Nat → Int32) (v1 : Int32) (v2 : Int32) : Option (Int32) := (f_X6_isWithin v1 1 (S0 0 0)).bind fun r_1 => if r_1 = 0 then (some 0) else ((f_X6_isWithin v2 0 ((S0 1 0) - 1)).bind fun r_2 => if r_2 = 0 then (some 0) else (some 1))
theorem dd_X1_hasCell : RX1 ≠ "java/lang/invoke/MethodHandle" ∧ RX1 ≠ "java/lang/invoke/VarHandle" ∧ (parseMethodDescriptor yX1_hasCell.desc).map (fun d => d.parameters.length) = some 2 := by decide +kernel
set_option maxHeartbeats 4000000 in
set_option maxRecDepth 100000 in
theorem c_X1_hasCell (l : Launch) (D : va_G) (T : Nat → ClassId) (a0 : Nat → Nat) (S0 : Nat → Nat → Int32) (v1 : Int32) (v2 : Int32) (ex : Int32) (h : f_X1_hasCell S0 v1 v2 = some ex) : zRI l yX1_hasCell wsX1_hasCell ({ frames := 1, cells := 0, slots := 0, locals := 22 } : Room) D T [.ref (a0 99), .int v1, .int v2] (wX1 T a0 S0) ex := by
  refine z_begin (cc := cX1_hasCell) (nL := 3) (own := RX1) (fr := 1) (lc := 22) (ret := some .boolean) (by decide) rfl (Nat.le_of_ble_eq_true rfl) (fun _ => False) rfl [(0, .ref (a0 99)), (1, .int v1), (2, .int v2)] rfl ⟨rfl, rfl⟩ rfl ?_
  intro p e s m args below meth c C hr hD
  unfold f_X1_hasCell at h
  refine z_iload_n C dX1_hasCell_0 rfl 1 rfl 1 rfl ?_
  refine z_iconst C 1 dX1_hasCell_1 (by decide) 2 rfl ?_
  refine z_aload_n C dX1_hasCell_2 rfl 0 rfl 3 rfl ?_
  refine z_get C (in_X1_hasCell_X1) 0 rfl rfl 0 (by decide) (List.mem_of_getElem? (i := 1) rfl) rfl rfl dX1_hasCell_3 6 rfl ?_
  refine z_callR C ([]) (fun v h => c_X6_isWithin l D T   v1 1 (S0 0 0) v h) ⟨rfl, rfl⟩ (z_cwN C 3 gX1_hasCell_X6_isWithin_n51 rfl (List.mem_of_getElem? (i := 6) rfl) (List.mem_of_getElem? (i := 3) rfl) (List.mem_of_getElem? (i := 4) rfl) dd_X6_isWithin ⟨(Nat.le_of_ble_eq_true rfl), (Nat.le_of_ble_eq_true rfl)⟩) (hD.zaddr rfl) [] rfl rfl (fun h => absurd h (by decide)) (fun _ => rfl) rfl (Nat.le_of_ble_eq_true rfl) dX1_hasCell_6 9 rfl h (fun r_1 h => ?_)
  refine z_if_eq C 30 dX1_hasCell_9 (by decide) 12 rfl h (fun h => ?_) (fun h => ?_)
  · refine z_iconst C 0 dX1_hasCell_30 (by decide) 31 rfl ?_
    exact z_zretRc C hr dX1_hasCell_31 (Or.inl rfl) h
  · refine z_iload_n C dX1_hasCell_12 rfl 2 rfl 13 rfl ?_
    refine z_iconst C 0 dX1_hasCell_13 (by decide) 14 rfl ?_
    refine z_aload_n C dX1_hasCell_14 rfl 0 rfl 15 rfl ?_
    refine z_get C (in_X1_hasCell_X1) 0 rfl rfl 1 (by decide) (List.mem_of_getElem? (i := 2) rfl) rfl rfl dX1_hasCell_15 18 rfl ?_
    refine z_iconst C 1 dX1_hasCell_18 (by decide) 19 rfl ?_
    refine z_isub C dX1_hasCell_19 20 rfl ?_
    refine z_callR C ([]) (fun v h => c_X6_isWithin l D T   v2 0 ((S0 1 0) - 1) v h) ⟨rfl, rfl⟩ (z_cwN C 3 gX1_hasCell_X6_isWithin_n51 rfl (List.mem_of_getElem? (i := 6) rfl) (List.mem_of_getElem? (i := 3) rfl) (List.mem_of_getElem? (i := 4) rfl) dd_X6_isWithin ⟨(Nat.le_of_ble_eq_true rfl), (Nat.le_of_ble_eq_true rfl)⟩) (hD.zaddr rfl) [] rfl rfl (fun h => absurd h (by decide)) (fun _ => rfl) rfl (Nat.le_of_ble_eq_true rfl) dX1_hasCell_20 23 rfl h (fun r_2 h => ?_)
    refine z_if_eq C 30 dX1_hasCell_23 (by decide) 26 rfl h (fun h => ?_) (fun h => ?_)
    · refine z_iconst C 0 dX1_hasCell_30 (by decide) 31 rfl ?_
      exact z_zretRc C hr dX1_hasCell_31 (Or.inl rfl) h
    · refine z_iconst C 1 dX1_hasCell_26 (by decide) 27 rfl ?_
      refine z_goto C 31 dX1_hasCell_27 (by decide) ?_
      exact z_zretRc C hr dX1_hasCell_31 (Or.inr rfl) h

end
/-! StreamTree$Chart.hasCellOrSource (II)Z -/
section
variable {p : Program} {l : Launch} {e : Env} {R : Room} {s : State} {m : MethodId} {args : Array Value} {below : List Frame} {meth : Method} {c : Code} {Q : State → Prop} {A : Nat → Prop} {D : va_G} {T : Nat → ClassId} {a0 : Nat → Nat}
def f_X1_hasCellOrSource (S0 : Nat → Nat → Int32) (v1 : Int32) (v2 : Int32) : Option (Int32) := (f_X1_hasCell S0 v1 v2).bind fun r_1 => if r_1 = 0 then (if v1 = 0 then (if v2 = 0 then (some 1) else (some 0)) else (some 0)) else (some 1)
theorem dd_X1_hasCellOrSource : RX1 ≠ "java/lang/invoke/MethodHandle" ∧ RX1 ≠ "java/lang/invoke/VarHandle" ∧ (parseMethodDescriptor yX1_hasCellOrSource.desc).map (fun d => d.parameters.length) = some 2 := by decide +kernel
set_option maxHeartbeats 4000000 in
set_option maxRecDepth 100000 in
theorem c_X1_hasCellOrSource (l : Launch) (D : va_G) (T : Nat → ClassId) (a0 : Nat → Nat) (S0 : Nat → Nat → Int32) (v1 : Int32) (v2 : Int32) (ex : Int32) (h : f_X1_hasCellOrSource S0 v1 v2 = some ex) : zRI l yX1_hasCellOrSource wsX1_hasCellOrSource ({ frames := 2, cells := 0, slots := 0, locals := 44 } : Room) D T [.ref (a0 99), .int v1, .int v2] (wX1 T a0 S0) ex := by
  refine z_begin (cc := cX1_hasCellOrSource) (nL := 3) (own := RX1) (fr := 2) (lc := 44) (ret := some .boolean) (by decide) rfl (Nat.le_of_ble_eq_true rfl) (fun _ => False) rfl [(0, .ref (a0 99)), (1, .int v1), (2, .int v2)] rfl ⟨rfl, rfl⟩ rfl ?_
  intro p e s m args below meth c C hr hD
  unfold f_X1_hasCellOrSource at h
  refine z_aload_n C dX1_hasCellOrSource_0 rfl 0 rfl 1 rfl ?_
  refine z_iload_n C dX1_hasCellOrSource_1 rfl 1 rfl 2 rfl ?_
  refine z_iload_n C dX1_hasCellOrSource_2 rfl 2 rfl 3 rfl ?_
  refine z_callR C (wX1 T a0 S0) (fun v h => c_X1_hasCell l D T a0 S0 v1 v2 v h) ⟨rfl, rfl⟩ (z_cwV C 2 gX1_hasCellOrSource_X1_hasCell rfl rfl dd_X1_hasCell ⟨(Nat.le_of_ble_eq_true rfl), (Nat.le_of_ble_eq_true rfl)⟩) (hD.zaddr rfl) [0, 1, 2, 3, 4] rfl rfl (fun _ => ⟨a0 99, [.int v1, .int v2], 1, 0, _, _, rfl, rfl, rfl, rfl, rfl⟩) (fun h => absurd rfl h) rfl (Nat.le_of_ble_eq_true rfl) dX1_hasCellOrSource_3 6 rfl h (fun r_1 h => ?_)
  refine z_if_ne C 17 dX1_hasCellOrSource_6 (by decide) 9 rfl h (fun h => ?_) (fun h => ?_)
  · refine z_iconst C 1 dX1_hasCellOrSource_17 (by decide) 18 rfl ?_
    refine z_goto C 22 dX1_hasCellOrSource_18 (by decide) ?_
    exact z_zretRc C hr dX1_hasCellOrSource_22 (Or.inr rfl) h
  · refine z_iload_n C dX1_hasCellOrSource_9 rfl 1 rfl 10 rfl ?_
    refine z_if_ne C 21 dX1_hasCellOrSource_10 (by decide) 13 rfl h (fun h => ?_) (fun h => ?_)
    · refine z_iconst C 0 dX1_hasCellOrSource_21 (by decide) 22 rfl ?_
      exact z_zretRc C hr dX1_hasCellOrSource_22 (Or.inl rfl) h
    · refine z_iload_n C dX1_hasCellOrSource_13 rfl 2 rfl 14 rfl ?_
      refine z_if_ne C 21 dX1_hasCellOrSource_14 (by decide) 17 rfl h (fun h => ?_) (fun h => ?_)
      · refine z_iconst C 0 dX1_hasCellOrSource_21 (by decide) 22 rfl ?_
        exact z_zretRc C hr dX1_hasCellOrSource_22 (Or.inl rfl) h
      · refine z_iconst C 1 dX1_hasCellOrSource_17 (by decide) 18 rfl ?_
        refine z_goto C 22 dX1_hasCellOrSource_18 (by decide) ?_
        exact z_zretRc C hr dX1_hasCellOrSource_22 (Or.inr rfl) h

end
/-! StreamTree$Chart.placeAt (II)I -/
section
variable {p : Program} {l : Launch} {e : Env} {R : Room} {s : State} {m : MethodId} {args : Array Value} {below : List Frame} {meth : Method} {c : Code} {Q : State → Prop} {A : Nat → Prop} {D : va_G} {T : Nat → ClassId} {a0 : Nat → Nat}
theorem in_X1_placeAt_X1 : ∀ w ∈ u_ws RX1 TX1 10, w ∈ wsX1_placeAt := fun _ h => (List.mem_cons_of_mem _ (List.mem_append_right _ h))
def f_X1_placeAt_J32 (rec : Int32 → Option (Nat × Int32)) (S0 : Nat → Nat → Int32) (v1 : Int32) (v2 : Int32) (x3 : Int32)  : Option (Nat × Int32) := rec (x3 + 1)
set_option maxHeartbeats 4000000 in
set_option maxRecDepth 100000 in
theorem p_X1_placeAt_J32 (C : zC p R s m args meth c cX1_placeAt 4 RX1 wsX1_placeAt D T 0 0 0 0) (S0 : Nat → Nat → Int32) {v1 : Int32} {v2 : Int32} (x3 : Int32)  (hD : va_D (fun _ => True) (wX1 T a0 S0)) {rec : Int32 → Option (Nat × Int32)} (hrec : ∀ (a : Int32) (b : Nat × Int32), rec a = some b → ((b.1 = 0 → zt p l e R s m args below meth c 4 A D 0 0 Q (wX1 T a0 S0) [(3, .int b.2)] 30 []) ∧ (b.1 = 1 → zt p l e R s m args below meth c 4 A D 0 0 Q (wX1 T a0 S0) [] 38 [])) → zt p l e R s m args below meth c 4 A D 0 0 Q (wX1 T a0 S0) [(0, .ref (a0 99)), (1, .int v1), (2, .int v2), (3, .int a)] 2 []) {b : Nat × Int32} (K : (b.1 = 0 → zt p l e R s m args below meth c 4 A D 0 0 Q (wX1 T a0 S0) [(3, .int b.2)] 30 []) ∧ (b.1 = 1 → zt p l e R s m args below meth c 4 A D 0 0 Q (wX1 T a0 S0) [] 38 [])) (h : f_X1_placeAt_J32 rec S0 v1 v2 x3 = some b) : zt p l e R s m args below meth c 4 A D 0 0 Q (wX1 T a0 S0) [(0, .ref (a0 99)), (1, .int v1), (2, .int v2), (3, .int x3)] 32 [] := by
  unfold f_X1_placeAt_J32 at h
  refine z_iinc C (x3 + 1) [(0, .ref (a0 99)), (1, .int v1), (2, .int v2), (3, .int (x3 + 1))] dX1_placeAt_32 3 rfl rfl (Nat.le_of_ble_eq_true rfl) [1, 2, 3, 0] rfl 35 rfl ?_
  refine z_goto C 2 dX1_placeAt_35 (by decide) ?_
  exact z_locals (ks := [0, 1, 2, 3]) rfl (hrec _ _ h K)

def f_X1_placeAt_L2b (S0 : Nat → Nat → Int32) (v1 : Int32) (v2 : Int32) (rec : Int32 → Option (Nat × Int32)) (a : Int32) : Option (Nat × Int32) := if (S0 5 0) ≤ a then (some (1, 0)) else (zix a 7 fun _ => if (S0 6 (Int32.toNatClampNeg a)) = v1 then (zix a 7 fun _ => if (S0 7 (Int32.toNatClampNeg a)) = v2 then (some (0, a)) else (f_X1_placeAt_J32 rec S0 v1 v2 a)) else (f_X1_placeAt_J32 rec S0 v1 v2 a))
def f_X1_placeAt_L2 (S0 : Nat → Nat → Int32) (v1 : Int32) (v2 : Int32) : Nat → Int32 → Option (Nat × Int32) := zloop (fun rec a => f_X1_placeAt_L2b S0 v1 v2 rec a)
set_option maxHeartbeats 4000000 in
set_option maxRecDepth 100000 in
theorem p_X1_placeAt_L2 (C : zC p R s m args meth c cX1_placeAt 4 RX1 wsX1_placeAt D T 0 0 0 0) (S0 : Nat → Nat → Int32) (v1 : Int32) (v2 : Int32) (hD : va_D (fun _ => True) (wX1 T a0 S0)) : ∀ (n : Nat) (a : Int32) (b : Nat × Int32), f_X1_placeAt_L2 S0 v1 v2 n a = some b → ((b.1 = 0 → zt p l e R s m args below meth c 4 A D 0 0 Q (wX1 T a0 S0) [(3, .int b.2)] 30 []) ∧ (b.1 = 1 → zt p l e R s m args below meth c 4 A D 0 0 Q (wX1 T a0 S0) [] 38 [])) → zt p l e R s m args below meth c 4 A D 0 0 Q (wX1 T a0 S0) [(0, .ref (a0 99)), (1, .int v1), (2, .int v2), (3, .int a)] 2 [] := by
  refine zloop_ind ?_
  intro rec hrec a b h K
  unfold f_X1_placeAt_L2b at h
  refine z_iload_n C dX1_placeAt_2 rfl 3 rfl 3 rfl ?_
  refine z_aload_n C dX1_placeAt_3 rfl 0 rfl 4 rfl ?_
  refine z_get C (in_X1_placeAt_X1) 0 rfl rfl 5 (by decide) (List.mem_of_getElem? (i := 1) rfl) rfl rfl dX1_placeAt_4 7 rfl ?_
  refine z_icmp_ge C 38 dX1_placeAt_7 (by decide) 10 rfl h (fun h => ?_) (fun h => ?_)
  · cases h
    exact z_locals (ks := []) rfl (K.2 rfl)
  · refine z_aload_n C dX1_placeAt_10 rfl 0 rfl 11 rfl ?_
    refine z_get C (in_X1_placeAt_X1) 0 rfl rfl 6 (by decide) (List.mem_of_getElem? (i := 2) rfl) rfl rfl dX1_placeAt_11 14 rfl ?_
    refine z_iload_n C dX1_placeAt_14 rfl 3 rfl 15 rfl ?_
    refine z_iald C 1 rfl rfl dX1_placeAt_15 16 rfl h (fun h => ?_)
    refine z_iload_n C dX1_placeAt_16 rfl 1 rfl 17 rfl ?_
    refine z_icmp_ne C 32 dX1_placeAt_17 (by decide) 20 rfl h (fun h => ?_) (fun h => ?_)
    · exact z_locals (ks := [0, 1, 2, 3]) rfl (p_X1_placeAt_J32 C S0 a (hD.zaddr rfl) hrec K h)
    · refine z_aload_n C dX1_placeAt_20 rfl 0 rfl 21 rfl ?_
      refine z_get C (in_X1_placeAt_X1) 0 rfl rfl 7 (by decide) (List.mem_of_getElem? (i := 3) rfl) rfl rfl dX1_placeAt_21 24 rfl ?_
      refine z_iload_n C dX1_placeAt_24 rfl 3 rfl 25 rfl ?_
      refine z_iald C 2 rfl rfl dX1_placeAt_25 26 rfl h (fun h => ?_)
      refine z_iload_n C dX1_placeAt_26 rfl 2 rfl 27 rfl ?_
      refine z_icmp_ne C 32 dX1_placeAt_27 (by decide) 30 rfl h (fun h => ?_) (fun h => ?_)
      · exact z_locals (ks := [0, 1, 2, 3]) rfl (p_X1_placeAt_J32 C S0 a (hD.zaddr rfl) hrec K h)
      · cases h
        exact z_locals (ks := [3]) rfl (K.1 rfl)

def f_X1_placeAt (S0 : Nat → Nat → Int32) (v1 : Int32) (v2 : Int32) : Option (Int32) := (f_X1_placeAt_L2 S0 v1 v2 zfuel 0).bind fun y_1 => if y_1.1 = 0 then (some y_1.2) else (some (-1))
theorem dd_X1_placeAt : RX1 ≠ "java/lang/invoke/MethodHandle" ∧ RX1 ≠ "java/lang/invoke/VarHandle" ∧ (parseMethodDescriptor yX1_placeAt.desc).map (fun d => d.parameters.length) = some 2 := by decide +kernel
set_option maxHeartbeats 4000000 in
set_option maxRecDepth 100000 in
theorem c_X1_placeAt (l : Launch) (D : va_G) (T : Nat → ClassId) (a0 : Nat → Nat) (S0 : Nat → Nat → Int32) (v1 : Int32) (v2 : Int32) (ex : Int32) (h : f_X1_placeAt S0 v1 v2 = some ex) : zRI l yX1_placeAt wsX1_placeAt ({ frames := 0, cells := 0, slots := 0, locals := 0 } : Room) D T [.ref (a0 99), .int v1, .int v2] (wX1 T a0 S0) ex := by
  refine z_begin (cc := cX1_placeAt) (nL := 4) (own := RX1) (fr := 0) (lc := 0) (ret := some .int) (by decide) rfl (Nat.le_of_ble_eq_true rfl) (fun _ => False) rfl [(0, .ref (a0 99)), (1, .int v1), (2, .int v2)] rfl ⟨rfl, rfl⟩ rfl ?_
  intro p e s m args below meth c C hr hD
  unfold f_X1_placeAt at h
  refine z_iconst C 0 dX1_placeAt_0 (by decide) 1 rfl ?_
  refine z_istore_n C [(0, .ref (a0 99)), (1, .int v1), (2, .int v2), (3, .int 0)] dX1_placeAt_1 rfl (Nat.le_of_ble_eq_true rfl) [1, 2, 3, 0] rfl 2 rfl ?_
  obtain ⟨y_1, hl_y_1, h⟩ := Option.bind_eq_some_iff.mp h
  refine z_locals (ks := [0, 1, 2, 3]) rfl (p_X1_placeAt_L2 C S0 v1 v2 (hD.zaddr rfl) _ _ _ hl_y_1 ⟨fun ht => ?_, fun ht => ?_⟩)
  · replace h := z_pos ht h
    refine z_iload_n C dX1_placeAt_30 rfl 0 rfl 31 rfl ?_
    exact z_iretR C hr dX1_placeAt_31 h
  · replace h := z_neg (by rw [ht]; decide) h
    refine z_iconst C (-1) dX1_placeAt_38 (by decide) 39 rfl ?_
    exact z_iretR C hr dX1_placeAt_39 h

end
/-! StreamTree$Chart.isPlaceBehind (III)Z -/
section
variable {p : Program} {l : Launch} {e : Env} {R : Room} {s : State} {m : MethodId} {args : Array Value} {below : List Frame} {meth : Method} {c : Code} {Q : State → Prop} {A : Nat → Prop} {D : va_G} {T : Nat → ClassId} {a0 : Nat → Nat}
theorem in_X1_isPlaceBehind_X1 : ∀ w ∈ u_ws RX1 TX1 10, w ∈ wsX1_isPlaceBehind := fun _ h => (List.mem_cons_of_mem _ (List.mem_append_right _ h))
def f_X1_isPlaceBehind (S0 : Nat → Nat → Int32) (v1 : Int32) (v2 : Int32) (v3 : Int32) : Option (Int32) := zix v1 7 fun _ => if v3 < (S0 7 (Int32.toNatClampNeg v1)) then (some 1) else (zix v1 7 fun _ => if (S0 7 (Int32.toNatClampNeg v1)) = v3 then (zix v1 7 fun _ => if (S0 6 (Int32.toNatClampNeg v1)) ≤ v2 then (some 0) else (some 1)) else (some 0))
theorem dd_X1_isPlaceBehind : RX1 ≠ "java/lang/invoke/MethodHandle" ∧ RX1 ≠ "java/lang/invoke/VarHandle" ∧ (parseMethodDescriptor yX1_isPlaceBehind.desc).map (fun d => d.parameters.length) = some 3 := by decide +kernel
set_option maxHeartbeats 4000000 in
set_option maxRecDepth 100000 in
theorem c_X1_isPlaceBehind (l : Launch) (D : va_G) (T : Nat → ClassId) (a0 : Nat → Nat) (S0 : Nat → Nat → Int32) (v1 : Int32) (v2 : Int32) (v3 : Int32) (ex : Int32) (h : f_X1_isPlaceBehind S0 v1 v2 v3 = some ex) : zRI l yX1_isPlaceBehind wsX1_isPlaceBehind ({ frames := 0, cells := 0, slots := 0, locals := 0 } : Room) D T [.ref (a0 99), .int v1, .int v2, .int v3] (wX1 T a0 S0) ex := by
  refine z_begin (cc := cX1_isPlaceBehind) (nL := 4) (own := RX1) (fr := 0) (lc := 0) (ret := some .boolean) (by decide) rfl (Nat.le_of_ble_eq_true rfl) (fun _ => False) rfl [(0, .ref (a0 99)), (1, .int v1), (2, .int v2), (3, .int v3)] rfl ⟨rfl, rfl⟩ rfl ?_
  intro p e s m args below meth c C hr hD
  unfold f_X1_isPlaceBehind at h
  refine z_aload_n C dX1_isPlaceBehind_0 rfl 0 rfl 1 rfl ?_
  refine z_get C (in_X1_isPlaceBehind_X1) 0 rfl rfl 7 (by decide) (List.mem_of_getElem? (i := 1) rfl) rfl rfl dX1_isPlaceBehind_1 4 rfl ?_
  refine z_iload_n C dX1_isPlaceBehind_4 rfl 1 rfl 5 rfl ?_
  refine z_iald C 2 rfl rfl dX1_isPlaceBehind_5 6 rfl h (fun h => ?_)
  refine z_iload_n C dX1_isPlaceBehind_6 rfl 3 rfl 7 rfl ?_
  refine z_icmp_gt C 30 dX1_isPlaceBehind_7 (by decide) 10 rfl h (fun h => ?_) (fun h => ?_)
  · refine z_iconst C 1 dX1_isPlaceBehind_30 (by decide) 31 rfl ?_
    refine z_goto C 35 dX1_isPlaceBehind_31 (by decide) ?_
    exact z_zretRc C hr dX1_isPlaceBehind_35 (Or.inr rfl) h
  · refine z_aload_n C dX1_isPlaceBehind_10 rfl 0 rfl 11 rfl ?_
    refine z_get C (in_X1_isPlaceBehind_X1) 0 rfl rfl 7 (by decide) (List.mem_of_getElem? (i := 1) rfl) rfl rfl dX1_isPlaceBehind_11 14 rfl ?_
    refine z_iload_n C dX1_isPlaceBehind_14 rfl 1 rfl 15 rfl ?_
    refine z_iald C 2 rfl rfl dX1_isPlaceBehind_15 16 rfl h (fun h => ?_)
    refine z_iload_n C dX1_isPlaceBehind_16 rfl 3 rfl 17 rfl ?_
    refine z_icmp_ne C 34 dX1_isPlaceBehind_17 (by decide) 20 rfl h (fun h => ?_) (fun h => ?_)
    · refine z_iconst C 0 dX1_isPlaceBehind_34 (by decide) 35 rfl ?_
      exact z_zretRc C hr dX1_isPlaceBehind_35 (Or.inl rfl) h
    · refine z_aload_n C dX1_isPlaceBehind_20 rfl 0 rfl 21 rfl ?_
      refine z_get C (in_X1_isPlaceBehind_X1) 0 rfl rfl 6 (by decide) (List.mem_of_getElem? (i := 2) rfl) rfl rfl dX1_isPlaceBehind_21 24 rfl ?_
      refine z_iload_n C dX1_isPlaceBehind_24 rfl 1 rfl 25 rfl ?_
      refine z_iald C 1 rfl rfl dX1_isPlaceBehind_25 26 rfl h (fun h => ?_)
      refine z_iload_n C dX1_isPlaceBehind_26 rfl 2 rfl 27 rfl ?_
      refine z_icmp_le C 34 dX1_isPlaceBehind_27 (by decide) 30 rfl h (fun h => ?_) (fun h => ?_)
      · refine z_iconst C 0 dX1_isPlaceBehind_34 (by decide) 35 rfl ?_
        exact z_zretRc C hr dX1_isPlaceBehind_35 (Or.inl rfl) h
      · refine z_iconst C 1 dX1_isPlaceBehind_30 (by decide) 31 rfl ?_
        refine z_goto C 35 dX1_isPlaceBehind_31 (by decide) ?_
        exact z_zretRc C hr dX1_isPlaceBehind_35 (Or.inr rfl) h

end
/-! StreamTree$Chart.movePlace (II)V -/
section
variable {p : Program} {l : Launch} {e : Env} {R : Room} {s : State} {m : MethodId} {args : Array Value} {below : List Frame} {meth : Method} {c : Code} {Q : State → Prop} {A : Nat → Prop} {D : va_G} {T : Nat → ClassId} {a0 : Nat → Nat}
theorem in_X1_movePlace_X1 : ∀ w ∈ u_ws RX1 TX1 10, w ∈ wsX1_movePlace := fun _ h => (List.mem_cons_of_mem _ (List.mem_append_right _ h))
def f_X1_movePlace (S0 : Nat → Nat → Int32) (v1 : Int32) (v2 : Int32) : Option ((Nat → Nat → Int32)) := zix v1 7 fun _ => zix v2 7 fun j => zlet (zst S0 6 j (S0 6 (Int32.toNatClampNeg v1))) fun S0_1 => zix v1 7 fun _ => zix v2 7 fun j => zlet (zst S0_1 7 j (S0_1 7 (Int32.toNatClampNeg v1))) fun S0_2 => zix v1 7 fun _ => zix v2 7 fun j => zlet (zst S0_2 8 j (S0_2 8 (Int32.toNatClampNeg v1))) fun S0_3 => some S0_3
theorem dd_X1_movePlace : RX1 ≠ "java/lang/invoke/MethodHandle" ∧ RX1 ≠ "java/lang/invoke/VarHandle" ∧ (parseMethodDescriptor yX1_movePlace.desc).map (fun d => d.parameters.length) = some 2 := by decide +kernel
set_option maxHeartbeats 4000000 in
set_option maxRecDepth 100000 in
theorem c_X1_movePlace (l : Launch) (D : va_G) (T : Nat → ClassId) (a0 : Nat → Nat) (S0 : Nat → Nat → Int32) (v1 : Int32) (v2 : Int32) (ex : (Nat → Nat → Int32)) (h : f_X1_movePlace S0 v1 v2 = some ex) : zWV l yX1_movePlace wsX1_movePlace ({ frames := 0, cells := 0, slots := 0, locals := 0 } : Room) D T [.ref (a0 99), .int v1, .int v2] (wX1 T a0 S0) (wX1 T a0 ex) := by
  refine z_begin (cc := cX1_movePlace) (nL := 3) (own := RX1) (fr := 0) (lc := 0) (ret := none) (by decide) rfl (Nat.le_of_ble_eq_true rfl) (zA (wX1 T a0 S0)) rfl [(0, .ref (a0 99)), (1, .int v1), (2, .int v2)] rfl ⟨rfl, rfl⟩ rfl ?_
  intro p e s m args below meth c C hr hD
  have hD := hD.zself
  unfold f_X1_movePlace at h
  refine z_aload_n C dX1_movePlace_0 rfl 0 rfl 1 rfl ?_
  refine z_get C (in_X1_movePlace_X1) 0 rfl rfl 6 (by decide) (List.mem_of_getElem? (i := 1) rfl) rfl rfl dX1_movePlace_1 4 rfl ?_
  refine z_iload_n C dX1_movePlace_4 rfl 2 rfl 5 rfl ?_
  refine z_aload_n C dX1_movePlace_5 rfl 0 rfl 6 rfl ?_
  refine z_get C (in_X1_movePlace_X1) 0 rfl rfl 6 (by decide) (List.mem_of_getElem? (i := 1) rfl) rfl rfl dX1_movePlace_6 9 rfl ?_
  refine z_iload_n C dX1_movePlace_9 rfl 1 rfl 10 rfl ?_
  refine z_iald C 1 rfl rfl dX1_movePlace_10 11 rfl h (fun h => ?_)
  refine z_iast C (fun z => wX1 T a0 z) S0 6 (hD.zaddr rfl) 1 rfl rfl (fun _ => rfl) dX1_movePlace_11 12 rfl h (fun S0_1 h => ?_)
  refine z_aload_n C dX1_movePlace_12 rfl 0 rfl 13 rfl ?_
  refine z_get C (in_X1_movePlace_X1) 0 rfl rfl 7 (by decide) (List.mem_of_getElem? (i := 2) rfl) rfl rfl dX1_movePlace_13 16 rfl ?_
  refine z_iload_n C dX1_movePlace_16 rfl 2 rfl 17 rfl ?_
  refine z_aload_n C dX1_movePlace_17 rfl 0 rfl 18 rfl ?_
  refine z_get C (in_X1_movePlace_X1) 0 rfl rfl 7 (by decide) (List.mem_of_getElem? (i := 2) rfl) rfl rfl dX1_movePlace_18 21 rfl ?_
  refine z_iload_n C dX1_movePlace_21 rfl 1 rfl 22 rfl ?_
  refine z_iald C 2 rfl rfl dX1_movePlace_22 23 rfl h (fun h => ?_)
  refine z_iast C (fun z => wX1 T a0 z) S0_1 7 (hD.zaddr rfl) 2 rfl rfl (fun _ => rfl) dX1_movePlace_23 24 rfl h (fun S0_2 h => ?_)
  refine z_aload_n C dX1_movePlace_24 rfl 0 rfl 25 rfl ?_
  refine z_get C (in_X1_movePlace_X1) 0 rfl rfl 8 (by decide) (List.mem_of_getElem? (i := 3) rfl) rfl rfl dX1_movePlace_25 28 rfl ?_
  refine z_iload_n C dX1_movePlace_28 rfl 2 rfl 29 rfl ?_
  refine z_aload_n C dX1_movePlace_29 rfl 0 rfl 30 rfl ?_
  refine z_get C (in_X1_movePlace_X1) 0 rfl rfl 8 (by decide) (List.mem_of_getElem? (i := 3) rfl) rfl rfl dX1_movePlace_30 33 rfl ?_
  refine z_iload_n C dX1_movePlace_33 rfl 1 rfl 34 rfl ?_
  refine z_iald C 3 rfl rfl dX1_movePlace_34 35 rfl h (fun h => ?_)
  refine z_iast C (fun z => wX1 T a0 z) S0_2 8 (hD.zaddr rfl) 3 rfl rfl (fun _ => rfl) dX1_movePlace_35 36 rfl h (fun S0_3 h => ?_)
  exact z_vretW (fun z => wX1 T a0 z) C hr dX1_movePlace_36 h rfl

end
/-! StreamTree$Chart.addPlace (III)V -/
section
variable {p : Program} {l : Launch} {e : Env} {R : Room} {s : State} {m : MethodId} {args : Array Value} {below : List Frame} {meth : Method} {c : Code} {Q : State → Prop} {A : Nat → Prop} {D : va_G} {T : Nat → ClassId} {a0 : Nat → Nat}
theorem in_X1_addPlace_X1 : ∀ w ∈ u_ws RX1 TX1 10, w ∈ wsX1_addPlace := fun _ h => (List.mem_cons_of_mem _ (List.mem_append_right _ h))
def f_X1_addPlace_L16b  (v1 : Int32) (v2 : Int32) (v3 : Int32) (rec : (Int32 × (Nat → Nat → Int32)) → Option (Int32 × (Nat → Nat → Int32))) (a : Int32 × (Nat → Nat → Int32)) : Option (Int32 × (Nat → Nat → Int32)) := if a.1 ≤ 0 then (some (a.1, a.2)) else ((f_X1_isPlaceBehind a.2 (a.1 - 1) v1 v2).bind fun r_2 => if r_2 = 0 then (some (a.1, a.2)) else ((f_X1_movePlace a.2 (a.1 - 1) a.1).bind fun r_3 => rec ((a.1 + (-1)), r_3)))
def f_X1_addPlace_L16  (v1 : Int32) (v2 : Int32) (v3 : Int32) : Nat → (Int32 × (Nat → Nat → Int32)) → Option (Int32 × (Nat → Nat → Int32)) := zloop (fun rec a => f_X1_addPlace_L16b v1 v2 v3 rec a)
set_option maxHeartbeats 4000000 in
set_option maxRecDepth 100000 in
theorem p_X1_addPlace_L16 (C : zC p R s m args meth c cX1_addPlace 5 RX1 wsX1_addPlace D T 1 23 0 0) (S0 : Nat → Nat → Int32) (v1 : Int32) (v2 : Int32) (v3 : Int32) (hD : va_D A (wX1 T a0 S0)) : ∀ (n : Nat) (a : Int32 × (Nat → Nat → Int32)) (b : Int32 × (Nat → Nat → Int32)), f_X1_addPlace_L16 v1 v2 v3 n a = some b → (zt p l e R s m args below meth c 5 A D 0 0 Q (wX1 T a0 b.2) [(0, .ref (a0 99)), (1, .int v1), (2, .int v2), (3, .int v3), (4, .int b.1)] 50 []) → zt p l e R s m args below meth c 5 A D 0 0 Q (wX1 T a0 a.2) [(0, .ref (a0 99)), (1, .int v1), (2, .int v2), (3, .int v3), (4, .int a.1)] 16 [] := by
  refine zloop_ind ?_
  intro rec hrec a b h K
  unfold f_X1_addPlace_L16b at h
  refine z_iload C dX1_addPlace_16 4 rfl 18 rfl ?_
  refine z_if_le C 50 dX1_addPlace_18 (by decide) 21 rfl h (fun h => ?_) (fun h => ?_)
  · cases h
    exact z_locals (ks := [0, 1, 2, 3, 4]) rfl K
  · refine z_aload_n C dX1_addPlace_21 rfl 0 rfl 22 rfl ?_
    refine z_iload C dX1_addPlace_22 4 rfl 24 rfl ?_
    refine z_iconst C 1 dX1_addPlace_24 (by decide) 25 rfl ?_
    refine z_isub C dX1_addPlace_25 26 rfl ?_
    refine z_iload_n C dX1_addPlace_26 rfl 1 rfl 27 rfl ?_
    refine z_iload_n C dX1_addPlace_27 rfl 2 rfl 28 rfl ?_
    refine z_callR C (wX1 T a0 a.2) (fun v h => c_X1_isPlaceBehind l D T a0 a.2 (a.1 - 1) v1 v2 v h) ⟨rfl, rfl⟩ (z_cwV C 3 gX1_addPlace_X1_isPlaceBehind rfl rfl dd_X1_isPlaceBehind ⟨(Nat.le_of_ble_eq_true rfl), (Nat.le_of_ble_eq_true rfl)⟩) (hD.zaddr rfl) [0, 1, 2, 3, 4] rfl rfl (fun _ => ⟨a0 99, [.int (a.1 - 1), .int v1, .int v2], 1, 0, _, _, rfl, rfl, rfl, rfl, rfl⟩) (fun h => absurd rfl h) rfl (Nat.le_of_ble_eq_true rfl) dX1_addPlace_28 31 rfl h (fun r_2 h => ?_)
    refine z_if_eq C 50 dX1_addPlace_31 (by decide) 34 rfl h (fun h => ?_) (fun h => ?_)
    · cases h
      exact z_locals (ks := [0, 1, 2, 3, 4]) rfl K
    · refine z_aload_n C dX1_addPlace_34 rfl 0 rfl 35 rfl ?_
      refine z_iload C dX1_addPlace_35 4 rfl 37 rfl ?_
      refine z_iconst C 1 dX1_addPlace_37 (by decide) 38 rfl ?_
      refine z_isub C dX1_addPlace_38 39 rfl ?_
      refine z_iload C dX1_addPlace_39 4 rfl 41 rfl ?_
      refine z_callV C (wX1 T a0 a.2) (([] : va_W)) (fun z => wX1 T a0 z) (fun z => wX1 T a0 z) (fun z h => c_X1_movePlace l D T a0 a.2 (a.1 - 1) a.1 z h) ⟨rfl, rfl⟩ (z_cwV C 2 gX1_addPlace_X1_movePlace rfl rfl dd_X1_movePlace ⟨(Nat.le_of_ble_eq_true rfl), (Nat.le_of_ble_eq_true rfl)⟩) (hD.zaddr rfl) [0, 1, 2, 3, 4] [] [0, 1, 2, 3, 4] rfl rfl rfl (by decide) (fun _ => rfl) (fun _ => ⟨a0 99, [.int (a.1 - 1), .int a.1], 1, 0, _, _, rfl, rfl, rfl, rfl, rfl⟩) (fun h => absurd rfl h) rfl (Nat.le_of_ble_eq_true rfl) dX1_addPlace_41 44 rfl h (fun r_3 h => ?_)
      refine z_iinc C (a.1 + (-1)) [(0, .ref (a0 99)), (1, .int v1), (2, .int v2), (3, .int v3), (4, .int (a.1 + (-1)))] dX1_addPlace_44 4 rfl rfl (Nat.le_of_ble_eq_true rfl) [1, 2, 3, 4, 0] rfl 47 rfl ?_
      refine z_goto C 16 dX1_addPlace_47 (by decide) ?_
      exact z_locals (ks := [0, 1, 2, 3, 4]) rfl (hrec _ _ h K)

def f_X1_addPlace_J50 (S0 : Nat → Nat → Int32) (x1 : Int32) (x2 : Int32) (x3 : Int32) (x4 : Int32)  : Option ((Nat → Nat → Int32)) := zix x4 7 fun j => zlet (zst S0 6 j x1) fun S0_5 => zix x4 7 fun j => zlet (zst S0_5 7 j x2) fun S0_6 => zix x4 7 fun j => zlet (zst S0_6 8 j x3) fun S0_7 => zlet (zst S0_7 5 0 ((S0_7 5 0) + 1)) fun S0_8 => some S0_8
set_option maxHeartbeats 4000000 in
set_option maxRecDepth 100000 in
theorem p_X1_addPlace_J50 {w0 : va_W} (C : zC p R s m args meth c cX1_addPlace 5 RX1 wsX1_addPlace D T 1 23 0 0) (hr : meth.sig.returnType = none) (S0 : Nat → Nat → Int32) (x1 : Int32) (x2 : Int32) (x3 : Int32) (x4 : Int32)  (hD : va_D (zA w0) (wX1 T a0 S0)) {ex : (Nat → Nat → Int32)} (h : f_X1_addPlace_J50 S0 x1 x2 x3 x4 = some ex) : zt p l e R s m args below meth c 5 (zA w0) D 0 0 (MQ below (zQV D w0 (wX1 T a0 ex)) args s 0 0 (zA w0)) (wX1 T a0 S0) [(0, .ref (a0 99)), (1, .int x1), (2, .int x2), (3, .int x3), (4, .int x4)] 50 [] := by
  unfold f_X1_addPlace_J50 at h
  refine z_aload_n C dX1_addPlace_50 rfl 0 rfl 51 rfl ?_
  refine z_get C (in_X1_addPlace_X1) 0 rfl rfl 6 (by decide) (List.mem_of_getElem? (i := 2) rfl) rfl rfl dX1_addPlace_51 54 rfl ?_
  refine z_iload C dX1_addPlace_54 4 rfl 56 rfl ?_
  refine z_iload_n C dX1_addPlace_56 rfl 1 rfl 57 rfl ?_
  refine z_iast C (fun z => wX1 T a0 z) S0 6 (hD.zaddr rfl) 1 rfl rfl (fun _ => rfl) dX1_addPlace_57 58 rfl h (fun S0_5 h => ?_)
  refine z_aload_n C dX1_addPlace_58 rfl 0 rfl 59 rfl ?_
  refine z_get C (in_X1_addPlace_X1) 0 rfl rfl 7 (by decide) (List.mem_of_getElem? (i := 3) rfl) rfl rfl dX1_addPlace_59 62 rfl ?_
  refine z_iload C dX1_addPlace_62 4 rfl 64 rfl ?_
  refine z_iload_n C dX1_addPlace_64 rfl 2 rfl 65 rfl ?_
  refine z_iast C (fun z => wX1 T a0 z) S0_5 7 (hD.zaddr rfl) 2 rfl rfl (fun _ => rfl) dX1_addPlace_65 66 rfl h (fun S0_6 h => ?_)
  refine z_aload_n C dX1_addPlace_66 rfl 0 rfl 67 rfl ?_
  refine z_get C (in_X1_addPlace_X1) 0 rfl rfl 8 (by decide) (List.mem_of_getElem? (i := 4) rfl) rfl rfl dX1_addPlace_67 70 rfl ?_
  refine z_iload C dX1_addPlace_70 4 rfl 72 rfl ?_
  refine z_iload_n C dX1_addPlace_72 rfl 3 rfl 73 rfl ?_
  refine z_iast C (fun z => wX1 T a0 z) S0_6 8 (hD.zaddr rfl) 3 rfl rfl (fun _ => rfl) dX1_addPlace_73 74 rfl h (fun S0_7 h => ?_)
  refine z_aload_n C dX1_addPlace_74 rfl 0 rfl 75 rfl ?_
  refine z_dup C dX1_addPlace_75 rfl 76 rfl ?_
  refine z_get C (in_X1_addPlace_X1) 0 rfl rfl 5 (by decide) (List.mem_of_getElem? (i := 1) rfl) rfl rfl dX1_addPlace_76 79 rfl ?_
  refine z_iconst C 1 dX1_addPlace_79 (by decide) 80 rfl ?_
  refine z_iadd C dX1_addPlace_80 81 rfl ?_
  refine z_put C (fun z => wX1 T a0 z) S0_7 (hD.zaddr rfl) (in_X1_addPlace_X1) tyX1 tyX1_ok nmX1 0 rfl rfl 5 (by decide) (List.mem_of_getElem? (i := 1) rfl) rfl rfl (by decide +kernel) rfl rfl (Nat.le_of_ble_eq_true rfl) rfl dX1_addPlace_81 84 rfl h (fun S0_8 h => ?_)
  exact z_vretW (fun z => wX1 T a0 z) C hr dX1_addPlace_84 h rfl

def f_X1_addPlace (S0 : Nat → Nat → Int32) (v1 : Int32) (v2 : Int32) (v3 : Int32) : Option ((Nat → Nat → Int32)) := if (S0 5 0) < 7 then (zlet (S0 5 0) fun u_1 => (f_X1_addPlace_L16 v1 v2 v3 zfuel (u_1, S0)).bind fun y_4 => f_X1_addPlace_J50 y_4.2 v1 v2 v3 y_4.1) else (some S0)
theorem dd_X1_addPlace : RX1 ≠ "java/lang/invoke/MethodHandle" ∧ RX1 ≠ "java/lang/invoke/VarHandle" ∧ (parseMethodDescriptor yX1_addPlace.desc).map (fun d => d.parameters.length) = some 3 := by decide +kernel
set_option maxHeartbeats 4000000 in
set_option maxRecDepth 100000 in
theorem c_X1_addPlace (l : Launch) (D : va_G) (T : Nat → ClassId) (a0 : Nat → Nat) (S0 : Nat → Nat → Int32) (v1 : Int32) (v2 : Int32) (v3 : Int32) (ex : (Nat → Nat → Int32)) (h : f_X1_addPlace S0 v1 v2 v3 = some ex) : zWV l yX1_addPlace wsX1_addPlace ({ frames := 1, cells := 0, slots := 0, locals := 23 } : Room) D T [.ref (a0 99), .int v1, .int v2, .int v3] (wX1 T a0 S0) (wX1 T a0 ex) := by
  refine z_begin (cc := cX1_addPlace) (nL := 5) (own := RX1) (fr := 1) (lc := 23) (ret := none) (by decide) rfl (Nat.le_of_ble_eq_true rfl) (zA (wX1 T a0 S0)) rfl [(0, .ref (a0 99)), (1, .int v1), (2, .int v2), (3, .int v3)] rfl ⟨rfl, rfl⟩ rfl ?_
  intro p e s m args below meth c C hr hD
  have hD := hD.zself
  unfold f_X1_addPlace at h
  refine z_aload_n C dX1_addPlace_0 rfl 0 rfl 1 rfl ?_
  refine z_get C (in_X1_addPlace_X1) 0 rfl rfl 5 (by decide) (List.mem_of_getElem? (i := 1) rfl) rfl rfl dX1_addPlace_1 4 rfl ?_
  refine z_bipush C 7 dX1_addPlace_4 (by decide) 6 rfl ?_
  refine z_icmp_lt C 10 dX1_addPlace_6 (by decide) 9 rfl h (fun h => ?_) (fun h => ?_)
  · refine z_aload_n C dX1_addPlace_10 rfl 0 rfl 11 rfl ?_
    refine z_get C (in_X1_addPlace_X1) 0 rfl rfl 5 (by decide) (List.mem_of_getElem? (i := 1) rfl) rfl rfl dX1_addPlace_11 14 rfl ?_
    refine z_top h (fun u_1 h => ?_)
    refine z_istore C [(0, .ref (a0 99)), (1, .int v1), (2, .int v2), (3, .int v3), (4, .int u_1)] dX1_addPlace_14 (Nat.le_of_ble_eq_true rfl) [1, 2, 3, 4, 0] rfl 16 rfl ?_
    obtain ⟨y_4, hl_y_4, h⟩ := Option.bind_eq_some_iff.mp h
    refine z_locals (ks := [0, 1, 2, 3, 4]) rfl (p_X1_addPlace_L16 C S0 v1 v2 v3 (hD.zaddr rfl) _ _ _ hl_y_4 ?_)
    exact z_locals (ks := [0, 1, 2, 3, 4]) rfl (p_X1_addPlace_J50 C hr y_4.2 v1 v2 v3 y_4.1 (hD.zaddr rfl) h)
  · exact z_vretW (fun z => wX1 T a0 z) C hr dX1_addPlace_9 h rfl

end
