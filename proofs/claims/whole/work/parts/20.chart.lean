/-! StreamTree.isWithin (III)Z -/
section
variable {p : Program} {l : Launch} {e : Env} {R : Room} {s : State} {m : MethodId} {args : Array Value} {below : List Frame} {meth : Method} {c : Code} {Q : State → Prop} {A : Nat → Prop} {D : va_G} {T : Nat → ClassId} 
def f_X6_isWithin  (v0 : Int32) (v1 : Int32) (v2 : Int32) : Option (Int32) := if v0 < v1 then (some 0) else (if v2 < v0 then (some 0) else (some 1))
theorem dd_X6_isWithin : RX6 ≠ "java/lang/invoke/MethodHandle" ∧ RX6 ≠ "java/lang/invoke/VarHandle" ∧ (parseMethodDescriptor yX6_isWithin.desc).map (fun d => d.parameters.length) = some 3 := by decide +kernel
set_option maxHeartbeats 4000000 in
set_option maxRecDepth 100000 in
theorem c_X6_isWithin (l : Launch) (D : va_G) (T : Nat → ClassId)   (v0 : Int32) (v1 : Int32) (v2 : Int32) (ex : Int32) (h : f_X6_isWithin v0 v1 v2 = some ex) : zRI l yX6_isWithin wsX6_isWithin ({ frames := 0, cells := 0, slots := 0, locals := 0 } : Room) D T [.int v0, .int v1, .int v2] ([]) ex := by
  refine z_begin (cc := cX6_isWithin) (nL := 3) (own := RX6) (fr := 0) (lc := 0) (ret := some .boolean) (by decide) rfl (Nat.le_of_ble_eq_true rfl) (fun _ => False) rfl [(0, .int v0), (1, .int v1), (2, .int v2)] rfl ⟨rfl, rfl⟩ rfl ?_
  intro p e s m args below meth c C hr hD
  unfold f_X6_isWithin at h
  refine z_iload_n C dX6_isWithin_0 rfl 0 rfl 1 rfl ?_
  refine z_iload_n C dX6_isWithin_1 rfl 1 rfl 2 rfl ?_
  refine z_icmp_lt C 14 dX6_isWithin_2 (by decide) 5 rfl h (fun h => ?_) (fun h => ?_)
  · refine z_iconst C 0 dX6_isWithin_14 (by decide) 15 rfl ?_
    exact z_zretRc C hr dX6_isWithin_15 (Or.inl rfl) h
  · refine z_iload_n C dX6_isWithin_5 rfl 0 rfl 6 rfl ?_
    refine z_iload_n C dX6_isWithin_6 rfl 2 rfl 7 rfl ?_
    refine z_icmp_gt C 14 dX6_isWithin_7 (by decide) 10 rfl h (fun h => ?_) (fun h => ?_)
    · refine z_iconst C 0 dX6_isWithin_14 (by decide) 15 rfl ?_
      exact z_zretRc C hr dX6_isWithin_15 (Or.inl rfl) h
    · refine z_iconst C 1 dX6_isWithin_10 (by decide) 11 rfl ?_
      refine z_goto C 15 dX6_isWithin_11 (by decide) ?_
      exact z_zretRc C hr dX6_isWithin_15 (Or.inr rfl) h

end
/-! StreamTree.cellOf (II)I -/
section
variable {p : Program} {l : Launch} {e : Env} {R : Room} {s : State} {m : MethodId} {args : Array Value} {below : List Frame} {meth : Method} {c : Code} {Q : State → Prop} {A : Nat → Prop} {D : va_G} {T : Nat → ClassId} 
def f_X6_cellOf  (v0 : Int32) (v1 : Int32) : Option (Int32) := some ((v0 * 24) + v1)
theorem dd_X6_cellOf : RX6 ≠ "java/lang/invoke/MethodHandle" ∧ RX6 ≠ "java/lang/invoke/VarHandle" ∧ (parseMethodDescriptor yX6_cellOf.desc).map (fun d => d.parameters.length) = some 2 := by decide +kernel
set_option maxHeartbeats 4000000 in
set_option maxRecDepth 100000 in
theorem c_X6_cellOf (l : Launch) (D : va_G) (T : Nat → ClassId)   (v0 : Int32) (v1 : Int32) (ex : Int32) (h : f_X6_cellOf v0 v1 = some ex) : zRI l yX6_cellOf wsX6_cellOf ({ frames := 0, cells := 0, slots := 0, locals := 0 } : Room) D T [.int v0, .int v1] ([]) ex := by
  refine z_begin (cc := cX6_cellOf) (nL := 2) (own := RX6) (fr := 0) (lc := 0) (ret := some .int) (by decide) rfl (Nat.le_of_ble_eq_true rfl) (fun _ => False) rfl [(0, .int v0), (1, .int v1)] rfl ⟨rfl, rfl⟩ rfl ?_
  intro p e s m args below meth c C hr hD
  unfold f_X6_cellOf at h
  refine z_iload_n C dX6_cellOf_0 rfl 0 rfl 1 rfl ?_
  refine z_bipush C 24 dX6_cellOf_1 (by decide) 3 rfl ?_
  refine z_imul C dX6_cellOf_3 4 rfl ?_
  refine z_iload_n C dX6_cellOf_4 rfl 1 rfl 5 rfl ?_
  refine z_iadd C dX6_cellOf_5 6 rfl ?_
  exact z_iretR C hr dX6_cellOf_6 h

end
/-! StreamTree.isTreeManner (I)Z -/
section
variable {p : Program} {l : Launch} {e : Env} {R : Room} {s : State} {m : MethodId} {args : Array Value} {below : List Frame} {meth : Method} {c : Code} {Q : State → Prop} {A : Nat → Prop} {D : va_G} {T : Nat → ClassId} 
def f_X6_isTreeManner  (v0 : Int32) : Option (Int32) := (f_X6_isWithin v0 1 4).bind fun r_1 => zbo r_1 (some r_1)
theorem dd_X6_isTreeManner : RX6 ≠ "java/lang/invoke/MethodHandle" ∧ RX6 ≠ "java/lang/invoke/VarHandle" ∧ (parseMethodDescriptor yX6_isTreeManner.desc).map (fun d => d.parameters.length) = some 1 := by decide +kernel
set_option maxHeartbeats 4000000 in
set_option maxRecDepth 100000 in
theorem c_X6_isTreeManner (l : Launch) (D : va_G) (T : Nat → ClassId)   (v0 : Int32) (ex : Int32) (h : f_X6_isTreeManner v0 = some ex) : zRI l yX6_isTreeManner wsX6_isTreeManner ({ frames := 1, cells := 0, slots := 0, locals := 22 } : Room) D T [.int v0] ([]) ex := by
  refine z_begin (cc := cX6_isTreeManner) (nL := 1) (own := RX6) (fr := 1) (lc := 22) (ret := some .boolean) (by decide) rfl (Nat.le_of_ble_eq_true rfl) (fun _ => False) rfl [(0, .int v0)] rfl ⟨rfl, rfl⟩ rfl ?_
  intro p e s m args below meth c C hr hD
  unfold f_X6_isTreeManner at h
  refine z_iload_n C dX6_isTreeManner_0 rfl 0 rfl 1 rfl ?_
  refine z_iconst C 1 dX6_isTreeManner_1 (by decide) 2 rfl ?_
  refine z_iconst C 4 dX6_isTreeManner_2 (by decide) 3 rfl ?_
  refine z_callR C ([]) (fun v h => c_X6_isWithin l D T    v0 1 4 v h) ⟨rfl, rfl⟩ (z_cwS C 3 gX6_isTreeManner_X6_isWithin rfl dd_X6_isWithin ⟨(Nat.le_of_ble_eq_true rfl), (Nat.le_of_ble_eq_true rfl)⟩) (hD.zaddr rfl) [] rfl rfl (fun h => absurd h (by decide)) (fun _ => rfl) rfl (Nat.le_of_ble_eq_true rfl) dX6_isTreeManner_3 6 rfl h (fun r_1 h => ?_)
  exact z_zretR C hr dX6_isTreeManner_6 h

end
/-! StreamTree$Chart.clear (II)V -/
section
variable {p : Program} {l : Launch} {e : Env} {R : Room} {s : State} {m : MethodId} {args : Array Value} {below : List Frame} {meth : Method} {c : Code} {Q : State → Prop} {A : Nat → Prop} {D : va_G} {T : Nat → ClassId} {a0 : Nat → Nat}
theorem in_X1_clear_X1 : ∀ w ∈ u_ws RX1 TX1 10, w ∈ wsX1_clear := fun _ h => (List.mem_cons_of_mem _ (List.mem_append_right _ h))
def f_X1_clear_L17b   (rec : (Int32 × (Nat → Nat → Int32)) → Option ((Nat → Nat → Int32))) (a : Int32 × (Nat → Nat → Int32)) : Option ((Nat → Nat → Int32)) := if 240 ≤ a.1 then (some a.2) else (zix a.1 240 fun j => zlet (zst a.2 9 j 0) fun S0_4 => rec ((a.1 + 1), S0_4))
def f_X1_clear_L17   : Nat → (Int32 × (Nat → Nat → Int32)) → Option ((Nat → Nat → Int32)) := zloop (fun rec a => f_X1_clear_L17b  rec a)
set_option maxHeartbeats 4000000 in
set_option maxRecDepth 100000 in
theorem p_X1_clear_L17 (C : zC p R s m args meth c cX1_clear 4 RX1 wsX1_clear D T 0 0 0 0) (S0 : Nat → Nat → Int32)  (hD : va_D A (wX1 T a0 S0)) : ∀ (n : Nat) (c0 : Int32) (c1 : Nat → Nat → Int32) (b : (Nat → Nat → Int32)), f_X1_clear_L17  n (c0, c1) = some b → (zt p l e R s m args below meth c 4 A D 0 0 Q (wX1 T a0 b) [] 37 []) → zt p l e R s m args below meth c 4 A D 0 0 Q (wX1 T a0 c1) [(0, .ref (a0 99)), (3, .int c0)] 17 [] := by
  intro n c0 c1 b h K
  refine zloop_ind (P := fun a b => (zt p l e R s m args below meth c 4 A D 0 0 Q (wX1 T a0 b) [] 37 []) → zt p l e R s m args below meth c 4 A D 0 0 Q (wX1 T a0 a.2) [(0, .ref (a0 99)), (3, .int a.1)] 17 []) ?_ n (c0, c1) b h K
  clear h K b c0 c1
  intro rec hrec a b h K
  have hrec : ∀ (c0 : Int32) (c1 : Nat → Nat → Int32) (b : (Nat → Nat → Int32)), rec (c0, c1) = some b → (zt p l e R s m args below meth c 4 A D 0 0 Q (wX1 T a0 b) [] 37 []) → zt p l e R s m args below meth c 4 A D 0 0 Q (wX1 T a0 c1) [(0, .ref (a0 99)), (3, .int c0)] 17 [] := fun c0 c1 b h K => hrec (c0, c1) b h K
  unfold f_X1_clear_L17b at h
  refine z_iload_n C dX1_clear_17 rfl 1 rfl 18 rfl ?_
  refine z_sipush C 240 dX1_clear_18 (by decide) 21 rfl ?_
  refine z_icmp_ge C 37 dX1_clear_21 (by decide) 24 rfl h (fun h => ?_) (fun h => ?_)
  · refine z_locals (ks := []) (lv' := []) rfl ?_
    exact zex1 (F := (fun e0 => zt p l e R s m args below meth c 4 A D 0 0 Q (wX1 T a0 e0) [] 37 [])) h K
  · refine z_aload_n C dX1_clear_24 rfl 0 rfl 25 rfl ?_
    refine z_get C (in_X1_clear_X1) 0 rfl rfl 9 (by decide) (List.mem_of_getElem? (i := 4) rfl) rfl rfl dX1_clear_25 28 rfl ?_
    refine z_iload_n C dX1_clear_28 rfl 1 rfl 29 rfl ?_
    refine z_iconst C 0 dX1_clear_29 (by decide) 30 rfl ?_
    refine z_zastc (Or.inl rfl) C (fun z => wX1 T a0 z) a.2 9 (hD.zaddr rfl) 4 rfl rfl (fun _ => rfl) dX1_clear_30 31 rfl h (fun S0_4 h => ?_)
    refine z_iinc C (a.1 + 1) [(0, .ref (a0 99)), (3, .int (a.1 + 1))] dX1_clear_31 1 rfl rfl (Nat.le_of_ble_eq_true rfl) [1, 0] rfl 34 rfl ?_
    refine z_goto C 17 dX1_clear_34 (by decide) ?_
    exact z_locals (ks := [0, 1]) rfl (hrec _ _ _ h K)

def f_X1_clear (S0 : Nat → Nat → Int32) (v1 : Int32) (v2 : Int32) : Option ((Nat → Nat → Int32)) := zlet (zst S0 0 0 v1) fun S0_1 => zlet (zst S0_1 1 0 v2) fun S0_2 => zlet (zst S0_2 5 0 0) fun S0_3 => (f_X1_clear_L17  zfuel (0, S0_3)).bind fun y_5 => some y_5
theorem dd_X1_clear : RX1 ≠ "java/lang/invoke/MethodHandle" ∧ RX1 ≠ "java/lang/invoke/VarHandle" ∧ (parseMethodDescriptor yX1_clear.desc).map (fun d => d.parameters.length) = some 2 := by decide +kernel
set_option maxHeartbeats 4000000 in
set_option maxRecDepth 100000 in
theorem c_X1_clear (l : Launch) (D : va_G) (T : Nat → ClassId) (a0 : Nat → Nat) (S0 : Nat → Nat → Int32) (v1 : Int32) (v2 : Int32) (ex : (Nat → Nat → Int32)) (h : f_X1_clear S0 v1 v2 = some ex) : zWV l yX1_clear wsX1_clear ({ frames := 0, cells := 0, slots := 0, locals := 0 } : Room) D T [.ref (a0 99), .int v1, .int v2] (wX1 T a0 S0) (wX1 T a0 ex) := by
  refine z_begin (cc := cX1_clear) (nL := 4) (own := RX1) (fr := 0) (lc := 0) (ret := none) (by decide) rfl (Nat.le_of_ble_eq_true rfl) (zA (wX1 T a0 S0)) rfl [(0, .ref (a0 99)), (1, .int v1), (2, .int v2)] rfl ⟨rfl, rfl⟩ rfl ?_
  intro p e s m args below meth c C hr hD
  have hD := hD.zself
  unfold f_X1_clear at h
  refine z_aload_n C dX1_clear_0 rfl 0 rfl 1 rfl ?_
  refine z_iload_n C dX1_clear_1 rfl 1 rfl 2 rfl ?_
  refine z_put (ty := .int) C (fun z => wX1 T a0 z) S0 (hD.zaddr rfl) (in_X1_clear_X1) tyX1 tyX1_ok nmX1 0 rfl rfl 0 (by decide) (List.mem_of_getElem? (i := 1) rfl) rfl rfl (by decide +kernel) rfl rfl (Nat.le_of_ble_eq_true rfl) rfl dX1_clear_2 5 rfl h (fun S0_1 h => ?_)
  refine z_aload_n C dX1_clear_5 rfl 0 rfl 6 rfl ?_
  refine z_iload_n C dX1_clear_6 rfl 2 rfl 7 rfl ?_
  refine z_put (ty := .int) C (fun z => wX1 T a0 z) S0_1 (hD.zaddr rfl) (in_X1_clear_X1) tyX1 tyX1_ok nmX1 0 rfl rfl 1 (by decide) (List.mem_of_getElem? (i := 2) rfl) rfl rfl (by decide +kernel) rfl rfl (Nat.le_of_ble_eq_true rfl) rfl dX1_clear_7 10 rfl h (fun S0_2 h => ?_)
  refine z_aload_n C dX1_clear_10 rfl 0 rfl 11 rfl ?_
  refine z_iconst C 0 dX1_clear_11 (by decide) 12 rfl ?_
  refine z_put (ty := .int) C (fun z => wX1 T a0 z) S0_2 (hD.zaddr rfl) (in_X1_clear_X1) tyX1 tyX1_ok nmX1 0 rfl rfl 5 (by decide) (List.mem_of_getElem? (i := 3) rfl) rfl rfl (by decide +kernel) rfl rfl (Nat.le_of_ble_eq_true rfl) rfl dX1_clear_12 15 rfl h (fun S0_3 h => ?_)
  refine z_iconst C 0 dX1_clear_15 (by decide) 16 rfl ?_
  refine z_istore_n C [(0, .ref (a0 99)), (1, .int v1), (2, .int v2), (3, .int 0)] dX1_clear_16 rfl (Nat.le_of_ble_eq_true rfl) [1, 2, 3, 0] rfl 17 rfl ?_
  obtain ⟨y_5, hl_y_5, h⟩ := Option.bind_eq_some_iff.mp h
  refine z_locals (ks := [0, 3]) rfl (p_X1_clear_L17 C S0_3  (hD.zaddr rfl) _ _ _ _ hl_y_5 ?_)
  exact z_vretW (x := y_5) (ex := ex) (fun z => wX1 T a0 z) C hr dX1_clear_37 h rfl

end
/-! StreamTree$Chart.hasCell (II)Z -/
section
variable {p : Program} {l : Launch} {e : Env} {R : Room} {s : State} {m : MethodId} {args : Array Value} {below : List Frame} {meth : Method} {c : Code} {Q : State → Prop} {A : Nat → Prop} {D : va_G} {T : Nat → ClassId} {a0 : Nat → Nat}
theorem in_X1_hasCell_X1 : ∀ w ∈ u_ws RX1 TX1 10, w ∈ wsX1_hasCell := fun _ h => (List.mem_cons_of_mem _ (List.mem_append_right _ h))
def f_X1_hasCell (S0 : Nat → Nat → Int32) (v1 : Int32) (v2 : Int32) : Option (Int32) := (f_X6_isWithin v1 1 (S0 0 0)).bind fun r_1 => if r_1 = 0 then (some 0) else ((f_X6_isWithin v2 0 ((S0 1 0) - 1)).bind fun r_2 => if r_2 = 0 then (some 0) else (some 1))
theorem dd_X1_hasCell : RX1 ≠ "java/lang/invoke/MethodHandle" ∧ RX1 ≠ "java/lang/invoke/VarHandle" ∧ (parseMethodDescriptor yX1_hasCell.desc).map (fun d => d.parameters.length) = some 2 := by decide +kernel
set_option maxHeartbeats 4000000 in
set_option maxRecDepth 100000 in
theorem c_X1_hasCell (l : Launch) (D : va_G) (T : Nat → ClassId) (a0 : Nat → Nat) (S0 : Nat → Nat → Int32) (v1 : Int32) (v2 : Int32) (ex : Int32) (h : f_X1_hasCell S0 v1 v2 = some ex) : zRI l yX1_hasCell wsX1_hasCell ({ frames := 1, cells := 0, slots := 0, locals := 22 } : Room) D T [.ref (a0 99), .int v1, .int v2] (wX1 T a0 S0) ex := by
  refine z_begin (cc := cX1_hasCell) (nL := 3) (own := RX1) (fr := 1) (lc := 22) (ret := some .boolean) (by decide) rfl (Nat.le_of_ble_eq_true rfl) (fun _ => False) rfl [(0, .ref (a0 99)), (1, .int v1), (2, .int v2)] rfl ⟨rfl, rfl⟩ rfl ?_
  intro p e s m args below meth c C hr hD
  unfold f_X1_hasCell at h
  refine z_iload_n C dX1_hasCell_0 rfl 1 rfl 1 rfl ?_
  refine z_iconst C 1 dX1_hasCell_1 (by decide) 2 rfl ?_
  refine z_aload_n C dX1_hasCell_2 rfl 0 rfl 3 rfl ?_
  refine z_get C (in_X1_hasCell_X1) 0 rfl rfl 0 (by decide) (List.mem_of_getElem? (i := 1) rfl) rfl rfl dX1_hasCell_3 6 rfl ?_
  refine z_callR C ([]) (fun v h => c_X6_isWithin l D T    v1 1 (S0 0 0) v h) ⟨rfl, rfl⟩ (z_cwN C 3 gX1_hasCell_X6_isWithin_n51 rfl (List.mem_of_getElem? (i := 6) rfl) (List.mem_of_getElem? (i := 3) rfl) (List.mem_of_getElem? (i := 4) rfl) dd_X6_isWithin ⟨(Nat.le_of_ble_eq_true rfl), (Nat.le_of_ble_eq_true rfl)⟩) (hD.zaddr rfl) [] rfl rfl (fun h => absurd h (by decide)) (fun _ => rfl) rfl (Nat.le_of_ble_eq_true rfl) dX1_hasCell_6 9 rfl h (fun r_1 h => ?_)
  refine z_if_eq C 30 dX1_hasCell_9 (by decide) 12 rfl h (fun h => ?_) (fun h => ?_)
  · refine z_iconst C 0 dX1_hasCell_30 (by decide) 31 rfl ?_
    exact z_zretRc C hr dX1_hasCell_31 (Or.inl rfl) h
  · refine z_iload_n C dX1_hasCell_12 rfl 2 rfl 13 rfl ?_
    refine z_iconst C 0 dX1_hasCell_13 (by decide) 14 rfl ?_
    refine z_aload_n C dX1_hasCell_14 rfl 0 rfl 15 rfl ?_
    refine z_get C (in_X1_hasCell_X1) 0 rfl rfl 1 (by decide) (List.mem_of_getElem? (i := 2) rfl) rfl rfl dX1_hasCell_15 18 rfl ?_
    refine z_iconst C 1 dX1_hasCell_18 (by decide) 19 rfl ?_
    refine z_isub C dX1_hasCell_19 20 rfl ?_
    refine z_callR C ([]) (fun v h => c_X6_isWithin l D T    v2 0 ((S0 1 0) - 1) v h) ⟨rfl, rfl⟩ (z_cwN C 3 gX1_hasCell_X6_isWithin_n51 rfl (List.mem_of_getElem? (i := 6) rfl) (List.mem_of_getElem? (i := 3) rfl) (List.mem_of_getElem? (i := 4) rfl) dd_X6_isWithin ⟨(Nat.le_of_ble_eq_true rfl), (Nat.le_of_ble_eq_true rfl)⟩) (hD.zaddr rfl) [] rfl rfl (fun h => absurd h (by decide)) (fun _ => rfl) rfl (Nat.le_of_ble_eq_true rfl) dX1_hasCell_20 23 rfl h (fun r_2 h => ?_)
    refine z_if_eq C 30 dX1_hasCell_23 (by decide) 26 rfl h (fun h => ?_) (fun h => ?_)
    · refine z_iconst C 0 dX1_hasCell_30 (by decide) 31 rfl ?_
      exact z_zretRc C hr dX1_hasCell_31 (Or.inl rfl) h
    · refine z_iconst C 1 dX1_hasCell_26 (by decide) 27 rfl ?_
      refine z_goto C 31 dX1_hasCell_27 (by decide) ?_
      exact z_zretRc C hr dX1_hasCell_31 (Or.inr rfl) h

end
/-! StreamTree$Chart.hasCellOrSource (II)Z -/
section
variable {p : Program} {l : Launch} {e : Env} {R : Room} {s : State} {m : MethodId} {args : Array Value} {below : List Frame} {meth : Method} {c : Code} {Q : State → Prop} {A : Nat → Prop} {D : va_G} {T : Nat → ClassId} {a0 : Nat → Nat}
def f_X1_hasCellOrSource (S0 : Nat → Nat → Int32) (v1 : Int32) (v2 : Int32) : Option (Int32) := (f_X1_hasCell S0 v1 v2).bind fun r_1 => if r_1 = 0 then (if v1 = 0 then (if v2 = 0 then (some 1) else (some 0)) else (some 0)) else (some 1)
theorem dd_X1_hasCellOrSource : RX1 ≠ "java/lang/invoke/MethodHandle" ∧ RX1 ≠ "java/lang/invoke/VarHandle" ∧ (parseMethodDescriptor yX1_hasCellOrSource.desc).map (fun d => d.parameters.length) = some 2 := by decide +kernel
set_option maxHeartbeats 4000000 in
set_option maxRecDepth 100000 in
theorem c_X1_hasCellOrSource (l : Launch) (D : va_G) (T : Nat → ClassId) (a0 : Nat → Nat) (S0 : Nat → Nat → Int32) (v1 : Int32) (v2 : Int32) (ex : Int32) (h : f_X1_hasCellOrSource S0 v1 v2 = some ex) : zRI l yX1_hasCellOrSource wsX1_hasCellOrSource ({ frames := 2, cells := 0, slots := 0, locals := 44 } : Room) D T [.ref (a0 99), .int v1, .int v2] (wX1 T a0 S0) ex := by
  refine z_begin (cc := cX1_hasCellOrSource) (nL := 3) (own := RX1) (fr := 2) (lc := 44) (ret := some .boolean) (by decide) rfl (Nat.le_of_ble_eq_true rfl) (fun _ => False) rfl [(0, .ref (a0 99)), (1, .int v1), (2, .int v2)] rfl ⟨rfl, rfl⟩ rfl ?_
  intro p e s m args below meth c C hr hD
  unfold f_X1_hasCellOrSource at h
  refine z_aload_n C dX1_hasCellOrSource_0 rfl 0 rfl 1 rfl ?_
  refine z_iload_n C dX1_hasCellOrSource_1 rfl 1 rfl 2 rfl ?_
  refine z_iload_n C dX1_hasCellOrSource_2 rfl 2 rfl 3 rfl ?_
  refine z_callR C (wX1 T a0 S0) (fun v h => c_X1_hasCell l D T a0  S0 v1 v2 v h) ⟨rfl, rfl⟩ (z_cwV C 2 gX1_hasCellOrSource_X1_hasCell rfl rfl dd_X1_hasCell ⟨(Nat.le_of_ble_eq_true rfl), (Nat.le_of_ble_eq_true rfl)⟩) (hD.zaddr rfl) [0, 1, 2, 3, 4] rfl rfl (fun _ => ⟨a0 99, [.int v1, .int v2], 1, 0, _, _, rfl, rfl, rfl, rfl, rfl⟩) (fun h => absurd rfl h) rfl (Nat.le_of_ble_eq_true rfl) dX1_hasCellOrSource_3 6 rfl h (fun r_1 h => ?_)
  refine z_if_ne C 17 dX1_hasCellOrSource_6 (by decide) 9 rfl h (fun h => ?_) (fun h => ?_)
  · refine z_iconst C 1 dX1_hasCellOrSource_17 (by decide) 18 rfl ?_
    refine z_goto C 22 dX1_hasCellOrSource_18 (by decide) ?_
    exact z_zretRc C hr dX1_hasCellOrSource_22 (Or.inr rfl) h
  · refine z_iload_n C dX1_hasCellOrSource_9 rfl 1 rfl 10 rfl ?_
    refine z_if_ne C 21 dX1_hasCellOrSource_10 (by decide) 13 rfl h (fun h => ?_) (fun h => ?_)
    · refine z_iconst C 0 dX1_hasCellOrSource_21 (by decide) 22 rfl ?_
      exact z_zretRc C hr dX1_hasCellOrSource_22 (Or.inl rfl) h
    · refine z_iload_n C dX1_hasCellOrSource_13 rfl 2 rfl 14 rfl ?_
      refine z_if_ne C 21 dX1_hasCellOrSource_14 (by decide) 17 rfl h (fun h => ?_) (fun h => ?_)
      · refine z_iconst C 0 dX1_hasCellOrSource_21 (by decide) 22 rfl ?_
        exact z_zretRc C hr dX1_hasCellOrSource_22 (Or.inl rfl) h
      · refine z_iconst C 1 dX1_hasCellOrSource_17 (by decide) 18 rfl ?_
        refine z_goto C 22 dX1_hasCellOrSource_18 (by decide) ?_
        exact z_zretRc C hr dX1_hasCellOrSource_22 (Or.inr rfl) h

end
/-! StreamTree$Chart.placeAt (II)I -/
section
variable {p : Program} {l : Launch} {e : Env} {R : Room} {s : State} {m : MethodId} {args : Array Value} {below : List Frame} {meth : Method} {c : Code} {Q : State → Prop} {A : Nat → Prop} {D : va_G} {T : Nat → ClassId} {a0 : Nat → Nat}
theorem in_X1_placeAt_X1 : ∀ w ∈ u_ws RX1 TX1 10, w ∈ wsX1_placeAt := fun _ h => (List.mem_cons_of_mem _ (List.mem_append_right _ h))
def f_X1_placeAt_J32 (rec : Int32 → Option (Nat × Int32)) (S0 : Nat → Nat → Int32) (v1 : Int32) (v2 : Int32) (x3 : Int32)  : Option (Nat × Int32) := rec (x3 + 1)
set_option maxHeartbeats 4000000 in
set_option maxRecDepth 100000 in
theorem p_X1_placeAt_J32 (C : zC p R s m args meth c cX1_placeAt 4 RX1 wsX1_placeAt D T 0 0 0 0) (S0 : Nat → Nat → Int32) {v1 : Int32} {v2 : Int32} (x3 : Int32)  (hD : va_D (fun _ => True) (wX1 T a0 S0)) {rec : Int32 → Option (Nat × Int32)} (hrec : ∀ (c0 : Int32) (b : Nat × Int32), rec c0 = some b → ((b.1 = 0 → zt p l e R s m args below meth c 4 A D 0 0 Q (wX1 T a0 S0) [(3, .int b.2)] 30 []) ∧ (b.1 = 1 → zt p l e R s m args below meth c 4 A D 0 0 Q (wX1 T a0 S0) [] 38 [])) → zt p l e R s m args below meth c 4 A D 0 0 Q (wX1 T a0 S0) [(0, .ref (a0 99)), (1, .int v1), (2, .int v2), (3, .int c0)] 2 []) {b : Nat × Int32} (K : (b.1 = 0 → zt p l e R s m args below meth c 4 A D 0 0 Q (wX1 T a0 S0) [(3, .int b.2)] 30 []) ∧ (b.1 = 1 → zt p l e R s m args below meth c 4 A D 0 0 Q (wX1 T a0 S0) [] 38 [])) (h : f_X1_placeAt_J32 rec S0 v1 v2 x3 = some b) : zt p l e R s m args below meth c 4 A D 0 0 Q (wX1 T a0 S0) [(0, .ref (a0 99)), (1, .int v1), (2, .int v2), (3, .int x3)] 32 [] := by
  unfold f_X1_placeAt_J32 at h
  refine z_iinc C (x3 + 1) [(0, .ref (a0 99)), (1, .int v1), (2, .int v2), (3, .int (x3 + 1))] dX1_placeAt_32 3 rfl rfl (Nat.le_of_ble_eq_true rfl) [1, 2, 3, 0] rfl 35 rfl ?_
  refine z_goto C 2 dX1_placeAt_35 (by decide) ?_
  exact z_locals (ks := [0, 1, 2, 3]) rfl (hrec _ _ h K)

def f_X1_placeAt_L2b (S0 : Nat → Nat → Int32) (v1 : Int32) (v2 : Int32) (rec : Int32 → Option (Nat × Int32)) (a : Int32) : Option (Nat × Int32) := if (S0 5 0) ≤ a then (some (1, 0)) else (zix a 7 fun _ => if (S0 6 (Int32.toNatClampNeg a)) = v1 then (zix a 7 fun _ => if (S0 7 (Int32.toNatClampNeg a)) = v2 then (some (0, a)) else (f_X1_placeAt_J32 rec S0 v1 v2 a)) else (f_X1_placeAt_J32 rec S0 v1 v2 a))
def f_X1_placeAt_L2 (S0 : Nat → Nat → Int32) (v1 : Int32) (v2 : Int32) : Nat → Int32 → Option (Nat × Int32) := zloop (fun rec a => f_X1_placeAt_L2b S0 v1 v2 rec a)
set_option maxHeartbeats 4000000 in
set_option maxRecDepth 100000 in
theorem p_X1_placeAt_L2 (C : zC p R s m args meth c cX1_placeAt 4 RX1 wsX1_placeAt D T 0 0 0 0) (S0 : Nat → Nat → Int32) (v1 : Int32) (v2 : Int32) (hD : va_D (fun _ => True) (wX1 T a0 S0)) : ∀ (n : Nat) (c0 : Int32) (b : Nat × Int32), f_X1_placeAt_L2 S0 v1 v2 n c0 = some b → ((b.1 = 0 → zt p l e R s m args below meth c 4 A D 0 0 Q (wX1 T a0 S0) [(3, .int b.2)] 30 []) ∧ (b.1 = 1 → zt p l e R s m args below meth c 4 A D 0 0 Q (wX1 T a0 S0) [] 38 [])) → zt p l e R s m args below meth c 4 A D 0 0 Q (wX1 T a0 S0) [(0, .ref (a0 99)), (1, .int v1), (2, .int v2), (3, .int c0)] 2 [] := by
  intro n c0 b h K
  refine zloop_ind (P := fun a b => ((b.1 = 0 → zt p l e R s m args below meth c 4 A D 0 0 Q (wX1 T a0 S0) [(3, .int b.2)] 30 []) ∧ (b.1 = 1 → zt p l e R s m args below meth c 4 A D 0 0 Q (wX1 T a0 S0) [] 38 [])) → zt p l e R s m args below meth c 4 A D 0 0 Q (wX1 T a0 S0) [(0, .ref (a0 99)), (1, .int v1), (2, .int v2), (3, .int a)] 2 []) ?_ n c0 b h K
  clear h K b c0
  intro rec hrec a b h K
  have hrec : ∀ (c0 : Int32) (b : Nat × Int32), rec c0 = some b → ((b.1 = 0 → zt p l e R s m args below meth c 4 A D 0 0 Q (wX1 T a0 S0) [(3, .int b.2)] 30 []) ∧ (b.1 = 1 → zt p l e R s m args below meth c 4 A D 0 0 Q (wX1 T a0 S0) [] 38 [])) → zt p l e R s m args below meth c 4 A D 0 0 Q (wX1 T a0 S0) [(0, .ref (a0 99)), (1, .int v1), (2, .int v2), (3, .int c0)] 2 [] := fun c0 b h K => hrec c0 b h K
  unfold f_X1_placeAt_L2b at h
  refine z_iload_n C dX1_placeAt_2 rfl 3 rfl 3 rfl ?_
  refine z_aload_n C dX1_placeAt_3 rfl 0 rfl 4 rfl ?_
  refine z_get C (in_X1_placeAt_X1) 0 rfl rfl 5 (by decide) (List.mem_of_getElem? (i := 1) rfl) rfl rfl dX1_placeAt_4 7 rfl ?_
  refine z_icmp_ge C 38 dX1_placeAt_7 (by decide) 10 rfl h (fun h => ?_) (fun h => ?_)
  · refine z_locals (ks := []) (lv' := []) rfl ?_
    exact zexT1 (F := (fun e0 => zt p l e R s m args below meth c 4 A D 0 0 Q (wX1 T a0 S0) [] 38 [])) h K.2
  · refine z_aload_n C dX1_placeAt_10 rfl 0 rfl 11 rfl ?_
    refine z_get C (in_X1_placeAt_X1) 0 rfl rfl 6 (by decide) (List.mem_of_getElem? (i := 2) rfl) rfl rfl dX1_placeAt_11 14 rfl ?_
    refine z_iload_n C dX1_placeAt_14 rfl 3 rfl 15 rfl ?_
    refine z_iald C 1 rfl rfl dX1_placeAt_15 16 rfl h (fun h => ?_)
    refine z_iload_n C dX1_placeAt_16 rfl 1 rfl 17 rfl ?_
    refine z_icmp_ne C 32 dX1_placeAt_17 (by decide) 20 rfl h (fun h => ?_) (fun h => ?_)
    · exact z_locals (ks := [0, 1, 2, 3]) rfl (p_X1_placeAt_J32 C S0 a (hD.zaddr rfl) hrec K h)
    · refine z_aload_n C dX1_placeAt_20 rfl 0 rfl 21 rfl ?_
      refine z_get C (in_X1_placeAt_X1) 0 rfl rfl 7 (by decide) (List.mem_of_getElem? (i := 3) rfl) rfl rfl dX1_placeAt_21 24 rfl ?_
      refine z_iload_n C dX1_placeAt_24 rfl 3 rfl 25 rfl ?_
      refine z_iald C 2 rfl rfl dX1_placeAt_25 26 rfl h (fun h => ?_)
      refine z_iload_n C dX1_placeAt_26 rfl 2 rfl 27 rfl ?_
      refine z_icmp_ne C 32 dX1_placeAt_27 (by decide) 30 rfl h (fun h => ?_) (fun h => ?_)
      · exact z_locals (ks := [0, 1, 2, 3]) rfl (p_X1_placeAt_J32 C S0 a (hD.zaddr rfl) hrec K h)
      · refine z_locals (ks := [3]) (lv' := [(3, .int a)]) rfl ?_
        exact zexT1 (F := (fun e0 => zt p l e R s m args below meth c 4 A D 0 0 Q (wX1 T a0 S0) [(3, .int e0)] 30 [])) h K.1

def f_X1_placeAt (S0 : Nat → Nat → Int32) (v1 : Int32) (v2 : Int32) : Option (Int32) := (f_X1_placeAt_L2 S0 v1 v2 zfuel 0).bind fun y_1 => if y_1.1 = 0 then (some y_1.2) else (some (-1))
theorem dd_X1_placeAt : RX1 ≠ "java/lang/invoke/MethodHandle" ∧ RX1 ≠ "java/lang/invoke/VarHandle" ∧ (parseMethodDescriptor yX1_placeAt.desc).map (fun d => d.parameters.length) = some 2 := by decide +kernel
set_option maxHeartbeats 4000000 in
set_option maxRecDepth 100000 in
theorem c_X1_placeAt (l : Launch) (D : va_G) (T : Nat → ClassId) (a0 : Nat → Nat) (S0 : Nat → Nat → Int32) (v1 : Int32) (v2 : Int32) (ex : Int32) (h : f_X1_placeAt S0 v1 v2 = some ex) : zRI l yX1_placeAt wsX1_placeAt ({ frames := 0, cells := 0, slots := 0, locals := 0 } : Room) D T [.ref (a0 99), .int v1, .int v2] (wX1 T a0 S0) ex := by
  refine z_begin (cc := cX1_placeAt) (nL := 4) (own := RX1) (fr := 0) (lc := 0) (ret := some .int) (by decide) rfl (Nat.le_of_ble_eq_true rfl) (fun _ => False) rfl [(0, .ref (a0 99)), (1, .int v1), (2, .int v2)] rfl ⟨rfl, rfl⟩ rfl ?_
  intro p e s m args below meth c C hr hD
  unfold f_X1_placeAt at h
  refine z_iconst C 0 dX1_placeAt_0 (by decide) 1 rfl ?_
  refine z_istore_n C [(0, .ref (a0 99)), (1, .int v1), (2, .int v2), (3, .int 0)] dX1_placeAt_1 rfl (Nat.le_of_ble_eq_true rfl) [1, 2, 3, 0] rfl 2 rfl ?_
  obtain ⟨y_1, hl_y_1, h⟩ := Option.bind_eq_some_iff.mp h
  refine z_locals (ks := [0, 1, 2, 3]) rfl (p_X1_placeAt_L2 C S0 v1 v2 (hD.zaddr rfl) _ _ _ hl_y_1 ⟨fun ht => ?_, fun ht => ?_⟩)
  · replace h := z_pos ht h
    refine z_iload_n C dX1_placeAt_30 rfl 0 rfl 31 rfl ?_
    exact z_iretR C hr dX1_placeAt_31 h
  · replace h := z_neg (by rw [ht]; decide) h
    refine z_iconst C (-1) dX1_placeAt_38 (by decide) 39 rfl ?_
    exact z_iretR C hr dX1_placeAt_39 h

end
/-! StreamTree$Chart.isPlaceBehind (III)Z -/
section
variable {p : Program} {l : Launch} {e : Env} {R : Room} {s : State} {m : MethodId} {args : Array Value} {below : List Frame} {meth : Method} {c : Code} {Q : State → Prop} {A : Nat → Prop} {D : va_G} {T : Nat → ClassId} {a0 : Nat → Nat}
theorem in_X1_isPlaceBehind_X1 : ∀ w ∈ u_ws RX1 TX1 10, w ∈ wsX1_isPlaceBehind := fun _ h => (List.mem_cons_of_mem _ (List.mem_append_right _ h))
def f_X1_isPlaceBehind (S0 : Nat → Nat → Int32) (v1 : Int32) (v2 : Int32) (v3 : Int32) : Option (Int32) := zix v1 7 fun _ => if v3 < (S0 7 (Int32.toNatClampNeg v1)) then (some 1) else (zix v1 7 fun _ => if (S0 7 (Int32.toNatClampNeg v1)) = v3 then (zix v1 7 fun _ => if (S0 6 (Int32.toNatClampNeg v1)) ≤ v2 then (some 0) else (some 1)) else (some 0))
theorem dd_X1_isPlaceBehind : RX1 ≠ "java/lang/invoke/MethodHandle" ∧ RX1 ≠ "java/lang/invoke/VarHandle" ∧ (parseMethodDescriptor yX1_isPlaceBehind.desc).map (fun d => d.parameters.length) = some 3 := by decide +kernel
set_option maxHeartbeats 4000000 in
set_option maxRecDepth 100000 in
theorem c_X1_isPlaceBehind (l : Launch) (D : va_G) (T : Nat → ClassId) (a0 : Nat → Nat) (S0 : Nat → Nat → Int32) (v1 : Int32) (v2 : Int32) (v3 : Int32) (ex : Int32) (h : f_X1_isPlaceBehind S0 v1 v2 v3 = some ex) : zRI l yX1_isPlaceBehind wsX1_isPlaceBehind ({ frames := 0, cells := 0, slots := 0, locals := 0 } : Room) D T [.ref (a0 99), .int v1, .int v2, .int v3] (wX1 T a0 S0) ex := by
  refine z_begin (cc := cX1_isPlaceBehind) (nL := 4) (own := RX1) (fr := 0) (lc := 0) (ret := some .boolean) (by decide) rfl (Nat.le_of_ble_eq_true rfl) (fun _ => False) rfl [(0, .ref (a0 99)), (1, .int v1), (2, .int v2), (3, .int v3)] rfl ⟨rfl, rfl⟩ rfl ?_
  intro p e s m args below meth c C hr hD
  unfold f_X1_isPlaceBehind at h
  refine z_aload_n C dX1_isPlaceBehind_0 rfl 0 rfl 1 rfl ?_
  refine z_get C (in_X1_isPlaceBehind_X1) 0 rfl rfl 7 (by decide) (List.mem_of_getElem? (i := 1) rfl) rfl rfl dX1_isPlaceBehind_1 4 rfl ?_
  refine z_iload_n C dX1_isPlaceBehind_4 rfl 1 rfl 5 rfl ?_
  refine z_iald C 2 rfl rfl dX1_isPlaceBehind_5 6 rfl h (fun h => ?_)
  refine z_iload_n C dX1_isPlaceBehind_6 rfl 3 rfl 7 rfl ?_
  refine z_icmp_gt C 30 dX1_isPlaceBehind_7 (by decide) 10 rfl h (fun h => ?_) (fun h => ?_)
  · refine z_iconst C 1 dX1_isPlaceBehind_30 (by decide) 31 rfl ?_
    refine z_goto C 35 dX1_isPlaceBehind_31 (by decide) ?_
    exact z_zretRc C hr dX1_isPlaceBehind_35 (Or.inr rfl) h
  · refine z_aload_n C dX1_isPlaceBehind_10 rfl 0 rfl 11 rfl ?_
    refine z_get C (in_X1_isPlaceBehind_X1) 0 rfl rfl 7 (by decide) (List.mem_of_getElem? (i := 1) rfl) rfl rfl dX1_isPlaceBehind_11 14 rfl ?_
    refine z_iload_n C dX1_isPlaceBehind_14 rfl 1 rfl 15 rfl ?_
    refine z_iald C 2 rfl rfl dX1_isPlaceBehind_15 16 rfl h (fun h => ?_)
    refine z_iload_n C dX1_isPlaceBehind_16 rfl 3 rfl 17 rfl ?_
    refine z_icmp_ne C 34 dX1_isPlaceBehind_17 (by decide) 20 rfl h (fun h => ?_) (fun h => ?_)
    · refine z_iconst C 0 dX1_isPlaceBehind_34 (by decide) 35 rfl ?_
      exact z_zretRc C hr dX1_isPlaceBehind_35 (Or.inl rfl) h
    · refine z_aload_n C dX1_isPlaceBehind_20 rfl 0 rfl 21 rfl ?_
      refine z_get C (in_X1_isPlaceBehind_X1) 0 rfl rfl 6 (by decide) (List.mem_of_getElem? (i := 2) rfl) rfl rfl dX1_isPlaceBehind_21 24 rfl ?_
      refine z_iload_n C dX1_isPlaceBehind_24 rfl 1 rfl 25 rfl ?_
      refine z_iald C 1 rfl rfl dX1_isPlaceBehind_25 26 rfl h (fun h => ?_)
      refine z_iload_n C dX1_isPlaceBehind_26 rfl 2 rfl 27 rfl ?_
      refine z_icmp_le C 34 dX1_isPlaceBehind_27 (by decide) 30 rfl h (fun h => ?_) (fun h => ?_)
      · refine z_iconst C 0 dX1_isPlaceBehind_34 (by decide) 35 rfl ?_
        exact z_zretRc C hr dX1_isPlaceBehind_35 (Or.inl rfl) h
      · refine z_iconst C 1 dX1_isPlaceBehind_30 (by decide) 31 rfl ?_
        refine z_goto C 35 dX1_isPlaceBehind_31 (by decide) ?_
        exact z_zretRc C hr dX1_isPlaceBehind_35 (Or.inr rfl) h

end
/-! StreamTree$Chart.movePlace (II)V -/
section
variable {p : Program} {l : Launch} {e : Env} {R : Room} {s : State} {m : MethodId} {args : Array Value} {below : List Frame} {meth : Method} {c : Code} {Q : State → Prop} {A : Nat → Prop} {D : va_G} {T : Nat → ClassId} {a0 : Nat → Nat}
theorem in_X1_movePlace_X1 : ∀ w ∈ u_ws RX1 TX1 10, w ∈ wsX1_movePlace := fun _ h => (List.mem_cons_of_mem _ (List.mem_append_right _ h))
def f_X1_movePlace (S0 : Nat → Nat → Int32) (v1 : Int32) (v2 : Int32) : Option ((Nat → Nat → Int32)) := zix v1 7 fun _ => zix v2 7 fun j => zlet (zst S0 6 j (S0 6 (Int32.toNatClampNeg v1))) fun S0_1 => zix v1 7 fun _ => zix v2 7 fun j => zlet (zst S0_1 7 j (S0_1 7 (Int32.toNatClampNeg v1))) fun S0_2 => zix v1 7 fun _ => zix v2 7 fun j => zlet (zst S0_2 8 j (S0_2 8 (Int32.toNatClampNeg v1))) fun S0_3 => some S0_3
theorem dd_X1_movePlace : RX1 ≠ "java/lang/invoke/MethodHandle" ∧ RX1 ≠ "java/lang/invoke/VarHandle" ∧ (parseMethodDescriptor yX1_movePlace.desc).map (fun d => d.parameters.length) = some 2 := by decide +kernel
set_option maxHeartbeats 4000000 in
set_option maxRecDepth 100000 in
theorem c_X1_movePlace (l : Launch) (D : va_G) (T : Nat → ClassId) (a0 : Nat → Nat) (S0 : Nat → Nat → Int32) (v1 : Int32) (v2 : Int32) (ex : (Nat → Nat → Int32)) (h : f_X1_movePlace S0 v1 v2 = some ex) : zWV l yX1_movePlace wsX1_movePlace ({ frames := 0, cells := 0, slots := 0, locals := 0 } : Room) D T [.ref (a0 99), .int v1, .int v2] (wX1 T a0 S0) (wX1 T a0 ex) := by
  refine z_begin (cc := cX1_movePlace) (nL := 3) (own := RX1) (fr := 0) (lc := 0) (ret := none) (by decide) rfl (Nat.le_of_ble_eq_true rfl) (zA (wX1 T a0 S0)) rfl [(0, .ref (a0 99)), (1, .int v1), (2, .int v2)] rfl ⟨rfl, rfl⟩ rfl ?_
  intro p e s m args below meth c C hr hD
  have hD := hD.zself
  unfold f_X1_movePlace at h
  refine z_aload_n C dX1_movePlace_0 rfl 0 rfl 1 rfl ?_
  refine z_get C (in_X1_movePlace_X1) 0 rfl rfl 6 (by decide) (List.mem_of_getElem? (i := 1) rfl) rfl rfl dX1_movePlace_1 4 rfl ?_
  refine z_iload_n C dX1_movePlace_4 rfl 2 rfl 5 rfl ?_
  refine z_aload_n C dX1_movePlace_5 rfl 0 rfl 6 rfl ?_
  refine z_get C (in_X1_movePlace_X1) 0 rfl rfl 6 (by decide) (List.mem_of_getElem? (i := 1) rfl) rfl rfl dX1_movePlace_6 9 rfl ?_
  refine z_iload_n C dX1_movePlace_9 rfl 1 rfl 10 rfl ?_
  refine z_iald C 1 rfl rfl dX1_movePlace_10 11 rfl h (fun h => ?_)
  refine z_iast C (fun z => wX1 T a0 z) S0 6 (hD.zaddr rfl) 1 rfl rfl (fun _ => rfl) dX1_movePlace_11 12 rfl h (fun S0_1 h => ?_)
  refine z_aload_n C dX1_movePlace_12 rfl 0 rfl 13 rfl ?_
  refine z_get C (in_X1_movePlace_X1) 0 rfl rfl 7 (by decide) (List.mem_of_getElem? (i := 2) rfl) rfl rfl dX1_movePlace_13 16 rfl ?_
  refine z_iload_n C dX1_movePlace_16 rfl 2 rfl 17 rfl ?_
  refine z_aload_n C dX1_movePlace_17 rfl 0 rfl 18 rfl ?_
  refine z_get C (in_X1_movePlace_X1) 0 rfl rfl 7 (by decide) (List.mem_of_getElem? (i := 2) rfl) rfl rfl dX1_movePlace_18 21 rfl ?_
  refine z_iload_n C dX1_movePlace_21 rfl 1 rfl 22 rfl ?_
  refine z_iald C 2 rfl rfl dX1_movePlace_22 23 rfl h (fun h => ?_)
  refine z_iast C (fun z => wX1 T a0 z) S0_1 7 (hD.zaddr rfl) 2 rfl rfl (fun _ => rfl) dX1_movePlace_23 24 rfl h (fun S0_2 h => ?_)
  refine z_aload_n C dX1_movePlace_24 rfl 0 rfl 25 rfl ?_
  refine z_get C (in_X1_movePlace_X1) 0 rfl rfl 8 (by decide) (List.mem_of_getElem? (i := 3) rfl) rfl rfl dX1_movePlace_25 28 rfl ?_
  refine z_iload_n C dX1_movePlace_28 rfl 2 rfl 29 rfl ?_
  refine z_aload_n C dX1_movePlace_29 rfl 0 rfl 30 rfl ?_
  refine z_get C (in_X1_movePlace_X1) 0 rfl rfl 8 (by decide) (List.mem_of_getElem? (i := 3) rfl) rfl rfl dX1_movePlace_30 33 rfl ?_
  refine z_iload_n C dX1_movePlace_33 rfl 1 rfl 34 rfl ?_
  refine z_iald C 3 rfl rfl dX1_movePlace_34 35 rfl h (fun h => ?_)
  refine z_iast C (fun z => wX1 T a0 z) S0_2 8 (hD.zaddr rfl) 3 rfl rfl (fun _ => rfl) dX1_movePlace_35 36 rfl h (fun S0_3 h => ?_)
  exact z_vretW (x := S0_3) (ex := ex) (fun z => wX1 T a0 z) C hr dX1_movePlace_36 h rfl

end
/-! StreamTree$Chart.allPlaces ()I -/
section
variable {p : Program} {l : Launch} {e : Env} {R : Room} {s : State} {m : MethodId} {args : Array Value} {below : List Frame} {meth : Method} {c : Code} {Q : State → Prop} {A : Nat → Prop} {D : va_G} {T : Nat → ClassId} {a0 : Nat → Nat}
theorem in_X1_allPlaces_X1 : ∀ w ∈ u_ws RX1 TX1 10, w ∈ wsX1_allPlaces := fun _ h => (List.mem_cons_of_mem _ (List.mem_append_right _ h))
def f_X1_allPlaces (S0 : Nat → Nat → Int32)  : Option (Int32) := some ((1 <<< ((S0 5 0) &&& 31)) - 1)
theorem dd_X1_allPlaces : RX1 ≠ "java/lang/invoke/MethodHandle" ∧ RX1 ≠ "java/lang/invoke/VarHandle" ∧ (parseMethodDescriptor yX1_allPlaces.desc).map (fun d => d.parameters.length) = some 0 := by decide +kernel
set_option maxHeartbeats 4000000 in
set_option maxRecDepth 100000 in
theorem c_X1_allPlaces (l : Launch) (D : va_G) (T : Nat → ClassId) (a0 : Nat → Nat) (S0 : Nat → Nat → Int32)  (ex : Int32) (h : f_X1_allPlaces S0 = some ex) : zRI l yX1_allPlaces wsX1_allPlaces ({ frames := 0, cells := 0, slots := 0, locals := 0 } : Room) D T [.ref (a0 99)] (wX1 T a0 S0) ex := by
  refine z_begin (cc := cX1_allPlaces) (nL := 1) (own := RX1) (fr := 0) (lc := 0) (ret := some .int) (by decide) rfl (Nat.le_of_ble_eq_true rfl) (fun _ => False) rfl [(0, .ref (a0 99))] rfl ⟨rfl, rfl⟩ rfl ?_
  intro p e s m args below meth c C hr hD
  unfold f_X1_allPlaces at h
  refine z_iconst C 1 dX1_allPlaces_0 (by decide) 1 rfl ?_
  refine z_aload_n C dX1_allPlaces_1 rfl 0 rfl 2 rfl ?_
  refine z_get C (in_X1_allPlaces_X1) 0 rfl rfl 5 (by decide) (List.mem_of_getElem? (i := 1) rfl) rfl rfl dX1_allPlaces_2 5 rfl ?_
  refine z_ishl C dX1_allPlaces_5 6 rfl ?_
  refine z_iconst C 1 dX1_allPlaces_6 (by decide) 7 rfl ?_
  refine z_isub C dX1_allPlaces_7 8 rfl ?_
  exact z_iretR C hr dX1_allPlaces_8 h

end
/-! StreamTree$Chart.amountOf (I)I -/
section
variable {p : Program} {l : Launch} {e : Env} {R : Room} {s : State} {m : MethodId} {args : Array Value} {below : List Frame} {meth : Method} {c : Code} {Q : State → Prop} {A : Nat → Prop} {D : va_G} {T : Nat → ClassId} {a0 : Nat → Nat}
theorem in_X1_amountOf_X1 : ∀ w ∈ u_ws RX1 TX1 10, w ∈ wsX1_amountOf := fun _ h => (List.mem_cons_of_mem _ (List.mem_append_right _ h))
def f_X1_amountOf_J29 (rec : (Int32 × Int32) → Option (Int32)) (S0 : Nat → Nat → Int32) (v1 : Int32) (x2 : Int32) (x3 : Int32)  : Option (Int32) := rec (x2, (x3 + 1))
set_option maxHeartbeats 4000000 in
set_option maxRecDepth 100000 in
theorem p_X1_amountOf_J29 (C : zC p R s m args meth c cX1_amountOf 4 RX1 wsX1_amountOf D T 0 0 0 0) (S0 : Nat → Nat → Int32) {v1 : Int32} (x2 : Int32) (x3 : Int32)  (hD : va_D (fun _ => True) (wX1 T a0 S0)) {rec : (Int32 × Int32) → Option (Int32)} (hrec : ∀ (c0 : Int32) (c1 : Int32) (b : Int32), rec (c0, c1) = some b → (zt p l e R s m args below meth c 4 A D 0 0 Q (wX1 T a0 S0) [(2, .int b)] 35 []) → zt p l e R s m args below meth c 4 A D 0 0 Q (wX1 T a0 S0) [(0, .ref (a0 99)), (1, .int v1), (2, .int c0), (3, .int c1)] 4 []) {b : Int32} (K : zt p l e R s m args below meth c 4 A D 0 0 Q (wX1 T a0 S0) [(2, .int b)] 35 []) (h : f_X1_amountOf_J29 rec S0 v1 x2 x3 = some b) : zt p l e R s m args below meth c 4 A D 0 0 Q (wX1 T a0 S0) [(0, .ref (a0 99)), (1, .int v1), (2, .int x2), (3, .int x3)] 29 [] := by
  unfold f_X1_amountOf_J29 at h
  refine z_iinc C (x3 + 1) [(0, .ref (a0 99)), (1, .int v1), (2, .int x2), (3, .int (x3 + 1))] dX1_amountOf_29 3 rfl rfl (Nat.le_of_ble_eq_true rfl) [1, 2, 3, 0] rfl 32 rfl ?_
  refine z_goto C 4 dX1_amountOf_32 (by decide) ?_
  exact z_locals (ks := [0, 1, 2, 3]) rfl (hrec _ _ _ h K)

def f_X1_amountOf_L4b (S0 : Nat → Nat → Int32) (v1 : Int32) (rec : (Int32 × Int32) → Option (Int32)) (a : Int32 × Int32) : Option (Int32) := if (S0 5 0) ≤ a.2 then (some a.1) else (if (v1 &&& (1 <<< (a.2 &&& 31))) = 0 then (f_X1_amountOf_J29 rec S0 v1 a.1 a.2) else (zix a.2 7 fun _ => zlet (a.1 + (S0 8 (Int32.toNatClampNeg a.2))) fun u_1 => f_X1_amountOf_J29 rec S0 v1 u_1 a.2))
def f_X1_amountOf_L4 (S0 : Nat → Nat → Int32) (v1 : Int32) : Nat → (Int32 × Int32) → Option (Int32) := zloop (fun rec a => f_X1_amountOf_L4b S0 v1 rec a)
set_option maxHeartbeats 4000000 in
set_option maxRecDepth 100000 in
theorem p_X1_amountOf_L4 (C : zC p R s m args meth c cX1_amountOf 4 RX1 wsX1_amountOf D T 0 0 0 0) (S0 : Nat → Nat → Int32) (v1 : Int32) (hD : va_D (fun _ => True) (wX1 T a0 S0)) : ∀ (n : Nat) (c0 : Int32) (c1 : Int32) (b : Int32), f_X1_amountOf_L4 S0 v1 n (c0, c1) = some b → (zt p l e R s m args below meth c 4 A D 0 0 Q (wX1 T a0 S0) [(2, .int b)] 35 []) → zt p l e R s m args below meth c 4 A D 0 0 Q (wX1 T a0 S0) [(0, .ref (a0 99)), (1, .int v1), (2, .int c0), (3, .int c1)] 4 [] := by
  intro n c0 c1 b h K
  refine zloop_ind (P := fun a b => (zt p l e R s m args below meth c 4 A D 0 0 Q (wX1 T a0 S0) [(2, .int b)] 35 []) → zt p l e R s m args below meth c 4 A D 0 0 Q (wX1 T a0 S0) [(0, .ref (a0 99)), (1, .int v1), (2, .int a.1), (3, .int a.2)] 4 []) ?_ n (c0, c1) b h K
  clear h K b c0 c1
  intro rec hrec a b h K
  have hrec : ∀ (c0 : Int32) (c1 : Int32) (b : Int32), rec (c0, c1) = some b → (zt p l e R s m args below meth c 4 A D 0 0 Q (wX1 T a0 S0) [(2, .int b)] 35 []) → zt p l e R s m args below meth c 4 A D 0 0 Q (wX1 T a0 S0) [(0, .ref (a0 99)), (1, .int v1), (2, .int c0), (3, .int c1)] 4 [] := fun c0 c1 b h K => hrec (c0, c1) b h K
  unfold f_X1_amountOf_L4b at h
  refine z_iload_n C dX1_amountOf_4 rfl 3 rfl 5 rfl ?_
  refine z_aload_n C dX1_amountOf_5 rfl 0 rfl 6 rfl ?_
  refine z_get C (in_X1_amountOf_X1) 0 rfl rfl 5 (by decide) (List.mem_of_getElem? (i := 1) rfl) rfl rfl dX1_amountOf_6 9 rfl ?_
  refine z_icmp_ge C 35 dX1_amountOf_9 (by decide) 12 rfl h (fun h => ?_) (fun h => ?_)
  · refine z_locals (ks := [2]) (lv' := [(2, .int a.1)]) rfl ?_
    exact zex1 (F := (fun e0 => zt p l e R s m args below meth c 4 A D 0 0 Q (wX1 T a0 S0) [(2, .int e0)] 35 [])) h K
  · refine z_iload_n C dX1_amountOf_12 rfl 1 rfl 13 rfl ?_
    refine z_iconst C 1 dX1_amountOf_13 (by decide) 14 rfl ?_
    refine z_iload_n C dX1_amountOf_14 rfl 3 rfl 15 rfl ?_
    refine z_ishl C dX1_amountOf_15 16 rfl ?_
    refine z_iand C dX1_amountOf_16 17 rfl ?_
    refine z_if_eq C 29 dX1_amountOf_17 (by decide) 20 rfl h (fun h => ?_) (fun h => ?_)
    · exact z_locals (ks := [0, 1, 2, 3]) rfl (p_X1_amountOf_J29 C S0 a.1 a.2 (hD.zaddr rfl) hrec K h)
    · refine z_iload_n C dX1_amountOf_20 rfl 2 rfl 21 rfl ?_
      refine z_aload_n C dX1_amountOf_21 rfl 0 rfl 22 rfl ?_
      refine z_get C (in_X1_amountOf_X1) 0 rfl rfl 8 (by decide) (List.mem_of_getElem? (i := 2) rfl) rfl rfl dX1_amountOf_22 25 rfl ?_
      refine z_iload_n C dX1_amountOf_25 rfl 3 rfl 26 rfl ?_
      refine z_iald C 3 rfl rfl dX1_amountOf_26 27 rfl h (fun h => ?_)
      refine z_iadd C dX1_amountOf_27 28 rfl ?_
      refine z_top h (fun u_1 h => ?_)
      refine z_istore_n C [(0, .ref (a0 99)), (1, .int v1), (2, .int u_1), (3, .int a.2)] dX1_amountOf_28 rfl (Nat.le_of_ble_eq_true rfl) [1, 2, 0, 3] rfl 29 rfl ?_
      exact z_locals (ks := [0, 1, 2, 3]) rfl (p_X1_amountOf_J29 C S0 u_1 a.2 (hD.zaddr rfl) hrec K h)

def f_X1_amountOf (S0 : Nat → Nat → Int32) (v1 : Int32) : Option (Int32) := (f_X1_amountOf_L4 S0 v1 zfuel (0, 0)).bind fun y_2 => some y_2
theorem dd_X1_amountOf : RX1 ≠ "java/lang/invoke/MethodHandle" ∧ RX1 ≠ "java/lang/invoke/VarHandle" ∧ (parseMethodDescriptor yX1_amountOf.desc).map (fun d => d.parameters.length) = some 1 := by decide +kernel
set_option maxHeartbeats 4000000 in
set_option maxRecDepth 100000 in
theorem c_X1_amountOf (l : Launch) (D : va_G) (T : Nat → ClassId) (a0 : Nat → Nat) (S0 : Nat → Nat → Int32) (v1 : Int32) (ex : Int32) (h : f_X1_amountOf S0 v1 = some ex) : zRI l yX1_amountOf wsX1_amountOf ({ frames := 0, cells := 0, slots := 0, locals := 0 } : Room) D T [.ref (a0 99), .int v1] (wX1 T a0 S0) ex := by
  refine z_begin (cc := cX1_amountOf) (nL := 4) (own := RX1) (fr := 0) (lc := 0) (ret := some .int) (by decide) rfl (Nat.le_of_ble_eq_true rfl) (fun _ => False) rfl [(0, .ref (a0 99)), (1, .int v1)] rfl ⟨rfl, rfl⟩ rfl ?_
  intro p e s m args below meth c C hr hD
  unfold f_X1_amountOf at h
  refine z_iconst C 0 dX1_amountOf_0 (by decide) 1 rfl ?_
  refine z_istore_n C [(0, .ref (a0 99)), (1, .int v1), (2, .int 0)] dX1_amountOf_1 rfl (Nat.le_of_ble_eq_true rfl) [1, 2, 0] rfl 2 rfl ?_
  refine z_iconst C 0 dX1_amountOf_2 (by decide) 3 rfl ?_
  refine z_istore_n C [(0, .ref (a0 99)), (1, .int v1), (2, .int 0), (3, .int 0)] dX1_amountOf_3 rfl (Nat.le_of_ble_eq_true rfl) [1, 2, 3, 0] rfl 4 rfl ?_
  obtain ⟨y_2, hl_y_2, h⟩ := Option.bind_eq_some_iff.mp h
  refine z_locals (ks := [0, 1, 2, 3]) rfl (p_X1_amountOf_L4 C S0 v1 (hD.zaddr rfl) _ _ _ _ hl_y_2 ?_)
  refine z_iload_n C dX1_amountOf_35 rfl 0 rfl 36 rfl ?_
  exact z_iretR C hr dX1_amountOf_36 h

end
/-! StreamTree$Chart.rocks ()I -/
section
variable {p : Program} {l : Launch} {e : Env} {R : Room} {s : State} {m : MethodId} {args : Array Value} {below : List Frame} {meth : Method} {c : Code} {Q : State → Prop} {A : Nat → Prop} {D : va_G} {T : Nat → ClassId} {a0 : Nat → Nat}
theorem in_X1_rocks_X1 : ∀ w ∈ u_ws RX1 TX1 10, w ∈ wsX1_rocks := fun _ h => (List.mem_cons_of_mem _ (List.mem_append_right _ h))
def f_X1_rocks_J23 (rec : (Int32 × Int32) → Option (Int32)) (S0 : Nat → Nat → Int32) (x1 : Int32) (x2 : Int32)  : Option (Int32) := rec (x1, (x2 + 1))
set_option maxHeartbeats 4000000 in
set_option maxRecDepth 100000 in
theorem p_X1_rocks_J23 (C : zC p R s m args meth c cX1_rocks 3 RX1 wsX1_rocks D T 0 0 0 0) (S0 : Nat → Nat → Int32)  (x1 : Int32) (x2 : Int32)  (hD : va_D (fun _ => True) (wX1 T a0 S0)) {rec : (Int32 × Int32) → Option (Int32)} (hrec : ∀ (c0 : Int32) (c1 : Int32) (b : Int32), rec (c0, c1) = some b → (zt p l e R s m args below meth c 3 A D 0 0 Q (wX1 T a0 S0) [(1, .int b)] 29 []) → zt p l e R s m args below meth c 3 A D 0 0 Q (wX1 T a0 S0) [(0, .ref (a0 99)), (1, .int c0), (2, .int c1)] 4 []) {b : Int32} (K : zt p l e R s m args below meth c 3 A D 0 0 Q (wX1 T a0 S0) [(1, .int b)] 29 []) (h : f_X1_rocks_J23 rec S0 x1 x2 = some b) : zt p l e R s m args below meth c 3 A D 0 0 Q (wX1 T a0 S0) [(0, .ref (a0 99)), (1, .int x1), (2, .int x2)] 23 [] := by
  unfold f_X1_rocks_J23 at h
  refine z_iinc C (x2 + 1) [(0, .ref (a0 99)), (1, .int x1), (2, .int (x2 + 1))] dX1_rocks_23 2 rfl rfl (Nat.le_of_ble_eq_true rfl) [1, 2, 0] rfl 26 rfl ?_
  refine z_goto C 4 dX1_rocks_26 (by decide) ?_
  exact z_locals (ks := [0, 1, 2]) rfl (hrec _ _ _ h K)

def f_X1_rocks_L4b (S0 : Nat → Nat → Int32)  (rec : (Int32 × Int32) → Option (Int32)) (a : Int32 × Int32) : Option (Int32) := if 240 ≤ a.2 then (some a.1) else (zix a.2 240 fun _ => if (S0 9 (Int32.toNatClampNeg a.2)) = 0 then (f_X1_rocks_J23 rec S0 a.1 a.2) else (f_X1_rocks_J23 rec S0 (a.1 + 1) a.2))
def f_X1_rocks_L4 (S0 : Nat → Nat → Int32)  : Nat → (Int32 × Int32) → Option (Int32) := zloop (fun rec a => f_X1_rocks_L4b S0 rec a)
set_option maxHeartbeats 4000000 in
set_option maxRecDepth 100000 in
theorem p_X1_rocks_L4 (C : zC p R s m args meth c cX1_rocks 3 RX1 wsX1_rocks D T 0 0 0 0) (S0 : Nat → Nat → Int32)  (hD : va_D (fun _ => True) (wX1 T a0 S0)) : ∀ (n : Nat) (c0 : Int32) (c1 : Int32) (b : Int32), f_X1_rocks_L4 S0 n (c0, c1) = some b → (zt p l e R s m args below meth c 3 A D 0 0 Q (wX1 T a0 S0) [(1, .int b)] 29 []) → zt p l e R s m args below meth c 3 A D 0 0 Q (wX1 T a0 S0) [(0, .ref (a0 99)), (1, .int c0), (2, .int c1)] 4 [] := by
  intro n c0 c1 b h K
  refine zloop_ind (P := fun a b => (zt p l e R s m args below meth c 3 A D 0 0 Q (wX1 T a0 S0) [(1, .int b)] 29 []) → zt p l e R s m args below meth c 3 A D 0 0 Q (wX1 T a0 S0) [(0, .ref (a0 99)), (1, .int a.1), (2, .int a.2)] 4 []) ?_ n (c0, c1) b h K
  clear h K b c0 c1
  intro rec hrec a b h K
  have hrec : ∀ (c0 : Int32) (c1 : Int32) (b : Int32), rec (c0, c1) = some b → (zt p l e R s m args below meth c 3 A D 0 0 Q (wX1 T a0 S0) [(1, .int b)] 29 []) → zt p l e R s m args below meth c 3 A D 0 0 Q (wX1 T a0 S0) [(0, .ref (a0 99)), (1, .int c0), (2, .int c1)] 4 [] := fun c0 c1 b h K => hrec (c0, c1) b h K
  unfold f_X1_rocks_L4b at h
  refine z_iload_n C dX1_rocks_4 rfl 2 rfl 5 rfl ?_
  refine z_sipush C 240 dX1_rocks_5 (by decide) 8 rfl ?_
  refine z_icmp_ge C 29 dX1_rocks_8 (by decide) 11 rfl h (fun h => ?_) (fun h => ?_)
  · refine z_locals (ks := [1]) (lv' := [(1, .int a.1)]) rfl ?_
    exact zex1 (F := (fun e0 => zt p l e R s m args below meth c 3 A D 0 0 Q (wX1 T a0 S0) [(1, .int e0)] 29 [])) h K
  · refine z_aload_n C dX1_rocks_11 rfl 0 rfl 12 rfl ?_
    refine z_get C (in_X1_rocks_X1) 0 rfl rfl 9 (by decide) (List.mem_of_getElem? (i := 1) rfl) rfl rfl dX1_rocks_12 15 rfl ?_
    refine z_iload_n C dX1_rocks_15 rfl 2 rfl 16 rfl ?_
    refine z_zald C 4 rfl rfl dX1_rocks_16 17 rfl h (fun h => ?_)
    refine z_if_eq C 23 dX1_rocks_17 (by decide) 20 rfl h (fun h => ?_) (fun h => ?_)
    · exact z_locals (ks := [0, 1, 2]) rfl (p_X1_rocks_J23 C S0 a.1 a.2 (hD.zaddr rfl) hrec K h)
    · refine z_iinc C (a.1 + 1) [(0, .ref (a0 99)), (1, .int (a.1 + 1)), (2, .int a.2)] dX1_rocks_20 1 rfl rfl (Nat.le_of_ble_eq_true rfl) [1, 0, 2] rfl 23 rfl ?_
      exact z_locals (ks := [0, 1, 2]) rfl (p_X1_rocks_J23 C S0 (a.1 + 1) a.2 (hD.zaddr rfl) hrec K h)

def f_X1_rocks (S0 : Nat → Nat → Int32)  : Option (Int32) := (f_X1_rocks_L4 S0 zfuel (0, 0)).bind fun y_1 => some y_1
theorem dd_X1_rocks : RX1 ≠ "java/lang/invoke/MethodHandle" ∧ RX1 ≠ "java/lang/invoke/VarHandle" ∧ (parseMethodDescriptor yX1_rocks.desc).map (fun d => d.parameters.length) = some 0 := by decide +kernel
set_option maxHeartbeats 4000000 in
set_option maxRecDepth 100000 in
theorem c_X1_rocks (l : Launch) (D : va_G) (T : Nat → ClassId) (a0 : Nat → Nat) (S0 : Nat → Nat → Int32)  (ex : Int32) (h : f_X1_rocks S0 = some ex) : zRI l yX1_rocks wsX1_rocks ({ frames := 0, cells := 0, slots := 0, locals := 0 } : Room) D T [.ref (a0 99)] (wX1 T a0 S0) ex := by
  refine z_begin (cc := cX1_rocks) (nL := 3) (own := RX1) (fr := 0) (lc := 0) (ret := some .int) (by decide) rfl (Nat.le_of_ble_eq_true rfl) (fun _ => False) rfl [(0, .ref (a0 99))] rfl ⟨rfl, rfl⟩ rfl ?_
  intro p e s m args below meth c C hr hD
  unfold f_X1_rocks at h
  refine z_iconst C 0 dX1_rocks_0 (by decide) 1 rfl ?_
  refine z_istore_n C [(0, .ref (a0 99)), (1, .int 0)] dX1_rocks_1 rfl (Nat.le_of_ble_eq_true rfl) [1, 0] rfl 2 rfl ?_
  refine z_iconst C 0 dX1_rocks_2 (by decide) 3 rfl ?_
  refine z_istore_n C [(0, .ref (a0 99)), (1, .int 0), (2, .int 0)] dX1_rocks_3 rfl (Nat.le_of_ble_eq_true rfl) [1, 2, 0] rfl 4 rfl ?_
  obtain ⟨y_1, hl_y_1, h⟩ := Option.bind_eq_some_iff.mp h
  refine z_locals (ks := [0, 1, 2]) rfl (p_X1_rocks_L4 C S0  (hD.zaddr rfl) _ _ _ _ hl_y_1 ?_)
  refine z_iload_n C dX1_rocks_29 rfl 0 rfl 30 rfl ?_
  exact z_iretR C hr dX1_rocks_30 h

end
/-! StreamTree$Chart.turnsOf (I)I -/
section
variable {p : Program} {l : Launch} {e : Env} {R : Room} {s : State} {m : MethodId} {args : Array Value} {below : List Frame} {meth : Method} {c : Code} {Q : State → Prop} {A : Nat → Prop} {D : va_G} {T : Nat → ClassId} {a0 : Nat → Nat}
theorem in_X1_turnsOf_X1 : ∀ w ∈ u_ws RX1 TX1 10, w ∈ wsX1_turnsOf := fun _ h => (List.mem_cons_of_mem _ (List.mem_append_right _ h))
def f_X1_turnsOf (S0 : Nat → Nat → Int32) (v1 : Int32) : Option (Int32) := if v1 = 0 then (some 1) else (some (S0 1 0))
theorem dd_X1_turnsOf : RX1 ≠ "java/lang/invoke/MethodHandle" ∧ RX1 ≠ "java/lang/invoke/VarHandle" ∧ (parseMethodDescriptor yX1_turnsOf.desc).map (fun d => d.parameters.length) = some 1 := by decide +kernel
set_option maxHeartbeats 4000000 in
set_option maxRecDepth 100000 in
theorem c_X1_turnsOf (l : Launch) (D : va_G) (T : Nat → ClassId) (a0 : Nat → Nat) (S0 : Nat → Nat → Int32) (v1 : Int32) (ex : Int32) (h : f_X1_turnsOf S0 v1 = some ex) : zRI l yX1_turnsOf wsX1_turnsOf ({ frames := 0, cells := 0, slots := 0, locals := 0 } : Room) D T [.ref (a0 99), .int v1] (wX1 T a0 S0) ex := by
  refine z_begin (cc := cX1_turnsOf) (nL := 2) (own := RX1) (fr := 0) (lc := 0) (ret := some .int) (by decide) rfl (Nat.le_of_ble_eq_true rfl) (fun _ => False) rfl [(0, .ref (a0 99)), (1, .int v1)] rfl ⟨rfl, rfl⟩ rfl ?_
  intro p e s m args below meth c C hr hD
  unfold f_X1_turnsOf at h
  refine z_iload_n C dX1_turnsOf_0 rfl 1 rfl 1 rfl ?_
  refine z_if_ne C 8 dX1_turnsOf_1 (by decide) 4 rfl h (fun h => ?_) (fun h => ?_)
  · refine z_aload_n C dX1_turnsOf_8 rfl 0 rfl 9 rfl ?_
    refine z_get C (in_X1_turnsOf_X1) 0 rfl rfl 1 (by decide) (List.mem_of_getElem? (i := 1) rfl) rfl rfl dX1_turnsOf_9 12 rfl ?_
    exact z_iretR C hr dX1_turnsOf_12 h
  · refine z_iconst C 1 dX1_turnsOf_4 (by decide) 5 rfl ?_
    refine z_goto C 12 dX1_turnsOf_5 (by decide) ?_
    exact z_iretR C hr dX1_turnsOf_12 h

end
/-! StreamTree$Chart.turnBeside (II)I -/
section
variable {p : Program} {l : Launch} {e : Env} {R : Room} {s : State} {m : MethodId} {args : Array Value} {below : List Frame} {meth : Method} {c : Code} {Q : State → Prop} {A : Nat → Prop} {D : va_G} {T : Nat → ClassId} {a0 : Nat → Nat}
theorem in_X1_turnBeside_X1 : ∀ w ∈ u_ws RX1 TX1 10, w ∈ wsX1_turnBeside := fun _ h => (List.mem_cons_of_mem _ (List.mem_append_right _ h))
def f_X1_turnBeside (S0 : Nat → Nat → Int32) (v1 : Int32) (v2 : Int32) : Option (Int32) := if v2 = 1 then (if v1 = 0 then (some ((S0 1 0) - 1)) else (some (v1 - 1))) else (if v2 = 2 then (if v1 = ((S0 1 0) - 1) then (some 0) else (some (v1 + 1))) else (some v1))
theorem dd_X1_turnBeside : RX1 ≠ "java/lang/invoke/MethodHandle" ∧ RX1 ≠ "java/lang/invoke/VarHandle" ∧ (parseMethodDescriptor yX1_turnBeside.desc).map (fun d => d.parameters.length) = some 2 := by decide +kernel
set_option maxHeartbeats 4000000 in
set_option maxRecDepth 100000 in
theorem c_X1_turnBeside (l : Launch) (D : va_G) (T : Nat → ClassId) (a0 : Nat → Nat) (S0 : Nat → Nat → Int32) (v1 : Int32) (v2 : Int32) (ex : Int32) (h : f_X1_turnBeside S0 v1 v2 = some ex) : zRI l yX1_turnBeside wsX1_turnBeside ({ frames := 0, cells := 0, slots := 0, locals := 0 } : Room) D T [.ref (a0 99), .int v1, .int v2] (wX1 T a0 S0) ex := by
  refine z_begin (cc := cX1_turnBeside) (nL := 3) (own := RX1) (fr := 0) (lc := 0) (ret := some .int) (by decide) rfl (Nat.le_of_ble_eq_true rfl) (fun _ => False) rfl [(0, .ref (a0 99)), (1, .int v1), (2, .int v2)] rfl ⟨rfl, rfl⟩ rfl ?_
  intro p e s m args below meth c C hr hD
  unfold f_X1_turnBeside at h
  refine z_iload_n C dX1_turnBeside_0 rfl 2 rfl 1 rfl ?_
  refine z_iconst C 1 dX1_turnBeside_1 (by decide) 2 rfl ?_
  refine z_icmp_ne C 22 dX1_turnBeside_2 (by decide) 5 rfl h (fun h => ?_) (fun h => ?_)
  · refine z_iload_n C dX1_turnBeside_22 rfl 2 rfl 23 rfl ?_
    refine z_iconst C 2 dX1_turnBeside_23 (by decide) 24 rfl ?_
    refine z_icmp_ne C 45 dX1_turnBeside_24 (by decide) 27 rfl h (fun h => ?_) (fun h => ?_)
    · refine z_iload_n C dX1_turnBeside_45 rfl 1 rfl 46 rfl ?_
      exact z_iretR C hr dX1_turnBeside_46 h
    · refine z_iload_n C dX1_turnBeside_27 rfl 1 rfl 28 rfl ?_
      refine z_aload_n C dX1_turnBeside_28 rfl 0 rfl 29 rfl ?_
      refine z_get C (in_X1_turnBeside_X1) 0 rfl rfl 1 (by decide) (List.mem_of_getElem? (i := 1) rfl) rfl rfl dX1_turnBeside_29 32 rfl ?_
      refine z_iconst C 1 dX1_turnBeside_32 (by decide) 33 rfl ?_
      refine z_isub C dX1_turnBeside_33 34 rfl ?_
      refine z_icmp_ne C 41 dX1_turnBeside_34 (by decide) 37 rfl h (fun h => ?_) (fun h => ?_)
      · refine z_iload_n C dX1_turnBeside_41 rfl 1 rfl 42 rfl ?_
        refine z_iconst C 1 dX1_turnBeside_42 (by decide) 43 rfl ?_
        refine z_iadd C dX1_turnBeside_43 44 rfl ?_
        exact z_iretR C hr dX1_turnBeside_44 h
      · refine z_iconst C 0 dX1_turnBeside_37 (by decide) 38 rfl ?_
        refine z_goto C 44 dX1_turnBeside_38 (by decide) ?_
        exact z_iretR C hr dX1_turnBeside_44 h
  · refine z_iload_n C dX1_turnBeside_5 rfl 1 rfl 6 rfl ?_
    refine z_if_ne C 18 dX1_turnBeside_6 (by decide) 9 rfl h (fun h => ?_) (fun h => ?_)
    · refine z_iload_n C dX1_turnBeside_18 rfl 1 rfl 19 rfl ?_
      refine z_iconst C 1 dX1_turnBeside_19 (by decide) 20 rfl ?_
      refine z_isub C dX1_turnBeside_20 21 rfl ?_
      exact z_iretR C hr dX1_turnBeside_21 h
    · refine z_aload_n C dX1_turnBeside_9 rfl 0 rfl 10 rfl ?_
      refine z_get C (in_X1_turnBeside_X1) 0 rfl rfl 1 (by decide) (List.mem_of_getElem? (i := 1) rfl) rfl rfl dX1_turnBeside_10 13 rfl ?_
      refine z_iconst C 1 dX1_turnBeside_13 (by decide) 14 rfl ?_
      refine z_isub C dX1_turnBeside_14 15 rfl ?_
      refine z_goto C 21 dX1_turnBeside_15 (by decide) ?_
      exact z_iretR C hr dX1_turnBeside_21 h

end
/-! StreamTree$Chart.cellInwards (III)I -/
section
variable {p : Program} {l : Launch} {e : Env} {R : Room} {s : State} {m : MethodId} {args : Array Value} {below : List Frame} {meth : Method} {c : Code} {Q : State → Prop} {A : Nat → Prop} {D : va_G} {T : Nat → ClassId} {a0 : Nat → Nat}
def f_X1_cellInwards (S0 : Nat → Nat → Int32) (v1 : Int32) (v2 : Int32) (v3 : Int32) : Option (Int32) := if 1 < v1 then ((f_X1_turnBeside S0 v2 v3).bind fun r_1 => (f_X6_cellOf (v1 - 1) r_1).bind fun r_2 => some r_2) else (some 0)
theorem dd_X1_cellInwards : RX1 ≠ "java/lang/invoke/MethodHandle" ∧ RX1 ≠ "java/lang/invoke/VarHandle" ∧ (parseMethodDescriptor yX1_cellInwards.desc).map (fun d => d.parameters.length) = some 3 := by decide +kernel
set_option maxHeartbeats 4000000 in
set_option maxRecDepth 100000 in
theorem c_X1_cellInwards (l : Launch) (D : va_G) (T : Nat → ClassId) (a0 : Nat → Nat) (S0 : Nat → Nat → Int32) (v1 : Int32) (v2 : Int32) (v3 : Int32) (ex : Int32) (h : f_X1_cellInwards S0 v1 v2 v3 = some ex) : zRI l yX1_cellInwards wsX1_cellInwards ({ frames := 1, cells := 0, slots := 0, locals := 22 } : Room) D T [.ref (a0 99), .int v1, .int v2, .int v3] (wX1 T a0 S0) ex := by
  refine z_begin (cc := cX1_cellInwards) (nL := 4) (own := RX1) (fr := 1) (lc := 22) (ret := some .int) (by decide) rfl (Nat.le_of_ble_eq_true rfl) (fun _ => False) rfl [(0, .ref (a0 99)), (1, .int v1), (2, .int v2), (3, .int v3)] rfl ⟨rfl, rfl⟩ rfl ?_
  intro p e s m args below meth c C hr hD
  unfold f_X1_cellInwards at h
  refine z_iload_n C dX1_cellInwards_0 rfl 1 rfl 1 rfl ?_
  refine z_iconst C 1 dX1_cellInwards_1 (by decide) 2 rfl ?_
  refine z_icmp_gt C 9 dX1_cellInwards_2 (by decide) 5 rfl h (fun h => ?_) (fun h => ?_)
  · refine z_iload_n C dX1_cellInwards_9 rfl 1 rfl 10 rfl ?_
    refine z_iconst C 1 dX1_cellInwards_10 (by decide) 11 rfl ?_
    refine z_isub C dX1_cellInwards_11 12 rfl ?_
    refine z_aload_n C dX1_cellInwards_12 rfl 0 rfl 13 rfl ?_
    refine z_iload_n C dX1_cellInwards_13 rfl 2 rfl 14 rfl ?_
    refine z_iload_n C dX1_cellInwards_14 rfl 3 rfl 15 rfl ?_
    refine z_callR C (wX1 T a0 S0) (fun v h => c_X1_turnBeside l D T a0  S0 v2 v3 v h) ⟨rfl, rfl⟩ (z_cwV C 2 gX1_cellInwards_X1_turnBeside rfl rfl dd_X1_turnBeside ⟨(Nat.le_of_ble_eq_true rfl), (Nat.le_of_ble_eq_true rfl)⟩) (hD.zaddr rfl) [0, 1, 2, 3, 4] rfl rfl (fun _ => ⟨a0 99, [.int v2, .int v3], 1, 0, _, _, rfl, rfl, rfl, rfl, rfl⟩) (fun h => absurd rfl h) rfl (Nat.le_of_ble_eq_true rfl) dX1_cellInwards_15 18 rfl h (fun r_1 h => ?_)
    refine z_callR C ([]) (fun v h => c_X6_cellOf l D T    (v1 - 1) r_1 v h) ⟨rfl, rfl⟩ (z_cwN C 2 gX1_cellInwards_X6_cellOf_n69 rfl (List.mem_of_getElem? (i := 7) rfl) (List.mem_of_getElem? (i := 7) rfl) (List.mem_of_getElem? (i := 8) rfl) dd_X6_cellOf ⟨(Nat.le_of_ble_eq_true rfl), (Nat.le_of_ble_eq_true rfl)⟩) (hD.zaddr rfl) [] rfl rfl (fun h => absurd h (by decide)) (fun _ => rfl) rfl (Nat.le_of_ble_eq_true rfl) dX1_cellInwards_18 21 rfl h (fun r_2 h => ?_)
    exact z_iretR C hr dX1_cellInwards_21 h
  · refine z_iconst C 0 dX1_cellInwards_5 (by decide) 6 rfl ?_
    refine z_goto C 21 dX1_cellInwards_6 (by decide) ?_
    exact z_iretR C hr dX1_cellInwards_21 h

end
/-! StreamTree$Chart.lengthOf (I)I -/
section
variable {p : Program} {l : Launch} {e : Env} {R : Room} {s : State} {m : MethodId} {args : Array Value} {below : List Frame} {meth : Method} {c : Code} {Q : State → Prop} {A : Nat → Prop} {D : va_G} {T : Nat → ClassId} {a0 : Nat → Nat}
theorem in_X1_lengthOf_X1 : ∀ w ∈ u_ws RX1 TX1 10, w ∈ wsX1_lengthOf := fun _ h => (List.mem_cons_of_mem _ (List.mem_append_right _ h))
def f_X1_lengthOf (S0 : Nat → Nat → Int32) (v1 : Int32) : Option (Int32) := if v1 = 0 then (some 10) else (some (10 + (S0 3 0)))
theorem dd_X1_lengthOf : RX1 ≠ "java/lang/invoke/MethodHandle" ∧ RX1 ≠ "java/lang/invoke/VarHandle" ∧ (parseMethodDescriptor yX1_lengthOf.desc).map (fun d => d.parameters.length) = some 1 := by decide +kernel
set_option maxHeartbeats 4000000 in
set_option maxRecDepth 100000 in
theorem c_X1_lengthOf (l : Launch) (D : va_G) (T : Nat → ClassId) (a0 : Nat → Nat) (S0 : Nat → Nat → Int32) (v1 : Int32) (ex : Int32) (h : f_X1_lengthOf S0 v1 = some ex) : zRI l yX1_lengthOf wsX1_lengthOf ({ frames := 0, cells := 0, slots := 0, locals := 0 } : Room) D T [.ref (a0 99), .int v1] (wX1 T a0 S0) ex := by
  refine z_begin (cc := cX1_lengthOf) (nL := 2) (own := RX1) (fr := 0) (lc := 0) (ret := some .int) (by decide) rfl (Nat.le_of_ble_eq_true rfl) (fun _ => False) rfl [(0, .ref (a0 99)), (1, .int v1)] rfl ⟨rfl, rfl⟩ rfl ?_
  intro p e s m args below meth c C hr hD
  unfold f_X1_lengthOf at h
  refine z_iload_n C dX1_lengthOf_0 rfl 1 rfl 1 rfl ?_
  refine z_if_ne C 9 dX1_lengthOf_1 (by decide) 4 rfl h (fun h => ?_) (fun h => ?_)
  · refine z_bipush C 10 dX1_lengthOf_9 (by decide) 11 rfl ?_
    refine z_aload_n C dX1_lengthOf_11 rfl 0 rfl 12 rfl ?_
    refine z_get C (in_X1_lengthOf_X1) 0 rfl rfl 3 (by decide) (List.mem_of_getElem? (i := 1) rfl) rfl rfl dX1_lengthOf_12 15 rfl ?_
    refine z_iadd C dX1_lengthOf_15 16 rfl ?_
    exact z_iretR C hr dX1_lengthOf_16 h
  · refine z_bipush C 10 dX1_lengthOf_4 (by decide) 6 rfl ?_
    refine z_goto C 16 dX1_lengthOf_6 (by decide) ?_
    exact z_iretR C hr dX1_lengthOf_16 h

end
/-! StreamTree$Chart.inkOfStep (II)I -/
section
variable {p : Program} {l : Launch} {e : Env} {R : Room} {s : State} {m : MethodId} {args : Array Value} {below : List Frame} {meth : Method} {c : Code} {Q : State → Prop} {A : Nat → Prop} {D : va_G} {T : Nat → ClassId} {a0 : Nat → Nat}
theorem in_X1_inkOfStep_X1 : ∀ w ∈ u_ws RX1 TX1 10, w ∈ wsX1_inkOfStep := fun _ h => (List.mem_cons_of_mem _ (List.mem_append_right _ h))
def f_X1_inkOfStep (S0 : Nat → Nat → Int32) (v1 : Int32) (v2 : Int32) : Option (Int32) := (f_X1_lengthOf S0 v1).bind fun r_1 => some (r_1 * ((S0 2 0) + v2))
theorem dd_X1_inkOfStep : RX1 ≠ "java/lang/invoke/MethodHandle" ∧ RX1 ≠ "java/lang/invoke/VarHandle" ∧ (parseMethodDescriptor yX1_inkOfStep.desc).map (fun d => d.parameters.length) = some 2 := by decide +kernel
set_option maxHeartbeats 4000000 in
set_option maxRecDepth 100000 in
theorem c_X1_inkOfStep (l : Launch) (D : va_G) (T : Nat → ClassId) (a0 : Nat → Nat) (S0 : Nat → Nat → Int32) (v1 : Int32) (v2 : Int32) (ex : Int32) (h : f_X1_inkOfStep S0 v1 v2 = some ex) : zRI l yX1_inkOfStep wsX1_inkOfStep ({ frames := 1, cells := 0, slots := 0, locals := 21 } : Room) D T [.ref (a0 99), .int v1, .int v2] (wX1 T a0 S0) ex := by
  refine z_begin (cc := cX1_inkOfStep) (nL := 3) (own := RX1) (fr := 1) (lc := 21) (ret := some .int) (by decide) rfl (Nat.le_of_ble_eq_true rfl) (fun _ => False) rfl [(0, .ref (a0 99)), (1, .int v1), (2, .int v2)] rfl ⟨rfl, rfl⟩ rfl ?_
  intro p e s m args below meth c C hr hD
  unfold f_X1_inkOfStep at h
  refine z_aload_n C dX1_inkOfStep_0 rfl 0 rfl 1 rfl ?_
  refine z_iload_n C dX1_inkOfStep_1 rfl 1 rfl 2 rfl ?_
  refine z_callR C (wX1 T a0 S0) (fun v h => c_X1_lengthOf l D T a0  S0 v1 v h) ⟨rfl, rfl⟩ (z_cwV C 1 gX1_inkOfStep_X1_lengthOf rfl rfl dd_X1_lengthOf ⟨(Nat.le_of_ble_eq_true rfl), (Nat.le_of_ble_eq_true rfl)⟩) (hD.zaddr rfl) [0, 1, 2, 3, 4] rfl rfl (fun _ => ⟨a0 99, [.int v1], 1, 0, _, _, rfl, rfl, rfl, rfl, rfl⟩) (fun h => absurd rfl h) rfl (Nat.le_of_ble_eq_true rfl) dX1_inkOfStep_2 5 rfl h (fun r_1 h => ?_)
  refine z_aload_n C dX1_inkOfStep_5 rfl 0 rfl 6 rfl ?_
  refine z_get C (in_X1_inkOfStep_X1) 0 rfl rfl 2 (by decide) (List.mem_of_getElem? (i := 1) rfl) rfl rfl dX1_inkOfStep_6 9 rfl ?_
  refine z_iload_n C dX1_inkOfStep_9 rfl 2 rfl 10 rfl ?_
  refine z_iadd C dX1_inkOfStep_10 11 rfl ?_
  refine z_imul C dX1_inkOfStep_11 12 rfl ?_
  exact z_iretR C hr dX1_inkOfStep_12 h

end
/-! java/lang/Integer.bitCount (I)I -/
section
variable {p : Program} {l : Launch} {e : Env} {R : Room} {s : State} {m : MethodId} {args : Array Value} {below : List Frame} {meth : Method} {c : Code} {Q : State → Prop} {A : Nat → Prop} {D : va_G} {T : Nat → ClassId} 
def f_J6_bitCount_0f7a4  (v0 : Int32) : Option (Int32) := zlet (v0 - ((Int32.toUInt32 v0 >>> (Int32.toUInt32 1 &&& Int32.toUInt32 31)).toInt32 &&& 1431655765)) fun u_1 => zlet ((u_1 &&& 858993459) + ((Int32.toUInt32 u_1 >>> (Int32.toUInt32 2 &&& Int32.toUInt32 31)).toInt32 &&& 858993459)) fun u_2 => zlet ((u_2 + (Int32.toUInt32 u_2 >>> (Int32.toUInt32 4 &&& Int32.toUInt32 31)).toInt32) &&& 252645135) fun u_3 => zlet (u_3 + (Int32.toUInt32 u_3 >>> (Int32.toUInt32 8 &&& Int32.toUInt32 31)).toInt32) fun u_4 => zlet (u_4 + (Int32.toUInt32 u_4 >>> (Int32.toUInt32 16 &&& Int32.toUInt32 31)).toInt32) fun u_5 => some (u_5 &&& 63)
theorem dd_J6_bitCount_0f7a4 : RJ6 ≠ "java/lang/invoke/MethodHandle" ∧ RJ6 ≠ "java/lang/invoke/VarHandle" ∧ (parseMethodDescriptor yJ6_bitCount_0f7a4.desc).map (fun d => d.parameters.length) = some 1 := by decide +kernel
set_option maxHeartbeats 4000000 in
set_option maxRecDepth 100000 in
theorem c_J6_bitCount_0f7a4 (l : Launch) (D : va_G) (T : Nat → ClassId)   (v0 : Int32) (ex : Int32) (h : f_J6_bitCount_0f7a4 v0 = some ex) : zRI l yJ6_bitCount_0f7a4 wsJ6_bitCount_0f7a4 ({ frames := 0, cells := 0, slots := 0, locals := 0 } : Room) D T [.int v0] ([]) ex := by
  refine z_begin (cc := cJ6_bitCount_0f7a4) (nL := 1) (own := RJ6) (fr := 0) (lc := 0) (ret := some .int) (by decide) rfl (Nat.le_of_ble_eq_true rfl) (fun _ => False) rfl [(0, .int v0)] rfl ⟨rfl, rfl⟩ rfl ?_
  intro p e s m args below meth c C hr hD
  unfold f_J6_bitCount_0f7a4 at h
  refine z_iload_n C dJ6_bitCount_0f7a4_0 rfl 0 rfl 1 rfl ?_
  refine z_iload_n C dJ6_bitCount_0f7a4_1 rfl 0 rfl 2 rfl ?_
  refine z_iconst C 1 dJ6_bitCount_0f7a4_2 (by decide) 3 rfl ?_
  refine z_iushr C dJ6_bitCount_0f7a4_3 4 rfl ?_
  refine z_ldcw C 1431655765 (List.mem_of_getElem? (i := 1) rfl) dJ6_bitCount_0f7a4_4 7 rfl ?_
  refine z_iand C dJ6_bitCount_0f7a4_7 8 rfl ?_
  refine z_isub C dJ6_bitCount_0f7a4_8 9 rfl ?_
  refine z_top h (fun u_1 h => ?_)
  refine z_istore_n C [(0, .int u_1)] dJ6_bitCount_0f7a4_9 rfl (Nat.le_of_ble_eq_true rfl) [0] rfl 10 rfl ?_
  refine z_iload_n C dJ6_bitCount_0f7a4_10 rfl 0 rfl 11 rfl ?_
  refine z_ldcw C 858993459 (List.mem_of_getElem? (i := 2) rfl) dJ6_bitCount_0f7a4_11 14 rfl ?_
  refine z_iand C dJ6_bitCount_0f7a4_14 15 rfl ?_
  refine z_iload_n C dJ6_bitCount_0f7a4_15 rfl 0 rfl 16 rfl ?_
  refine z_iconst C 2 dJ6_bitCount_0f7a4_16 (by decide) 17 rfl ?_
  refine z_iushr C dJ6_bitCount_0f7a4_17 18 rfl ?_
  refine z_ldcw C 858993459 (List.mem_of_getElem? (i := 2) rfl) dJ6_bitCount_0f7a4_18 21 rfl ?_
  refine z_iand C dJ6_bitCount_0f7a4_21 22 rfl ?_
  refine z_iadd C dJ6_bitCount_0f7a4_22 23 rfl ?_
  refine z_top h (fun u_2 h => ?_)
  refine z_istore_n C [(0, .int u_2)] dJ6_bitCount_0f7a4_23 rfl (Nat.le_of_ble_eq_true rfl) [0] rfl 24 rfl ?_
  refine z_iload_n C dJ6_bitCount_0f7a4_24 rfl 0 rfl 25 rfl ?_
  refine z_iload_n C dJ6_bitCount_0f7a4_25 rfl 0 rfl 26 rfl ?_
  refine z_iconst C 4 dJ6_bitCount_0f7a4_26 (by decide) 27 rfl ?_
  refine z_iushr C dJ6_bitCount_0f7a4_27 28 rfl ?_
  refine z_iadd C dJ6_bitCount_0f7a4_28 29 rfl ?_
  refine z_ldcw C 252645135 (List.mem_of_getElem? (i := 3) rfl) dJ6_bitCount_0f7a4_29 32 rfl ?_
  refine z_iand C dJ6_bitCount_0f7a4_32 33 rfl ?_
  refine z_top h (fun u_3 h => ?_)
  refine z_istore_n C [(0, .int u_3)] dJ6_bitCount_0f7a4_33 rfl (Nat.le_of_ble_eq_true rfl) [0] rfl 34 rfl ?_
  refine z_iload_n C dJ6_bitCount_0f7a4_34 rfl 0 rfl 35 rfl ?_
  refine z_iload_n C dJ6_bitCount_0f7a4_35 rfl 0 rfl 36 rfl ?_
  refine z_bipush C 8 dJ6_bitCount_0f7a4_36 (by decide) 38 rfl ?_
  refine z_iushr C dJ6_bitCount_0f7a4_38 39 rfl ?_
  refine z_iadd C dJ6_bitCount_0f7a4_39 40 rfl ?_
  refine z_top h (fun u_4 h => ?_)
  refine z_istore_n C [(0, .int u_4)] dJ6_bitCount_0f7a4_40 rfl (Nat.le_of_ble_eq_true rfl) [0] rfl 41 rfl ?_
  refine z_iload_n C dJ6_bitCount_0f7a4_41 rfl 0 rfl 42 rfl ?_
  refine z_iload_n C dJ6_bitCount_0f7a4_42 rfl 0 rfl 43 rfl ?_
  refine z_bipush C 16 dJ6_bitCount_0f7a4_43 (by decide) 45 rfl ?_
  refine z_iushr C dJ6_bitCount_0f7a4_45 46 rfl ?_
  refine z_iadd C dJ6_bitCount_0f7a4_46 47 rfl ?_
  refine z_top h (fun u_5 h => ?_)
  refine z_istore_n C [(0, .int u_5)] dJ6_bitCount_0f7a4_47 rfl (Nat.le_of_ble_eq_true rfl) [0] rfl 48 rfl ?_
  refine z_iload_n C dJ6_bitCount_0f7a4_48 rfl 0 rfl 49 rfl ?_
  refine z_bipush C 63 dJ6_bitCount_0f7a4_49 (by decide) 51 rfl ?_
  refine z_iand C dJ6_bitCount_0f7a4_51 52 rfl ?_
  exact z_iretR C hr dJ6_bitCount_0f7a4_52 h

end
/-! java/util/Arrays.fill ([II)V -/
section
variable {p : Program} {l : Launch} {e : Env} {R : Room} {s : State} {m : MethodId} {args : Array Value} {below : List Frame} {meth : Method} {c : Code} {Q : State → Prop} {A : Nat → Prop} {D : va_G} {T : Nat → ClassId} {a0 : Nat → Nat} {N : Nat}
def f_J7_fill_53178_L5b (N : Nat)  (v1 : Int32) (v3 : Int32) (rec : (Int32 × (Nat → Nat → Int32)) → Option ((Nat → Nat → Int32))) (a : Int32 × (Nat → Nat → Int32)) : Option ((Nat → Nat → Int32)) := if v3 ≤ a.1 then (some a.2) else (zix a.1 N fun j => zlet (zst a.2 0 j v1) fun S0_1 => rec ((a.1 + 1), S0_1))
def f_J7_fill_53178_L5 (N : Nat)  (v1 : Int32) (v3 : Int32) : Nat → (Int32 × (Nat → Nat → Int32)) → Option ((Nat → Nat → Int32)) := zloop (fun rec a => f_J7_fill_53178_L5b N v1 v3 rec a)
set_option maxHeartbeats 4000000 in
set_option maxRecDepth 100000 in
theorem p_J7_fill_53178_L5 (C : zC p R s m args meth c cJ7_fill_53178 4 RJ7 wsJ7_fill_53178 D T 0 0 0 0) (S0 : Nat → Nat → Int32) (v1 : Int32) (v3 : Int32) (hD : va_D A (wAI N T a0 S0)) : ∀ (n : Nat) (c0 : Int32) (c1 : Nat → Nat → Int32) (b : (Nat → Nat → Int32)), f_J7_fill_53178_L5 N v1 v3 n (c0, c1) = some b → (zt p l e R s m args below meth c 4 A D 0 0 Q (wAI N T a0 b) [] 20 []) → zt p l e R s m args below meth c 4 A D 0 0 Q (wAI N T a0 c1) [(0, .ref (a0 0)), (1, .int v1), (2, .int c0), (3, .int v3)] 5 [] := by
  intro n c0 c1 b h K
  refine zloop_ind (P := fun a b => (zt p l e R s m args below meth c 4 A D 0 0 Q (wAI N T a0 b) [] 20 []) → zt p l e R s m args below meth c 4 A D 0 0 Q (wAI N T a0 a.2) [(0, .ref (a0 0)), (1, .int v1), (2, .int a.1), (3, .int v3)] 5 []) ?_ n (c0, c1) b h K
  clear h K b c0 c1
  intro rec hrec a b h K
  have hrec : ∀ (c0 : Int32) (c1 : Nat → Nat → Int32) (b : (Nat → Nat → Int32)), rec (c0, c1) = some b → (zt p l e R s m args below meth c 4 A D 0 0 Q (wAI N T a0 b) [] 20 []) → zt p l e R s m args below meth c 4 A D 0 0 Q (wAI N T a0 c1) [(0, .ref (a0 0)), (1, .int v1), (2, .int c0), (3, .int v3)] 5 [] := fun c0 c1 b h K => hrec (c0, c1) b h K
  unfold f_J7_fill_53178_L5b at h
  refine z_iload_n C dJ7_fill_53178_5 rfl 2 rfl 6 rfl ?_
  refine z_iload_n C dJ7_fill_53178_6 rfl 3 rfl 7 rfl ?_
  refine z_icmp_ge C 20 dJ7_fill_53178_7 (by decide) 10 rfl h (fun h => ?_) (fun h => ?_)
  · refine z_locals (ks := []) (lv' := []) rfl ?_
    exact zex1 (F := (fun e0 => zt p l e R s m args below meth c 4 A D 0 0 Q (wAI N T a0 e0) [] 20 [])) h K
  · refine z_aload_n C dJ7_fill_53178_10 rfl 0 rfl 11 rfl ?_
    refine z_iload_n C dJ7_fill_53178_11 rfl 2 rfl 12 rfl ?_
    refine z_iload_n C dJ7_fill_53178_12 rfl 1 rfl 13 rfl ?_
    refine z_iast C (fun z => wAI N T a0 z) a.2 0 (hD.zaddr rfl) 0 rfl rfl (fun _ => rfl) dJ7_fill_53178_13 14 rfl h (fun S0_1 h => ?_)
    refine z_iinc C (a.1 + 1) [(0, .ref (a0 0)), (1, .int v1), (2, .int (a.1 + 1)), (3, .int v3)] dJ7_fill_53178_14 2 rfl rfl (Nat.le_of_ble_eq_true rfl) [1, 2, 0, 3] rfl 17 rfl ?_
    refine z_goto C 5 dJ7_fill_53178_17 (by decide) ?_
    exact z_locals (ks := [0, 1, 2, 3]) rfl (hrec _ _ _ h K)

def f_J7_fill_53178 (N : Nat) (S0 : Nat → Nat → Int32) (v1 : Int32) : Option ((Nat → Nat → Int32)) := (f_J7_fill_53178_L5 N v1 (Int32.ofNat N) zfuel (0, S0)).bind fun y_2 => some y_2
theorem dd_J7_fill_53178 : RJ7 ≠ "java/lang/invoke/MethodHandle" ∧ RJ7 ≠ "java/lang/invoke/VarHandle" ∧ (parseMethodDescriptor yJ7_fill_53178.desc).map (fun d => d.parameters.length) = some 2 := by decide +kernel
set_option maxHeartbeats 4000000 in
set_option maxRecDepth 100000 in
theorem c_J7_fill_53178 (l : Launch) (N : Nat) (D : va_G) (T : Nat → ClassId) (a0 : Nat → Nat) (S0 : Nat → Nat → Int32) (v1 : Int32) (ex : (Nat → Nat → Int32)) (h : f_J7_fill_53178 N S0 v1 = some ex) : zWV l yJ7_fill_53178 wsJ7_fill_53178 ({ frames := 0, cells := 0, slots := 0, locals := 0 } : Room) D T [.ref (a0 0), .int v1] (wAI N T a0 S0) (wAI N T a0 ex) := by
  refine z_begin (cc := cJ7_fill_53178) (nL := 4) (own := RJ7) (fr := 0) (lc := 0) (ret := none) (by decide) rfl (Nat.le_of_ble_eq_true rfl) (zA (wAI N T a0 S0)) rfl [(0, .ref (a0 0)), (1, .int v1)] rfl ⟨rfl, rfl⟩ rfl ?_
  intro p e s m args below meth c C hr hD
  have hD := hD.zself
  unfold f_J7_fill_53178 at h
  refine z_iconst C 0 dJ7_fill_53178_0 (by decide) 1 rfl ?_
  refine z_istore_n C [(0, .ref (a0 0)), (1, .int v1), (2, .int 0)] dJ7_fill_53178_1 rfl (Nat.le_of_ble_eq_true rfl) [1, 2, 0] rfl 2 rfl ?_
  refine z_aload_n C dJ7_fill_53178_2 rfl 0 rfl 3 rfl ?_
  refine z_alen C (Int32.ofNat N) 0 rfl rfl (rfl) dJ7_fill_53178_3 4 rfl ?_
  refine z_istore_n C [(0, .ref (a0 0)), (1, .int v1), (2, .int 0), (3, .int (Int32.ofNat N))] dJ7_fill_53178_4 rfl (Nat.le_of_ble_eq_true rfl) [1, 2, 3, 0] rfl 5 rfl ?_
  obtain ⟨y_2, hl_y_2, h⟩ := Option.bind_eq_some_iff.mp h
  refine z_locals (ks := [0, 1, 2, 3]) rfl (p_J7_fill_53178_L5 C S0 v1 (Int32.ofNat N) (hD.zaddr rfl) _ _ _ _ hl_y_2 ?_)
  exact z_vretW (x := y_2) (ex := ex) (fun z => wAI N T a0 z) C hr dJ7_fill_53178_20 h rfl

end
/-! StreamTree$Chart.beginAnew (II)V -/
section
variable {p : Program} {l : Launch} {e : Env} {R : Room} {s : State} {m : MethodId} {args : Array Value} {below : List Frame} {meth : Method} {c : Code} {Q : State → Prop} {A : Nat → Prop} {D : va_G} {T : Nat → ClassId} {a0 : Nat → Nat}
theorem in_X1_beginAnew_X1 : ∀ w ∈ u_ws RX1 TX1 10, w ∈ wsX1_beginAnew := fun _ h => (List.mem_cons_of_mem _ (List.mem_append_right _ h))
def f_X1_beginAnew (S0 : Nat → Nat → Int32) (v1 : Int32) (v2 : Int32) : Option ((Nat → Nat → Int32)) := (f_X1_clear S0 v1 v2).bind fun r_1 => zlet (zst r_1 2 0 10) fun S0_2 => zlet (zst S0_2 3 0 4) fun S0_3 => zlet (zst S0_3 4 0 3) fun S0_4 => some S0_4
theorem dd_X1_beginAnew : RX1 ≠ "java/lang/invoke/MethodHandle" ∧ RX1 ≠ "java/lang/invoke/VarHandle" ∧ (parseMethodDescriptor yX1_beginAnew.desc).map (fun d => d.parameters.length) = some 2 := by decide +kernel
set_option maxHeartbeats 4000000 in
set_option maxRecDepth 100000 in
theorem c_X1_beginAnew (l : Launch) (D : va_G) (T : Nat → ClassId) (a0 : Nat → Nat) (S0 : Nat → Nat → Int32) (v1 : Int32) (v2 : Int32) (ex : (Nat → Nat → Int32)) (h : f_X1_beginAnew S0 v1 v2 = some ex) : zWV l yX1_beginAnew wsX1_beginAnew ({ frames := 1, cells := 0, slots := 0, locals := 23 } : Room) D T [.ref (a0 99), .int v1, .int v2] (wX1 T a0 S0) (wX1 T a0 ex) := by
  refine z_begin (cc := cX1_beginAnew) (nL := 3) (own := RX1) (fr := 1) (lc := 23) (ret := none) (by decide) rfl (Nat.le_of_ble_eq_true rfl) (zA (wX1 T a0 S0)) rfl [(0, .ref (a0 99)), (1, .int v1), (2, .int v2)] rfl ⟨rfl, rfl⟩ rfl ?_
  intro p e s m args below meth c C hr hD
  have hD := hD.zself
  unfold f_X1_beginAnew at h
  refine z_aload_n C dX1_beginAnew_0 rfl 0 rfl 1 rfl ?_
  refine z_iload_n C dX1_beginAnew_1 rfl 1 rfl 2 rfl ?_
  refine z_iload_n C dX1_beginAnew_2 rfl 2 rfl 3 rfl ?_
  refine z_callV C (wX1 T a0 S0) (([] : va_W)) (fun z => wX1 T a0 z) (fun z => wX1 T a0 z) (fun z h => c_X1_clear l D T a0  S0 v1 v2 z h) ⟨rfl, rfl⟩ (z_cwV C 2 gX1_beginAnew_X1_clear rfl rfl dd_X1_clear ⟨(Nat.le_of_ble_eq_true rfl), (Nat.le_of_ble_eq_true rfl)⟩) (hD.zaddr rfl) [0, 1, 2, 3, 4] [] [0, 1, 2, 3, 4] rfl rfl rfl (by decide) (fun _ => rfl) (fun _ => ⟨a0 99, [.int v1, .int v2], 1, 0, _, _, rfl, rfl, rfl, rfl, rfl⟩) (fun h => absurd rfl h) rfl (Nat.le_of_ble_eq_true rfl) dX1_beginAnew_3 6 rfl h (fun r_1 h => ?_)
  refine z_aload_n C dX1_beginAnew_6 rfl 0 rfl 7 rfl ?_
  refine z_bipush C 10 dX1_beginAnew_7 (by decide) 9 rfl ?_
  refine z_put (ty := .int) C (fun z => wX1 T a0 z) r_1 (hD.zaddr rfl) (in_X1_beginAnew_X1) tyX1 tyX1_ok nmX1 0 rfl rfl 2 (by decide) (List.mem_of_getElem? (i := 1) rfl) rfl rfl (by decide +kernel) rfl rfl (Nat.le_of_ble_eq_true rfl) rfl dX1_beginAnew_9 12 rfl h (fun S0_2 h => ?_)
  refine z_aload_n C dX1_beginAnew_12 rfl 0 rfl 13 rfl ?_
  refine z_iconst C 4 dX1_beginAnew_13 (by decide) 14 rfl ?_
  refine z_put (ty := .int) C (fun z => wX1 T a0 z) S0_2 (hD.zaddr rfl) (in_X1_beginAnew_X1) tyX1 tyX1_ok nmX1 0 rfl rfl 3 (by decide) (List.mem_of_getElem? (i := 2) rfl) rfl rfl (by decide +kernel) rfl rfl (Nat.le_of_ble_eq_true rfl) rfl dX1_beginAnew_14 17 rfl h (fun S0_3 h => ?_)
  refine z_aload_n C dX1_beginAnew_17 rfl 0 rfl 18 rfl ?_
  refine z_iconst C 3 dX1_beginAnew_18 (by decide) 19 rfl ?_
  refine z_put (ty := .int) C (fun z => wX1 T a0 z) S0_3 (hD.zaddr rfl) (in_X1_beginAnew_X1) tyX1 tyX1_ok nmX1 0 rfl rfl 4 (by decide) (List.mem_of_getElem? (i := 3) rfl) rfl rfl (by decide +kernel) rfl rfl (Nat.le_of_ble_eq_true rfl) rfl dX1_beginAnew_19 22 rfl h (fun S0_4 h => ?_)
  exact z_vretW (x := S0_4) (ex := ex) (fun z => wX1 T a0 z) C hr dX1_beginAnew_22 h rfl

end
/-! StreamTree$Chart.addPlace (III)V -/
section
variable {p : Program} {l : Launch} {e : Env} {R : Room} {s : State} {m : MethodId} {args : Array Value} {below : List Frame} {meth : Method} {c : Code} {Q : State → Prop} {A : Nat → Prop} {D : va_G} {T : Nat → ClassId} {a0 : Nat → Nat}
theorem in_X1_addPlace_X1 : ∀ w ∈ u_ws RX1 TX1 10, w ∈ wsX1_addPlace := fun _ h => (List.mem_cons_of_mem _ (List.mem_append_right _ h))
def f_X1_addPlace_L16b  (v1 : Int32) (v2 : Int32) (v3 : Int32) (rec : (Int32 × (Nat → Nat → Int32)) → Option (Int32 × (Nat → Nat → Int32))) (a : Int32 × (Nat → Nat → Int32)) : Option (Int32 × (Nat → Nat → Int32)) := if a.1 ≤ 0 then (some (a.1, a.2)) else ((f_X1_isPlaceBehind a.2 (a.1 - 1) v1 v2).bind fun r_2 => if r_2 = 0 then (some (a.1, a.2)) else ((f_X1_movePlace a.2 (a.1 - 1) a.1).bind fun r_3 => rec ((a.1 + (-1)), r_3)))
def f_X1_addPlace_L16  (v1 : Int32) (v2 : Int32) (v3 : Int32) : Nat → (Int32 × (Nat → Nat → Int32)) → Option (Int32 × (Nat → Nat → Int32)) := zloop (fun rec a => f_X1_addPlace_L16b v1 v2 v3 rec a)
set_option maxHeartbeats 4000000 in
set_option maxRecDepth 100000 in
theorem p_X1_addPlace_L16 (C : zC p R s m args meth c cX1_addPlace 5 RX1 wsX1_addPlace D T 1 23 0 0) (S0 : Nat → Nat → Int32) (v1 : Int32) (v2 : Int32) (v3 : Int32) (hD : va_D A (wX1 T a0 S0)) : ∀ (n : Nat) (c0 : Int32) (c1 : Nat → Nat → Int32) (b : Int32 × (Nat → Nat → Int32)), f_X1_addPlace_L16 v1 v2 v3 n (c0, c1) = some b → (zt p l e R s m args below meth c 5 A D 0 0 Q (wX1 T a0 b.2) [(0, .ref (a0 99)), (1, .int v1), (2, .int v2), (3, .int v3), (4, .int b.1)] 50 []) → zt p l e R s m args below meth c 5 A D 0 0 Q (wX1 T a0 c1) [(0, .ref (a0 99)), (1, .int v1), (2, .int v2), (3, .int v3), (4, .int c0)] 16 [] := by
  intro n c0 c1 b h K
  refine zloop_ind (P := fun a b => (zt p l e R s m args below meth c 5 A D 0 0 Q (wX1 T a0 b.2) [(0, .ref (a0 99)), (1, .int v1), (2, .int v2), (3, .int v3), (4, .int b.1)] 50 []) → zt p l e R s m args below meth c 5 A D 0 0 Q (wX1 T a0 a.2) [(0, .ref (a0 99)), (1, .int v1), (2, .int v2), (3, .int v3), (4, .int a.1)] 16 []) ?_ n (c0, c1) b h K
  clear h K b c0 c1
  intro rec hrec a b h K
  have hrec : ∀ (c0 : Int32) (c1 : Nat → Nat → Int32) (b : Int32 × (Nat → Nat → Int32)), rec (c0, c1) = some b → (zt p l e R s m args below meth c 5 A D 0 0 Q (wX1 T a0 b.2) [(0, .ref (a0 99)), (1, .int v1), (2, .int v2), (3, .int v3), (4, .int b.1)] 50 []) → zt p l e R s m args below meth c 5 A D 0 0 Q (wX1 T a0 c1) [(0, .ref (a0 99)), (1, .int v1), (2, .int v2), (3, .int v3), (4, .int c0)] 16 [] := fun c0 c1 b h K => hrec (c0, c1) b h K
  unfold f_X1_addPlace_L16b at h
  refine z_iload C dX1_addPlace_16 4 rfl 18 rfl ?_
  refine z_if_le C 50 dX1_addPlace_18 (by decide) 21 rfl h (fun h => ?_) (fun h => ?_)
  · refine z_locals (ks := [0, 1, 2, 3, 4]) (lv' := [(0, .ref (a0 99)), (1, .int v1), (2, .int v2), (3, .int v3), (4, .int a.1)]) rfl ?_
    exact zex2 (F := (fun e0 e1 => zt p l e R s m args below meth c 5 A D 0 0 Q (wX1 T a0 e1) [(0, .ref (a0 99)), (1, .int v1), (2, .int v2), (3, .int v3), (4, .int e0)] 50 [])) h K
  · refine z_aload_n C dX1_addPlace_21 rfl 0 rfl 22 rfl ?_
    refine z_iload C dX1_addPlace_22 4 rfl 24 rfl ?_
    refine z_iconst C 1 dX1_addPlace_24 (by decide) 25 rfl ?_
    refine z_isub C dX1_addPlace_25 26 rfl ?_
    refine z_iload_n C dX1_addPlace_26 rfl 1 rfl 27 rfl ?_
    refine z_iload_n C dX1_addPlace_27 rfl 2 rfl 28 rfl ?_
    refine z_callR C (wX1 T a0 a.2) (fun v h => c_X1_isPlaceBehind l D T a0  a.2 (a.1 - 1) v1 v2 v h) ⟨rfl, rfl⟩ (z_cwV C 3 gX1_addPlace_X1_isPlaceBehind rfl rfl dd_X1_isPlaceBehind ⟨(Nat.le_of_ble_eq_true rfl), (Nat.le_of_ble_eq_true rfl)⟩) (hD.zaddr rfl) [0, 1, 2, 3, 4] rfl rfl (fun _ => ⟨a0 99, [.int (a.1 - 1), .int v1, .int v2], 1, 0, _, _, rfl, rfl, rfl, rfl, rfl⟩) (fun h => absurd rfl h) rfl (Nat.le_of_ble_eq_true rfl) dX1_addPlace_28 31 rfl h (fun r_2 h => ?_)
    refine z_if_eq C 50 dX1_addPlace_31 (by decide) 34 rfl h (fun h => ?_) (fun h => ?_)
    · refine z_locals (ks := [0, 1, 2, 3, 4]) (lv' := [(0, .ref (a0 99)), (1, .int v1), (2, .int v2), (3, .int v3), (4, .int a.1)]) rfl ?_
      exact zex2 (F := (fun e0 e1 => zt p l e R s m args below meth c 5 A D 0 0 Q (wX1 T a0 e1) [(0, .ref (a0 99)), (1, .int v1), (2, .int v2), (3, .int v3), (4, .int e0)] 50 [])) h K
    · refine z_aload_n C dX1_addPlace_34 rfl 0 rfl 35 rfl ?_
      refine z_iload C dX1_addPlace_35 4 rfl 37 rfl ?_
      refine z_iconst C 1 dX1_addPlace_37 (by decide) 38 rfl ?_
      refine z_isub C dX1_addPlace_38 39 rfl ?_
      refine z_iload C dX1_addPlace_39 4 rfl 41 rfl ?_
      refine z_callV C (wX1 T a0 a.2) (([] : va_W)) (fun z => wX1 T a0 z) (fun z => wX1 T a0 z) (fun z h => c_X1_movePlace l D T a0  a.2 (a.1 - 1) a.1 z h) ⟨rfl, rfl⟩ (z_cwV C 2 gX1_addPlace_X1_movePlace rfl rfl dd_X1_movePlace ⟨(Nat.le_of_ble_eq_true rfl), (Nat.le_of_ble_eq_true rfl)⟩) (hD.zaddr rfl) [0, 1, 2, 3, 4] [] [0, 1, 2, 3, 4] rfl rfl rfl (by decide) (fun _ => rfl) (fun _ => ⟨a0 99, [.int (a.1 - 1), .int a.1], 1, 0, _, _, rfl, rfl, rfl, rfl, rfl⟩) (fun h => absurd rfl h) rfl (Nat.le_of_ble_eq_true rfl) dX1_addPlace_41 44 rfl h (fun r_3 h => ?_)
      refine z_iinc C (a.1 + (-1)) [(0, .ref (a0 99)), (1, .int v1), (2, .int v2), (3, .int v3), (4, .int (a.1 + (-1)))] dX1_addPlace_44 4 rfl rfl (Nat.le_of_ble_eq_true rfl) [1, 2, 3, 4, 0] rfl 47 rfl ?_
      refine z_goto C 16 dX1_addPlace_47 (by decide) ?_
      exact z_locals (ks := [0, 1, 2, 3, 4]) rfl (hrec _ _ _ h K)

def f_X1_addPlace_J50 (S0 : Nat → Nat → Int32) (x1 : Int32) (x2 : Int32) (x3 : Int32) (x4 : Int32)  : Option ((Nat → Nat → Int32)) := zix x4 7 fun j => zlet (zst S0 6 j x1) fun S0_5 => zix x4 7 fun j => zlet (zst S0_5 7 j x2) fun S0_6 => zix x4 7 fun j => zlet (zst S0_6 8 j x3) fun S0_7 => zlet (zst S0_7 5 0 ((S0_7 5 0) + 1)) fun S0_8 => some S0_8
set_option maxHeartbeats 4000000 in
set_option maxRecDepth 100000 in
theorem p_X1_addPlace_J50 {w0 : va_W} (C : zC p R s m args meth c cX1_addPlace 5 RX1 wsX1_addPlace D T 1 23 0 0) (hr : meth.sig.returnType = none) (S0 : Nat → Nat → Int32) (x1 : Int32) (x2 : Int32) (x3 : Int32) (x4 : Int32)  (hD : va_D (zA w0) (wX1 T a0 S0)) {ex : (Nat → Nat → Int32)} (h : f_X1_addPlace_J50 S0 x1 x2 x3 x4 = some ex) : zt p l e R s m args below meth c 5 (zA w0) D 0 0 (MQ below (zQV D w0 (wX1 T a0 ex)) args s 0 0 (zA w0)) (wX1 T a0 S0) [(0, .ref (a0 99)), (1, .int x1), (2, .int x2), (3, .int x3), (4, .int x4)] 50 [] := by
  unfold f_X1_addPlace_J50 at h
  refine z_aload_n C dX1_addPlace_50 rfl 0 rfl 51 rfl ?_
  refine z_get C (in_X1_addPlace_X1) 0 rfl rfl 6 (by decide) (List.mem_of_getElem? (i := 2) rfl) rfl rfl dX1_addPlace_51 54 rfl ?_
  refine z_iload C dX1_addPlace_54 4 rfl 56 rfl ?_
  refine z_iload_n C dX1_addPlace_56 rfl 1 rfl 57 rfl ?_
  refine z_iast C (fun z => wX1 T a0 z) S0 6 (hD.zaddr rfl) 1 rfl rfl (fun _ => rfl) dX1_addPlace_57 58 rfl h (fun S0_5 h => ?_)
  refine z_aload_n C dX1_addPlace_58 rfl 0 rfl 59 rfl ?_
  refine z_get C (in_X1_addPlace_X1) 0 rfl rfl 7 (by decide) (List.mem_of_getElem? (i := 3) rfl) rfl rfl dX1_addPlace_59 62 rfl ?_
  refine z_iload C dX1_addPlace_62 4 rfl 64 rfl ?_
  refine z_iload_n C dX1_addPlace_64 rfl 2 rfl 65 rfl ?_
  refine z_iast C (fun z => wX1 T a0 z) S0_5 7 (hD.zaddr rfl) 2 rfl rfl (fun _ => rfl) dX1_addPlace_65 66 rfl h (fun S0_6 h => ?_)
  refine z_aload_n C dX1_addPlace_66 rfl 0 rfl 67 rfl ?_
  refine z_get C (in_X1_addPlace_X1) 0 rfl rfl 8 (by decide) (List.mem_of_getElem? (i := 4) rfl) rfl rfl dX1_addPlace_67 70 rfl ?_
  refine z_iload C dX1_addPlace_70 4 rfl 72 rfl ?_
  refine z_iload_n C dX1_addPlace_72 rfl 3 rfl 73 rfl ?_
  refine z_iast C (fun z => wX1 T a0 z) S0_6 8 (hD.zaddr rfl) 3 rfl rfl (fun _ => rfl) dX1_addPlace_73 74 rfl h (fun S0_7 h => ?_)
  refine z_aload_n C dX1_addPlace_74 rfl 0 rfl 75 rfl ?_
  refine z_dup C dX1_addPlace_75 rfl 76 rfl ?_
  refine z_get C (in_X1_addPlace_X1) 0 rfl rfl 5 (by decide) (List.mem_of_getElem? (i := 1) rfl) rfl rfl dX1_addPlace_76 79 rfl ?_
  refine z_iconst C 1 dX1_addPlace_79 (by decide) 80 rfl ?_
  refine z_iadd C dX1_addPlace_80 81 rfl ?_
  refine z_put (ty := .int) C (fun z => wX1 T a0 z) S0_7 (hD.zaddr rfl) (in_X1_addPlace_X1) tyX1 tyX1_ok nmX1 0 rfl rfl 5 (by decide) (List.mem_of_getElem? (i := 1) rfl) rfl rfl (by decide +kernel) rfl rfl (Nat.le_of_ble_eq_true rfl) rfl dX1_addPlace_81 84 rfl h (fun S0_8 h => ?_)
  exact z_vretW (x := S0_8) (ex := ex) (fun z => wX1 T a0 z) C hr dX1_addPlace_84 h rfl

def f_X1_addPlace (S0 : Nat → Nat → Int32) (v1 : Int32) (v2 : Int32) (v3 : Int32) : Option ((Nat → Nat → Int32)) := if (S0 5 0) < 7 then (zlet (S0 5 0) fun u_1 => (f_X1_addPlace_L16 v1 v2 v3 zfuel (u_1, S0)).bind fun y_4 => f_X1_addPlace_J50 y_4.2 v1 v2 v3 y_4.1) else (some S0)
theorem dd_X1_addPlace : RX1 ≠ "java/lang/invoke/MethodHandle" ∧ RX1 ≠ "java/lang/invoke/VarHandle" ∧ (parseMethodDescriptor yX1_addPlace.desc).map (fun d => d.parameters.length) = some 3 := by decide +kernel
set_option maxHeartbeats 4000000 in
set_option maxRecDepth 100000 in
theorem c_X1_addPlace (l : Launch) (D : va_G) (T : Nat → ClassId) (a0 : Nat → Nat) (S0 : Nat → Nat → Int32) (v1 : Int32) (v2 : Int32) (v3 : Int32) (ex : (Nat → Nat → Int32)) (h : f_X1_addPlace S0 v1 v2 v3 = some ex) : zWV l yX1_addPlace wsX1_addPlace ({ frames := 1, cells := 0, slots := 0, locals := 23 } : Room) D T [.ref (a0 99), .int v1, .int v2, .int v3] (wX1 T a0 S0) (wX1 T a0 ex) := by
  refine z_begin (cc := cX1_addPlace) (nL := 5) (own := RX1) (fr := 1) (lc := 23) (ret := none) (by decide) rfl (Nat.le_of_ble_eq_true rfl) (zA (wX1 T a0 S0)) rfl [(0, .ref (a0 99)), (1, .int v1), (2, .int v2), (3, .int v3)] rfl ⟨rfl, rfl⟩ rfl ?_
  intro p e s m args below meth c C hr hD
  have hD := hD.zself
  unfold f_X1_addPlace at h
  refine z_aload_n C dX1_addPlace_0 rfl 0 rfl 1 rfl ?_
  refine z_get C (in_X1_addPlace_X1) 0 rfl rfl 5 (by decide) (List.mem_of_getElem? (i := 1) rfl) rfl rfl dX1_addPlace_1 4 rfl ?_
  refine z_bipush C 7 dX1_addPlace_4 (by decide) 6 rfl ?_
  refine z_icmp_lt C 10 dX1_addPlace_6 (by decide) 9 rfl h (fun h => ?_) (fun h => ?_)
  · refine z_aload_n C dX1_addPlace_10 rfl 0 rfl 11 rfl ?_
    refine z_get C (in_X1_addPlace_X1) 0 rfl rfl 5 (by decide) (List.mem_of_getElem? (i := 1) rfl) rfl rfl dX1_addPlace_11 14 rfl ?_
    refine z_top h (fun u_1 h => ?_)
    refine z_istore C [(0, .ref (a0 99)), (1, .int v1), (2, .int v2), (3, .int v3), (4, .int u_1)] dX1_addPlace_14 (Nat.le_of_ble_eq_true rfl) [1, 2, 3, 4, 0] rfl 16 rfl ?_
    obtain ⟨y_4, hl_y_4, h⟩ := Option.bind_eq_some_iff.mp h
    refine z_locals (ks := [0, 1, 2, 3, 4]) rfl (p_X1_addPlace_L16 C S0 v1 v2 v3 (hD.zaddr rfl) _ _ _ _ hl_y_4 ?_)
    exact z_locals (ks := [0, 1, 2, 3, 4]) rfl (p_X1_addPlace_J50 C hr y_4.2 v1 v2 v3 y_4.1 (hD.zaddr rfl) h)
  · exact z_vretW (x := S0) (ex := ex) (fun z => wX1 T a0 z) C hr dX1_addPlace_9 h rfl

end
/-! StreamTree$Chart.removePlace (I)V -/
section
variable {p : Program} {l : Launch} {e : Env} {R : Room} {s : State} {m : MethodId} {args : Array Value} {below : List Frame} {meth : Method} {c : Code} {Q : State → Prop} {A : Nat → Prop} {D : va_G} {T : Nat → ClassId} {a0 : Nat → Nat}
theorem in_X1_removePlace_X1 : ∀ w ∈ u_ws RX1 TX1 10, w ∈ wsX1_removePlace := fun _ h => (List.mem_cons_of_mem _ (List.mem_append_right _ h))
def f_X1_removePlace_L4b   (rec : (Int32 × (Nat → Nat → Int32)) → Option ((Nat → Nat → Int32))) (a : Int32 × (Nat → Nat → Int32)) : Option ((Nat → Nat → Int32)) := if (a.2 5 0) ≤ a.1 then (some a.2) else ((f_X1_movePlace a.2 a.1 (a.1 - 1)).bind fun r_2 => rec ((a.1 + 1), r_2))
def f_X1_removePlace_L4   : Nat → (Int32 × (Nat → Nat → Int32)) → Option ((Nat → Nat → Int32)) := zloop (fun rec a => f_X1_removePlace_L4b  rec a)
set_option maxHeartbeats 4000000 in
set_option maxRecDepth 100000 in
theorem p_X1_removePlace_L4 (C : zC p R s m args meth c cX1_removePlace 3 RX1 wsX1_removePlace D T 1 22 0 0) (S0 : Nat → Nat → Int32)  (hD : va_D A (wX1 T a0 S0)) : ∀ (n : Nat) (c0 : Int32) (c1 : Nat → Nat → Int32) (b : (Nat → Nat → Int32)), f_X1_removePlace_L4  n (c0, c1) = some b → (zt p l e R s m args below meth c 3 A D 0 0 Q (wX1 T a0 b) [(0, .ref (a0 99))] 26 []) → zt p l e R s m args below meth c 3 A D 0 0 Q (wX1 T a0 c1) [(0, .ref (a0 99)), (2, .int c0)] 4 [] := by
  intro n c0 c1 b h K
  refine zloop_ind (P := fun a b => (zt p l e R s m args below meth c 3 A D 0 0 Q (wX1 T a0 b) [(0, .ref (a0 99))] 26 []) → zt p l e R s m args below meth c 3 A D 0 0 Q (wX1 T a0 a.2) [(0, .ref (a0 99)), (2, .int a.1)] 4 []) ?_ n (c0, c1) b h K
  clear h K b c0 c1
  intro rec hrec a b h K
  have hrec : ∀ (c0 : Int32) (c1 : Nat → Nat → Int32) (b : (Nat → Nat → Int32)), rec (c0, c1) = some b → (zt p l e R s m args below meth c 3 A D 0 0 Q (wX1 T a0 b) [(0, .ref (a0 99))] 26 []) → zt p l e R s m args below meth c 3 A D 0 0 Q (wX1 T a0 c1) [(0, .ref (a0 99)), (2, .int c0)] 4 [] := fun c0 c1 b h K => hrec (c0, c1) b h K
  unfold f_X1_removePlace_L4b at h
  refine z_iload_n C dX1_removePlace_4 rfl 1 rfl 5 rfl ?_
  refine z_aload_n C dX1_removePlace_5 rfl 0 rfl 6 rfl ?_
  refine z_get C (in_X1_removePlace_X1) 0 rfl rfl 5 (by decide) (List.mem_of_getElem? (i := 1) rfl) rfl rfl dX1_removePlace_6 9 rfl ?_
  refine z_icmp_ge C 26 dX1_removePlace_9 (by decide) 12 rfl h (fun h => ?_) (fun h => ?_)
  · refine z_locals (ks := [0]) (lv' := [(0, .ref (a0 99))]) rfl ?_
    exact zex1 (F := (fun e0 => zt p l e R s m args below meth c 3 A D 0 0 Q (wX1 T a0 e0) [(0, .ref (a0 99))] 26 [])) h K
  · refine z_aload_n C dX1_removePlace_12 rfl 0 rfl 13 rfl ?_
    refine z_iload_n C dX1_removePlace_13 rfl 1 rfl 14 rfl ?_
    refine z_iload_n C dX1_removePlace_14 rfl 1 rfl 15 rfl ?_
    refine z_iconst C 1 dX1_removePlace_15 (by decide) 16 rfl ?_
    refine z_isub C dX1_removePlace_16 17 rfl ?_
    refine z_callV C (wX1 T a0 a.2) (([] : va_W)) (fun z => wX1 T a0 z) (fun z => wX1 T a0 z) (fun z h => c_X1_movePlace l D T a0  a.2 a.1 (a.1 - 1) z h) ⟨rfl, rfl⟩ (z_cwV C 2 gX1_removePlace_X1_movePlace rfl rfl dd_X1_movePlace ⟨(Nat.le_of_ble_eq_true rfl), (Nat.le_of_ble_eq_true rfl)⟩) (hD.zaddr rfl) [0, 1, 2, 3, 4] [] [0, 1, 2, 3, 4] rfl rfl rfl (by decide) (fun _ => rfl) (fun _ => ⟨a0 99, [.int a.1, .int (a.1 - 1)], 1, 0, _, _, rfl, rfl, rfl, rfl, rfl⟩) (fun h => absurd rfl h) rfl (Nat.le_of_ble_eq_true rfl) dX1_removePlace_17 20 rfl h (fun r_2 h => ?_)
    refine z_iinc C (a.1 + 1) [(0, .ref (a0 99)), (2, .int (a.1 + 1))] dX1_removePlace_20 1 rfl rfl (Nat.le_of_ble_eq_true rfl) [1, 0] rfl 23 rfl ?_
    refine z_goto C 4 dX1_removePlace_23 (by decide) ?_
    exact z_locals (ks := [0, 1]) rfl (hrec _ _ _ h K)

def f_X1_removePlace (S0 : Nat → Nat → Int32) (v1 : Int32) : Option ((Nat → Nat → Int32)) := zlet (v1 + 1) fun u_1 => (f_X1_removePlace_L4  zfuel (u_1, S0)).bind fun y_3 => zlet (zst y_3 5 0 ((y_3 5 0) - 1)) fun S0_4 => some S0_4
theorem dd_X1_removePlace : RX1 ≠ "java/lang/invoke/MethodHandle" ∧ RX1 ≠ "java/lang/invoke/VarHandle" ∧ (parseMethodDescriptor yX1_removePlace.desc).map (fun d => d.parameters.length) = some 1 := by decide +kernel
set_option maxHeartbeats 4000000 in
set_option maxRecDepth 100000 in
theorem c_X1_removePlace (l : Launch) (D : va_G) (T : Nat → ClassId) (a0 : Nat → Nat) (S0 : Nat → Nat → Int32) (v1 : Int32) (ex : (Nat → Nat → Int32)) (h : f_X1_removePlace S0 v1 = some ex) : zWV l yX1_removePlace wsX1_removePlace ({ frames := 1, cells := 0, slots := 0, locals := 22 } : Room) D T [.ref (a0 99), .int v1] (wX1 T a0 S0) (wX1 T a0 ex) := by
  refine z_begin (cc := cX1_removePlace) (nL := 3) (own := RX1) (fr := 1) (lc := 22) (ret := none) (by decide) rfl (Nat.le_of_ble_eq_true rfl) (zA (wX1 T a0 S0)) rfl [(0, .ref (a0 99)), (1, .int v1)] rfl ⟨rfl, rfl⟩ rfl ?_
  intro p e s m args below meth c C hr hD
  have hD := hD.zself
  unfold f_X1_removePlace at h
  refine z_iload_n C dX1_removePlace_0 rfl 1 rfl 1 rfl ?_
  refine z_iconst C 1 dX1_removePlace_1 (by decide) 2 rfl ?_
  refine z_iadd C dX1_removePlace_2 3 rfl ?_
  refine z_top h (fun u_1 h => ?_)
  refine z_istore_n C [(0, .ref (a0 99)), (1, .int v1), (2, .int u_1)] dX1_removePlace_3 rfl (Nat.le_of_ble_eq_true rfl) [1, 2, 0] rfl 4 rfl ?_
  obtain ⟨y_3, hl_y_3, h⟩ := Option.bind_eq_some_iff.mp h
  refine z_locals (ks := [0, 2]) rfl (p_X1_removePlace_L4 C S0  (hD.zaddr rfl) _ _ _ _ hl_y_3 ?_)
  refine z_aload_n C dX1_removePlace_26 rfl 0 rfl 27 rfl ?_
  refine z_dup C dX1_removePlace_27 rfl 28 rfl ?_
  refine z_get C (in_X1_removePlace_X1) 0 rfl rfl 5 (by decide) (List.mem_of_getElem? (i := 1) rfl) rfl rfl dX1_removePlace_28 31 rfl ?_
  refine z_iconst C 1 dX1_removePlace_31 (by decide) 32 rfl ?_
  refine z_isub C dX1_removePlace_32 33 rfl ?_
  refine z_put (ty := .int) C (fun z => wX1 T a0 z) y_3 (hD.zaddr rfl) (in_X1_removePlace_X1) tyX1 tyX1_ok nmX1 0 rfl rfl 5 (by decide) (List.mem_of_getElem? (i := 1) rfl) rfl rfl (by decide +kernel) rfl rfl (Nat.le_of_ble_eq_true rfl) rfl dX1_removePlace_33 36 rfl h (fun S0_4 h => ?_)
  exact z_vretW (x := S0_4) (ex := ex) (fun z => wX1 T a0 z) C hr dX1_removePlace_36 h rfl

end
