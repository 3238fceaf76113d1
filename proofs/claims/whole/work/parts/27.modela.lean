/-! StreamTreeModel.thrown ()I -/
section
variable {p : Program} {l : Launch} {e : Env} {R : Room} {s : State} {m : MethodId} {args : Array Value} {below : List Frame} {meth : Method} {c : Code} {Q : State → Prop} {A : Nat → Prop} {D : va_G} {T : Nat → ClassId} {a0 : Nat → Nat}
theorem in_X7_thrown_X7 : ∀ w ∈ u_ws RX7 TX7 35, w ∈ wsX7_thrown := fun _ h => (List.mem_cons_of_mem _ (List.mem_append_right _ h))
def f_X7_thrown (S0 : Nat → Nat → Int32)  : Option (Int32) := some (S0 0 0)
theorem dd_X7_thrown : RX7 ≠ "java/lang/invoke/MethodHandle" ∧ RX7 ≠ "java/lang/invoke/VarHandle" ∧ (parseMethodDescriptor yX7_thrown.desc).map (fun d => d.parameters.length) = some 0 := by decide +kernel
set_option maxHeartbeats 4000000 in
set_option maxRecDepth 100000 in
theorem c_X7_thrown (l : Launch) (D : va_G) (T : Nat → ClassId) (a0 : Nat → Nat) (S0 : Nat → Nat → Int32)  (ex : Int32) (h : f_X7_thrown S0 = some ex) : zRI l yX7_thrown wsX7_thrown ({ frames := 0, cells := 0, slots := 0, locals := 0 } : Room) D T [.ref (a0 99)] (wX7 T a0 S0) ex := by
  refine z_begin (cc := cX7_thrown) (nL := 1) (own := RX7) (fr := 0) (lc := 0) (ret := some .int) (by decide) rfl (Nat.le_of_ble_eq_true rfl) (fun _ => False) rfl [(0, .ref (a0 99))] rfl ⟨rfl, rfl⟩ rfl ?_
  intro p e s m args below meth c C hr hD
  unfold f_X7_thrown at h
  refine z_aload_n C dX7_thrown_0 rfl 0 rfl 1 rfl ?_
  refine z_get C (in_X7_thrown_X7) 0 rfl rfl 0 (by decide) (List.mem_of_getElem? (i := 1) rfl) rfl rfl dX7_thrown_1 4 rfl ?_
  exact z_iretR C hr dX7_thrown_4 h

end
/-! StreamTreeModel.within (III)Z -/
section
variable {p : Program} {l : Launch} {e : Env} {R : Room} {s : State} {m : MethodId} {args : Array Value} {below : List Frame} {meth : Method} {c : Code} {Q : State → Prop} {A : Nat → Prop} {D : va_G} {T : Nat → ClassId} 
def f_X7_within  (v0 : Int32) (v1 : Int32) (v2 : Int32) : Option (Int32) := if v0 < v1 then (some 0) else (if v2 < v0 then (some 0) else (some 1))
theorem dd_X7_within : RX7 ≠ "java/lang/invoke/MethodHandle" ∧ RX7 ≠ "java/lang/invoke/VarHandle" ∧ (parseMethodDescriptor yX7_within.desc).map (fun d => d.parameters.length) = some 3 := by decide +kernel
set_option maxHeartbeats 4000000 in
set_option maxRecDepth 100000 in
theorem c_X7_within (l : Launch) (D : va_G) (T : Nat → ClassId)   (v0 : Int32) (v1 : Int32) (v2 : Int32) (ex : Int32) (h : f_X7_within v0 v1 v2 = some ex) : zRI l yX7_within wsX7_within ({ frames := 0, cells := 0, slots := 0, locals := 0 } : Room) D T [.int v0, .int v1, .int v2] ([]) ex := by
  refine z_begin (cc := cX7_within) (nL := 3) (own := RX7) (fr := 0) (lc := 0) (ret := some .boolean) (by decide) rfl (Nat.le_of_ble_eq_true rfl) (fun _ => False) rfl [(0, .int v0), (1, .int v1), (2, .int v2)] rfl ⟨rfl, rfl⟩ rfl ?_
  intro p e s m args below meth c C hr hD
  unfold f_X7_within at h
  refine z_iload_n C dX7_within_0 rfl 0 rfl 1 rfl ?_
  refine z_iload_n C dX7_within_1 rfl 1 rfl 2 rfl ?_
  refine z_icmp_lt C 14 dX7_within_2 (by decide) 5 rfl h (fun h => ?_) (fun h => ?_)
  · refine z_iconst C 0 dX7_within_14 (by decide) 15 rfl ?_
    exact z_zretRc C hr dX7_within_15 (Or.inl rfl) h
  · refine z_iload_n C dX7_within_5 rfl 0 rfl 6 rfl ?_
    refine z_iload_n C dX7_within_6 rfl 2 rfl 7 rfl ?_
    refine z_icmp_gt C 14 dX7_within_7 (by decide) 10 rfl h (fun h => ?_) (fun h => ?_)
    · refine z_iconst C 0 dX7_within_14 (by decide) 15 rfl ?_
      exact z_zretRc C hr dX7_within_15 (Or.inl rfl) h
    · refine z_iconst C 1 dX7_within_10 (by decide) 11 rfl ?_
      refine z_goto C 15 dX7_within_11 (by decide) ?_
      exact z_zretRc C hr dX7_within_15 (Or.inr rfl) h

end
/-! StreamTreeModel.asAtFirst ()V -/
section
variable {p : Program} {l : Launch} {e : Env} {R : Room} {s : State} {m : MethodId} {args : Array Value} {below : List Frame} {meth : Method} {c : Code} {Q : State → Prop} {A : Nat → Prop} {D : va_G} {T : Nat → ClassId} {a0 : Nat → Nat}
theorem in_X7_asAtFirst_X7 : ∀ w ∈ u_ws RX7 TX7 35, w ∈ wsX7_asAtFirst := fun _ h => (List.mem_cons_of_mem _ (List.mem_append_right _ h))
def f_X7_asAtFirst (S0 : Nat → Nat → Int32)  : Option ((Nat → Nat → Int32)) := zlet (zst S0 3 0 10) fun S0_1 => zlet (zst S0_1 4 0 4) fun S0_2 => zlet (zst S0_2 5 0 3) fun S0_3 => some S0_3
theorem dd_X7_asAtFirst : RX7 ≠ "java/lang/invoke/MethodHandle" ∧ RX7 ≠ "java/lang/invoke/VarHandle" ∧ (parseMethodDescriptor yX7_asAtFirst.desc).map (fun d => d.parameters.length) = some 0 := by decide +kernel
set_option maxHeartbeats 4000000 in
set_option maxRecDepth 100000 in
theorem c_X7_asAtFirst (l : Launch) (D : va_G) (T : Nat → ClassId) (a0 : Nat → Nat) (S0 : Nat → Nat → Int32)  (ex : (Nat → Nat → Int32)) (h : f_X7_asAtFirst S0 = some ex) : zWV l yX7_asAtFirst wsX7_asAtFirst ({ frames := 0, cells := 0, slots := 0, locals := 0 } : Room) D T [.ref (a0 99)] (wX7 T a0 S0) (wX7 T a0 ex) := by
  refine z_begin (cc := cX7_asAtFirst) (nL := 1) (own := RX7) (fr := 0) (lc := 0) (ret := none) (by decide) rfl (Nat.le_of_ble_eq_true rfl) (zA (wX7 T a0 S0)) rfl [(0, .ref (a0 99))] rfl ⟨rfl, rfl⟩ rfl ?_
  intro p e s m args below meth c C hr hD
  have hD := hD.zself
  unfold f_X7_asAtFirst at h
  refine z_aload_n C dX7_asAtFirst_0 rfl 0 rfl 1 rfl ?_
  refine z_bipush C 10 dX7_asAtFirst_1 (by decide) 3 rfl ?_
  refine z_put (ty := .int) C (fun z => wX7 T a0 z) S0 (hD.zaddr rfl) (in_X7_asAtFirst_X7) tyX7 tyX7_ok nmX7 0 rfl rfl 3 (by decide) (List.mem_of_getElem? (i := 1) rfl) rfl rfl (by decide +kernel) rfl rfl (Nat.le_of_ble_eq_true rfl) rfl dX7_asAtFirst_3 6 rfl h (fun S0_1 h => ?_)
  refine z_aload_n C dX7_asAtFirst_6 rfl 0 rfl 7 rfl ?_
  refine z_iconst C 4 dX7_asAtFirst_7 (by decide) 8 rfl ?_
  refine z_put (ty := .int) C (fun z => wX7 T a0 z) S0_1 (hD.zaddr rfl) (in_X7_asAtFirst_X7) tyX7 tyX7_ok nmX7 0 rfl rfl 4 (by decide) (List.mem_of_getElem? (i := 2) rfl) rfl rfl (by decide +kernel) rfl rfl (Nat.le_of_ble_eq_true rfl) rfl dX7_asAtFirst_8 11 rfl h (fun S0_2 h => ?_)
  refine z_aload_n C dX7_asAtFirst_11 rfl 0 rfl 12 rfl ?_
  refine z_iconst C 3 dX7_asAtFirst_12 (by decide) 13 rfl ?_
  refine z_put (ty := .int) C (fun z => wX7 T a0 z) S0_2 (hD.zaddr rfl) (in_X7_asAtFirst_X7) tyX7 tyX7_ok nmX7 0 rfl rfl 5 (by decide) (List.mem_of_getElem? (i := 3) rfl) rfl rfl (by decide +kernel) rfl rfl (Nat.le_of_ble_eq_true rfl) rfl dX7_asAtFirst_13 16 rfl h (fun S0_3 h => ?_)
  exact z_vretW (x := S0_3) (ex := ex) (fun z => wX7 T a0 z) C hr dX7_asAtFirst_16 h rfl

end
/-! StreamTreeModel.begins (II)V -/
section
variable {p : Program} {l : Launch} {e : Env} {R : Room} {s : State} {m : MethodId} {args : Array Value} {below : List Frame} {meth : Method} {c : Code} {Q : State → Prop} {A : Nat → Prop} {D : va_G} {T : Nat → ClassId} {a0 : Nat → Nat}
theorem in_X7_begins_X7 : ∀ w ∈ u_ws RX7 TX7 35, w ∈ wsX7_begins := fun _ h => (List.mem_cons_of_mem _ (List.mem_append_right _ h))
def f_X7_begins_L17b   (rec : (Int32 × (Nat → Nat → Int32)) → Option ((Nat → Nat → Int32))) (a : Int32 × (Nat → Nat → Int32)) : Option ((Nat → Nat → Int32)) := if 240 ≤ a.1 then (some a.2) else (zix a.1 240 fun j => zlet (zst a.2 10 j 0) fun S0_4 => rec ((a.1 + 1), S0_4))
def f_X7_begins_L17   : Nat → (Int32 × (Nat → Nat → Int32)) → Option ((Nat → Nat → Int32)) := zloop (fun rec a => f_X7_begins_L17b  rec a)
set_option maxHeartbeats 4000000 in
set_option maxRecDepth 100000 in
theorem p_X7_begins_L17 (C : zC p R s m args meth c cX7_begins 4 RX7 wsX7_begins D T 0 0 0 0) (S0 : Nat → Nat → Int32)  (hD : va_D A (wX7 T a0 S0)) : ∀ (n : Nat) (c0 : Int32) (c1 : Nat → Nat → Int32) (b : (Nat → Nat → Int32)), f_X7_begins_L17  n (c0, c1) = some b → (zt p l e R s m args below meth c 4 A D 0 0 Q (wX7 T a0 b) [] 37 []) → zt p l e R s m args below meth c 4 A D 0 0 Q (wX7 T a0 c1) [(0, .ref (a0 99)), (3, .int c0)] 17 [] := by
  intro n c0 c1 b h K
  refine zloop_ind (P := fun a b => (zt p l e R s m args below meth c 4 A D 0 0 Q (wX7 T a0 b) [] 37 []) → zt p l e R s m args below meth c 4 A D 0 0 Q (wX7 T a0 a.2) [(0, .ref (a0 99)), (3, .int a.1)] 17 []) ?_ n (c0, c1) b h K
  clear h K b c0 c1
  intro rec hrec a b h K
  have hrec : ∀ (c0 : Int32) (c1 : Nat → Nat → Int32) (b : (Nat → Nat → Int32)), rec (c0, c1) = some b → (zt p l e R s m args below meth c 4 A D 0 0 Q (wX7 T a0 b) [] 37 []) → zt p l e R s m args below meth c 4 A D 0 0 Q (wX7 T a0 c1) [(0, .ref (a0 99)), (3, .int c0)] 17 [] := fun c0 c1 b h K => hrec (c0, c1) b h K
  unfold f_X7_begins_L17b at h
  refine z_iload_n C dX7_begins_17 rfl 1 rfl 18 rfl ?_
  refine z_sipush C 240 dX7_begins_18 (by decide) 21 rfl ?_
  refine z_icmp_ge C 37 dX7_begins_21 (by decide) 24 rfl h (fun h => ?_) (fun h => ?_)
  · refine z_locals (ks := []) (lv' := []) rfl ?_
    exact zex1 (F := (fun e0 => zt p l e R s m args below meth c 4 A D 0 0 Q (wX7 T a0 e0) [] 37 [])) h K
  · refine z_aload_n C dX7_begins_24 rfl 0 rfl 25 rfl ?_
    refine z_get C (in_X7_begins_X7) 0 rfl rfl 10 (by decide) (List.mem_of_getElem? (i := 4) rfl) rfl rfl dX7_begins_25 28 rfl ?_
    refine z_iload_n C dX7_begins_28 rfl 1 rfl 29 rfl ?_
    refine z_iconst C 0 dX7_begins_29 (by decide) 30 rfl ?_
    refine z_zastc (Or.inl rfl) C (fun z => wX7 T a0 z) a.2 10 (hD.zaddr rfl) 4 rfl rfl (fun _ => rfl) dX7_begins_30 31 rfl h (fun S0_4 h => ?_)
    refine z_iinc C (a.1 + 1) [(0, .ref (a0 99)), (3, .int (a.1 + 1))] dX7_begins_31 1 rfl rfl (Nat.le_of_ble_eq_true rfl) [1, 0] rfl 34 rfl ?_
    refine z_goto C 17 dX7_begins_34 (by decide) ?_
    exact z_locals (ks := [0, 1]) rfl (hrec _ _ _ h K)

def f_X7_begins (S0 : Nat → Nat → Int32) (v1 : Int32) (v2 : Int32) : Option ((Nat → Nat → Int32)) := zlet (zst S0 1 0 v1) fun S0_1 => zlet (zst S0_1 2 0 v2) fun S0_2 => zlet (zst S0_2 9 0 0) fun S0_3 => (f_X7_begins_L17  zfuel (0, S0_3)).bind fun y_5 => some y_5
theorem dd_X7_begins : RX7 ≠ "java/lang/invoke/MethodHandle" ∧ RX7 ≠ "java/lang/invoke/VarHandle" ∧ (parseMethodDescriptor yX7_begins.desc).map (fun d => d.parameters.length) = some 2 := by decide +kernel
set_option maxHeartbeats 4000000 in
set_option maxRecDepth 100000 in
theorem c_X7_begins (l : Launch) (D : va_G) (T : Nat → ClassId) (a0 : Nat → Nat) (S0 : Nat → Nat → Int32) (v1 : Int32) (v2 : Int32) (ex : (Nat → Nat → Int32)) (h : f_X7_begins S0 v1 v2 = some ex) : zWV l yX7_begins wsX7_begins ({ frames := 0, cells := 0, slots := 0, locals := 0 } : Room) D T [.ref (a0 99), .int v1, .int v2] (wX7 T a0 S0) (wX7 T a0 ex) := by
  refine z_begin (cc := cX7_begins) (nL := 4) (own := RX7) (fr := 0) (lc := 0) (ret := none) (by decide) rfl (Nat.le_of_ble_eq_true rfl) (zA (wX7 T a0 S0)) rfl [(0, .ref (a0 99)), (1, .int v1), (2, .int v2)] rfl ⟨rfl, rfl⟩ rfl ?_
  intro p e s m args below meth c C hr hD
  have hD := hD.zself
  unfold f_X7_begins at h
  refine z_aload_n C dX7_begins_0 rfl 0 rfl 1 rfl ?_
  refine z_iload_n C dX7_begins_1 rfl 1 rfl 2 rfl ?_
  refine z_put (ty := .int) C (fun z => wX7 T a0 z) S0 (hD.zaddr rfl) (in_X7_begins_X7) tyX7 tyX7_ok nmX7 0 rfl rfl 1 (by decide) (List.mem_of_getElem? (i := 1) rfl) rfl rfl (by decide +kernel) rfl rfl (Nat.le_of_ble_eq_true rfl) rfl dX7_begins_2 5 rfl h (fun S0_1 h => ?_)
  refine z_aload_n C dX7_begins_5 rfl 0 rfl 6 rfl ?_
  refine z_iload_n C dX7_begins_6 rfl 2 rfl 7 rfl ?_
  refine z_put (ty := .int) C (fun z => wX7 T a0 z) S0_1 (hD.zaddr rfl) (in_X7_begins_X7) tyX7 tyX7_ok nmX7 0 rfl rfl 2 (by decide) (List.mem_of_getElem? (i := 2) rfl) rfl rfl (by decide +kernel) rfl rfl (Nat.le_of_ble_eq_true rfl) rfl dX7_begins_7 10 rfl h (fun S0_2 h => ?_)
  refine z_aload_n C dX7_begins_10 rfl 0 rfl 11 rfl ?_
  refine z_iconst C 0 dX7_begins_11 (by decide) 12 rfl ?_
  refine z_put (ty := .int) C (fun z => wX7 T a0 z) S0_2 (hD.zaddr rfl) (in_X7_begins_X7) tyX7 tyX7_ok nmX7 0 rfl rfl 9 (by decide) (List.mem_of_getElem? (i := 3) rfl) rfl rfl (by decide +kernel) rfl rfl (Nat.le_of_ble_eq_true rfl) rfl dX7_begins_12 15 rfl h (fun S0_3 h => ?_)
  refine z_iconst C 0 dX7_begins_15 (by decide) 16 rfl ?_
  refine z_istore_n C [(0, .ref (a0 99)), (1, .int v1), (2, .int v2), (3, .int 0)] dX7_begins_16 rfl (Nat.le_of_ble_eq_true rfl) [1, 2, 3, 0] rfl 17 rfl ?_
  obtain ⟨y_5, hl_y_5, h⟩ := Option.bind_eq_some_iff.mp h
  refine z_locals (ks := [0, 3]) rfl (p_X7_begins_L17 C S0_3  (hD.zaddr rfl) _ _ _ _ hl_y_5 ?_)
  exact z_vretW (x := y_5) (ex := ex) (fun z => wX7 T a0 z) C hr dX7_begins_37 h rfl

end
/-! StreamTreeModel.cell (II)I -/
section
variable {p : Program} {l : Launch} {e : Env} {R : Room} {s : State} {m : MethodId} {args : Array Value} {below : List Frame} {meth : Method} {c : Code} {Q : State → Prop} {A : Nat → Prop} {D : va_G} {T : Nat → ClassId} 
def f_X7_cell  (v0 : Int32) (v1 : Int32) : Option (Int32) := some ((24 * v0) + v1)
theorem dd_X7_cell : RX7 ≠ "java/lang/invoke/MethodHandle" ∧ RX7 ≠ "java/lang/invoke/VarHandle" ∧ (parseMethodDescriptor yX7_cell.desc).map (fun d => d.parameters.length) = some 2 := by decide +kernel
set_option maxHeartbeats 4000000 in
set_option maxRecDepth 100000 in
theorem c_X7_cell (l : Launch) (D : va_G) (T : Nat → ClassId)   (v0 : Int32) (v1 : Int32) (ex : Int32) (h : f_X7_cell v0 v1 = some ex) : zRI l yX7_cell wsX7_cell ({ frames := 0, cells := 0, slots := 0, locals := 0 } : Room) D T [.int v0, .int v1] ([]) ex := by
  refine z_begin (cc := cX7_cell) (nL := 2) (own := RX7) (fr := 0) (lc := 0) (ret := some .int) (by decide) rfl (Nat.le_of_ble_eq_true rfl) (fun _ => False) rfl [(0, .int v0), (1, .int v1)] rfl ⟨rfl, rfl⟩ rfl ?_
  intro p e s m args below meth c C hr hD
  unfold f_X7_cell at h
  refine z_bipush C 24 dX7_cell_0 (by decide) 2 rfl ?_
  refine z_iload_n C dX7_cell_2 rfl 0 rfl 3 rfl ?_
  refine z_imul C dX7_cell_3 4 rfl ?_
  refine z_iload_n C dX7_cell_4 rfl 1 rfl 5 rfl ?_
  refine z_iadd C dX7_cell_5 6 rfl ?_
  exact z_iretR C hr dX7_cell_6 h

end
/-! StreamTreeModel.isCell (II)Z -/
section
variable {p : Program} {l : Launch} {e : Env} {R : Room} {s : State} {m : MethodId} {args : Array Value} {below : List Frame} {meth : Method} {c : Code} {Q : State → Prop} {A : Nat → Prop} {D : va_G} {T : Nat → ClassId} {a0 : Nat → Nat}
theorem in_X7_isCell_X7 : ∀ w ∈ u_ws RX7 TX7 35, w ∈ wsX7_isCell := fun _ h => (List.mem_cons_of_mem _ (List.mem_append_right _ h))
def f_X7_isCell (S0 : Nat → Nat → Int32) (v1 : Int32) (v2 : Int32) : Option (Int32) := (f_X7_within v1 1 (S0 1 0)).bind fun r_1 => if r_1 = 0 then (some 0) else ((f_X7_within v2 0 ((S0 2 0) - 1)).bind fun r_2 => if r_2 = 0 then (some 0) else (some 1))
theorem dd_X7_isCell : RX7 ≠ "java/lang/invoke/MethodHandle" ∧ RX7 ≠ "java/lang/invoke/VarHandle" ∧ (parseMethodDescriptor yX7_isCell.desc).map (fun d => d.parameters.length) = some 2 := by decide +kernel
set_option maxHeartbeats 4000000 in
set_option maxRecDepth 100000 in
theorem c_X7_isCell (l : Launch) (D : va_G) (T : Nat → ClassId) (a0 : Nat → Nat) (S0 : Nat → Nat → Int32) (v1 : Int32) (v2 : Int32) (ex : Int32) (h : f_X7_isCell S0 v1 v2 = some ex) : zRI l yX7_isCell wsX7_isCell ({ frames := 1, cells := 0, slots := 0, locals := 22 } : Room) D T [.ref (a0 99), .int v1, .int v2] (wX7 T a0 S0) ex := by
  refine z_begin (cc := cX7_isCell) (nL := 3) (own := RX7) (fr := 1) (lc := 22) (ret := some .boolean) (by decide) rfl (Nat.le_of_ble_eq_true rfl) (fun _ => False) rfl [(0, .ref (a0 99)), (1, .int v1), (2, .int v2)] rfl ⟨rfl, rfl⟩ rfl ?_
  intro p e s m args below meth c C hr hD
  unfold f_X7_isCell at h
  refine z_iload_n C dX7_isCell_0 rfl 1 rfl 1 rfl ?_
  refine z_iconst C 1 dX7_isCell_1 (by decide) 2 rfl ?_
  refine z_aload_n C dX7_isCell_2 rfl 0 rfl 3 rfl ?_
  refine z_get C (in_X7_isCell_X7) 0 rfl rfl 1 (by decide) (List.mem_of_getElem? (i := 1) rfl) rfl rfl dX7_isCell_3 6 rfl ?_
  refine z_callR C ([]) (fun v h => c_X7_within l D T    v1 1 (S0 1 0) v h) ⟨rfl, rfl⟩ (z_cwS C 3 gX7_isCell_X7_within rfl dd_X7_within ⟨(Nat.le_of_ble_eq_true rfl), (Nat.le_of_ble_eq_true rfl)⟩) (hD.zaddr rfl) [] rfl rfl (fun h => absurd h (by decide)) (fun _ => rfl) rfl (Nat.le_of_ble_eq_true rfl) dX7_isCell_6 9 rfl h (fun r_1 h => ?_)
  refine z_if_eq C 30 dX7_isCell_9 (by decide) 12 rfl h (fun h => ?_) (fun h => ?_)
  · refine z_iconst C 0 dX7_isCell_30 (by decide) 31 rfl ?_
    exact z_zretRc C hr dX7_isCell_31 (Or.inl rfl) h
  · refine z_iload_n C dX7_isCell_12 rfl 2 rfl 13 rfl ?_
    refine z_iconst C 0 dX7_isCell_13 (by decide) 14 rfl ?_
    refine z_aload_n C dX7_isCell_14 rfl 0 rfl 15 rfl ?_
    refine z_get C (in_X7_isCell_X7) 0 rfl rfl 2 (by decide) (List.mem_of_getElem? (i := 2) rfl) rfl rfl dX7_isCell_15 18 rfl ?_
    refine z_iconst C 1 dX7_isCell_18 (by decide) 19 rfl ?_
    refine z_isub C dX7_isCell_19 20 rfl ?_
    refine z_callR C ([]) (fun v h => c_X7_within l D T    v2 0 ((S0 2 0) - 1) v h) ⟨rfl, rfl⟩ (z_cwS C 3 gX7_isCell_X7_within rfl dd_X7_within ⟨(Nat.le_of_ble_eq_true rfl), (Nat.le_of_ble_eq_true rfl)⟩) (hD.zaddr rfl) [] rfl rfl (fun h => absurd h (by decide)) (fun _ => rfl) rfl (Nat.le_of_ble_eq_true rfl) dX7_isCell_20 23 rfl h (fun r_2 h => ?_)
    refine z_if_eq C 30 dX7_isCell_23 (by decide) 26 rfl h (fun h => ?_) (fun h => ?_)
    · refine z_iconst C 0 dX7_isCell_30 (by decide) 31 rfl ?_
      exact z_zretRc C hr dX7_isCell_31 (Or.inl rfl) h
    · refine z_iconst C 1 dX7_isCell_26 (by decide) 27 rfl ?_
      refine z_goto C 31 dX7_isCell_27 (by decide) ?_
      exact z_zretRc C hr dX7_isCell_31 (Or.inr rfl) h

end
/-! StreamTreeModel.isAny (II)Z -/
section
variable {p : Program} {l : Launch} {e : Env} {R : Room} {s : State} {m : MethodId} {args : Array Value} {below : List Frame} {meth : Method} {c : Code} {Q : State → Prop} {A : Nat → Prop} {D : va_G} {T : Nat → ClassId} {a0 : Nat → Nat}
def f_X7_isAny (S0 : Nat → Nat → Int32) (v1 : Int32) (v2 : Int32) : Option (Int32) := (f_X7_isCell S0 v1 v2).bind fun r_1 => if r_1 = 0 then (if v1 = 0 then (if v2 = 0 then (some 1) else (some 0)) else (some 0)) else (some 1)
theorem dd_X7_isAny : RX7 ≠ "java/lang/invoke/MethodHandle" ∧ RX7 ≠ "java/lang/invoke/VarHandle" ∧ (parseMethodDescriptor yX7_isAny.desc).map (fun d => d.parameters.length) = some 2 := by decide +kernel
set_option maxHeartbeats 4000000 in
set_option maxRecDepth 100000 in
theorem c_X7_isAny (l : Launch) (D : va_G) (T : Nat → ClassId) (a0 : Nat → Nat) (S0 : Nat → Nat → Int32) (v1 : Int32) (v2 : Int32) (ex : Int32) (h : f_X7_isAny S0 v1 v2 = some ex) : zRI l yX7_isAny wsX7_isAny ({ frames := 2, cells := 0, slots := 0, locals := 44 } : Room) D T [.ref (a0 99), .int v1, .int v2] (wX7 T a0 S0) ex := by
  refine z_begin (cc := cX7_isAny) (nL := 3) (own := RX7) (fr := 2) (lc := 44) (ret := some .boolean) (by decide) rfl (Nat.le_of_ble_eq_true rfl) (fun _ => False) rfl [(0, .ref (a0 99)), (1, .int v1), (2, .int v2)] rfl ⟨rfl, rfl⟩ rfl ?_
  intro p e s m args below meth c C hr hD
  unfold f_X7_isAny at h
  refine z_aload_n C dX7_isAny_0 rfl 0 rfl 1 rfl ?_
  refine z_iload_n C dX7_isAny_1 rfl 1 rfl 2 rfl ?_
  refine z_iload_n C dX7_isAny_2 rfl 2 rfl 3 rfl ?_
  refine z_callR C (wX7 T a0 S0) (fun v h => c_X7_isCell l D T a0  S0 v1 v2 v h) ⟨rfl, rfl⟩ (z_cwV C 2 gX7_isAny_X7_isCell rfl rfl dd_X7_isCell ⟨(Nat.le_of_ble_eq_true rfl), (Nat.le_of_ble_eq_true rfl)⟩) (hD.zaddr rfl) [0, 1, 2, 3, 4, 5, 6, 7, 8, 9, 10, 11, 12, 13, 14, 15, 16, 17] rfl rfl (fun _ => ⟨a0 99, [.int v1, .int v2], 6, 0, _, _, rfl, rfl, rfl, rfl, rfl⟩) (fun h => absurd rfl h) rfl (Nat.le_of_ble_eq_true rfl) dX7_isAny_3 6 rfl h (fun r_1 h => ?_)
  refine z_if_ne C 17 dX7_isAny_6 (by decide) 9 rfl h (fun h => ?_) (fun h => ?_)
  · refine z_iconst C 1 dX7_isAny_17 (by decide) 18 rfl ?_
    refine z_goto C 22 dX7_isAny_18 (by decide) ?_
    exact z_zretRc C hr dX7_isAny_22 (Or.inr rfl) h
  · refine z_iload_n C dX7_isAny_9 rfl 1 rfl 10 rfl ?_
    refine z_if_ne C 21 dX7_isAny_10 (by decide) 13 rfl h (fun h => ?_) (fun h => ?_)
    · refine z_iconst C 0 dX7_isAny_21 (by decide) 22 rfl ?_
      exact z_zretRc C hr dX7_isAny_22 (Or.inl rfl) h
    · refine z_iload_n C dX7_isAny_13 rfl 2 rfl 14 rfl ?_
      refine z_if_ne C 21 dX7_isAny_14 (by decide) 17 rfl h (fun h => ?_) (fun h => ?_)
      · refine z_iconst C 0 dX7_isAny_21 (by decide) 22 rfl ?_
        exact z_zretRc C hr dX7_isAny_22 (Or.inl rfl) h
      · refine z_iconst C 1 dX7_isAny_17 (by decide) 18 rfl ?_
        refine z_goto C 22 dX7_isAny_18 (by decide) ?_
        exact z_zretRc C hr dX7_isAny_22 (Or.inr rfl) h

end
/-! StreamTreeModel.around (I)I -/
section
variable {p : Program} {l : Launch} {e : Env} {R : Room} {s : State} {m : MethodId} {args : Array Value} {below : List Frame} {meth : Method} {c : Code} {Q : State → Prop} {A : Nat → Prop} {D : va_G} {T : Nat → ClassId} {a0 : Nat → Nat}
theorem in_X7_around_X7 : ∀ w ∈ u_ws RX7 TX7 35, w ∈ wsX7_around := fun _ h => (List.mem_cons_of_mem _ (List.mem_append_right _ h))
def f_X7_around (S0 : Nat → Nat → Int32) (v1 : Int32) : Option (Int32) := znz (S0 2 0) (some ((v1 + (S0 2 0)) - (v1 + (S0 2 0)) / (S0 2 0) * (S0 2 0)))
theorem dd_X7_around : RX7 ≠ "java/lang/invoke/MethodHandle" ∧ RX7 ≠ "java/lang/invoke/VarHandle" ∧ (parseMethodDescriptor yX7_around.desc).map (fun d => d.parameters.length) = some 1 := by decide +kernel
set_option maxHeartbeats 4000000 in
set_option maxRecDepth 100000 in
theorem c_X7_around (l : Launch) (D : va_G) (T : Nat → ClassId) (a0 : Nat → Nat) (S0 : Nat → Nat → Int32) (v1 : Int32) (ex : Int32) (h : f_X7_around S0 v1 = some ex) : zRI l yX7_around wsX7_around ({ frames := 0, cells := 0, slots := 0, locals := 0 } : Room) D T [.ref (a0 99), .int v1] (wX7 T a0 S0) ex := by
  refine z_begin (cc := cX7_around) (nL := 2) (own := RX7) (fr := 0) (lc := 0) (ret := some .int) (by decide) rfl (Nat.le_of_ble_eq_true rfl) (fun _ => False) rfl [(0, .ref (a0 99)), (1, .int v1)] rfl ⟨rfl, rfl⟩ rfl ?_
  intro p e s m args below meth c C hr hD
  unfold f_X7_around at h
  refine z_iload_n C dX7_around_0 rfl 1 rfl 1 rfl ?_
  refine z_aload_n C dX7_around_1 rfl 0 rfl 2 rfl ?_
  refine z_get C (in_X7_around_X7) 0 rfl rfl 2 (by decide) (List.mem_of_getElem? (i := 1) rfl) rfl rfl dX7_around_2 5 rfl ?_
  refine z_iadd C dX7_around_5 6 rfl ?_
  refine z_aload_n C dX7_around_6 rfl 0 rfl 7 rfl ?_
  refine z_get C (in_X7_around_X7) 0 rfl rfl 2 (by decide) (List.mem_of_getElem? (i := 1) rfl) rfl rfl dX7_around_7 10 rfl ?_
  refine z_irem C dX7_around_10 11 rfl h (fun h => ?_)
  exact z_iretR C hr dX7_around_11 h

end
/-! StreamTreeModel.placeAt (II)I -/
section
variable {p : Program} {l : Launch} {e : Env} {R : Room} {s : State} {m : MethodId} {args : Array Value} {below : List Frame} {meth : Method} {c : Code} {Q : State → Prop} {A : Nat → Prop} {D : va_G} {T : Nat → ClassId} {a0 : Nat → Nat}
theorem in_X7_placeAt_X7 : ∀ w ∈ u_ws RX7 TX7 35, w ∈ wsX7_placeAt := fun _ h => (List.mem_cons_of_mem _ (List.mem_append_right _ h))
def f_X7_placeAt_J32 (rec : Int32 → Option (Nat × Int32)) (S0 : Nat → Nat → Int32) (v1 : Int32) (v2 : Int32) (x3 : Int32)  : Option (Nat × Int32) := rec (x3 + 1)
set_option maxHeartbeats 4000000 in
set_option maxRecDepth 100000 in
theorem p_X7_placeAt_J32 (C : zC p R s m args meth c cX7_placeAt 4 RX7 wsX7_placeAt D T 0 0 0 0) (S0 : Nat → Nat → Int32) {v1 : Int32} {v2 : Int32} (x3 : Int32)  (hD : va_D (fun _ => True) (wX7 T a0 S0)) {rec : Int32 → Option (Nat × Int32)} (hrec : ∀ (c0 : Int32) (b : Nat × Int32), rec c0 = some b → ((b.1 = 0 → zt p l e R s m args below meth c 4 A D 0 0 Q (wX7 T a0 S0) [(3, .int b.2)] 30 []) ∧ (b.1 = 1 → zt p l e R s m args below meth c 4 A D 0 0 Q (wX7 T a0 S0) [] 38 [])) → zt p l e R s m args below meth c 4 A D 0 0 Q (wX7 T a0 S0) [(0, .ref (a0 99)), (1, .int v1), (2, .int v2), (3, .int c0)] 2 []) {b : Nat × Int32} (K : (b.1 = 0 → zt p l e R s m args below meth c 4 A D 0 0 Q (wX7 T a0 S0) [(3, .int b.2)] 30 []) ∧ (b.1 = 1 → zt p l e R s m args below meth c 4 A D 0 0 Q (wX7 T a0 S0) [] 38 [])) (h : f_X7_placeAt_J32 rec S0 v1 v2 x3 = some b) : zt p l e R s m args below meth c 4 A D 0 0 Q (wX7 T a0 S0) [(0, .ref (a0 99)), (1, .int v1), (2, .int v2), (3, .int x3)] 32 [] := by
  unfold f_X7_placeAt_J32 at h
  refine z_iinc C (x3 + 1) [(0, .ref (a0 99)), (1, .int v1), (2, .int v2), (3, .int (x3 + 1))] dX7_placeAt_32 3 rfl rfl (Nat.le_of_ble_eq_true rfl) [1, 2, 3, 0] rfl 35 rfl ?_
  refine z_goto C 2 dX7_placeAt_35 (by decide) ?_
  exact z_locals (ks := [0, 1, 2, 3]) rfl (hrec _ _ h K)

def f_X7_placeAt_L2b (S0 : Nat → Nat → Int32) (v1 : Int32) (v2 : Int32) (rec : Int32 → Option (Nat × Int32)) (a : Int32) : Option (Nat × Int32) := if (S0 9 0) ≤ a then (some (1, 0)) else (zix a 8 fun _ => if (S0 6 (Int32.toNatClampNeg a)) = v1 then (zix a 8 fun _ => if (S0 7 (Int32.toNatClampNeg a)) = v2 then (some (0, a)) else (f_X7_placeAt_J32 rec S0 v1 v2 a)) else (f_X7_placeAt_J32 rec S0 v1 v2 a))
def f_X7_placeAt_L2 (S0 : Nat → Nat → Int32) (v1 : Int32) (v2 : Int32) : Nat → Int32 → Option (Nat × Int32) := zloop (fun rec a => f_X7_placeAt_L2b S0 v1 v2 rec a)
set_option maxHeartbeats 4000000 in
set_option maxRecDepth 100000 in
theorem p_X7_placeAt_L2 (C : zC p R s m args meth c cX7_placeAt 4 RX7 wsX7_placeAt D T 0 0 0 0) (S0 : Nat → Nat → Int32) (v1 : Int32) (v2 : Int32) (hD : va_D (fun _ => True) (wX7 T a0 S0)) : ∀ (n : Nat) (c0 : Int32) (b : Nat × Int32), f_X7_placeAt_L2 S0 v1 v2 n c0 = some b → ((b.1 = 0 → zt p l e R s m args below meth c 4 A D 0 0 Q (wX7 T a0 S0) [(3, .int b.2)] 30 []) ∧ (b.1 = 1 → zt p l e R s m args below meth c 4 A D 0 0 Q (wX7 T a0 S0) [] 38 [])) → zt p l e R s m args below meth c 4 A D 0 0 Q (wX7 T a0 S0) [(0, .ref (a0 99)), (1, .int v1), (2, .int v2), (3, .int c0)] 2 [] := by
  intro n c0 b h K
  refine zloop_ind (P := fun a b => ((b.1 = 0 → zt p l e R s m args below meth c 4 A D 0 0 Q (wX7 T a0 S0) [(3, .int b.2)] 30 []) ∧ (b.1 = 1 → zt p l e R s m args below meth c 4 A D 0 0 Q (wX7 T a0 S0) [] 38 [])) → zt p l e R s m args below meth c 4 A D 0 0 Q (wX7 T a0 S0) [(0, .ref (a0 99)), (1, .int v1), (2, .int v2), (3, .int a)] 2 []) ?_ n c0 b h K
  clear h K b c0
  intro rec hrec a b h K
  have hrec : ∀ (c0 : Int32) (b : Nat × Int32), rec c0 = some b → ((b.1 = 0 → zt p l e R s m args below meth c 4 A D 0 0 Q (wX7 T a0 S0) [(3, .int b.2)] 30 []) ∧ (b.1 = 1 → zt p l e R s m args below meth c 4 A D 0 0 Q (wX7 T a0 S0) [] 38 [])) → zt p l e R s m args below meth c 4 A D 0 0 Q (wX7 T a0 S0) [(0, .ref (a0 99)), (1, .int v1), (2, .int v2), (3, .int c0)] 2 [] := fun c0 b h K => hrec c0 b h K
  unfold f_X7_placeAt_L2b at h
  refine z_iload_n C dX7_placeAt_2 rfl 3 rfl 3 rfl ?_
  refine z_aload_n C dX7_placeAt_3 rfl 0 rfl 4 rfl ?_
  refine z_get C (in_X7_placeAt_X7) 0 rfl rfl 9 (by decide) (List.mem_of_getElem? (i := 1) rfl) rfl rfl dX7_placeAt_4 7 rfl ?_
  refine z_icmp_ge C 38 dX7_placeAt_7 (by decide) 10 rfl h (fun h => ?_) (fun h => ?_)
  · refine z_locals (ks := []) (lv' := []) rfl ?_
    exact zexT1 (F := (fun e0 => zt p l e R s m args below meth c 4 A D 0 0 Q (wX7 T a0 S0) [] 38 [])) h K.2
  · refine z_aload_n C dX7_placeAt_10 rfl 0 rfl 11 rfl ?_
    refine z_get C (in_X7_placeAt_X7) 0 rfl rfl 6 (by decide) (List.mem_of_getElem? (i := 2) rfl) rfl rfl dX7_placeAt_11 14 rfl ?_
    refine z_iload_n C dX7_placeAt_14 rfl 3 rfl 15 rfl ?_
    refine z_iald C 1 rfl rfl dX7_placeAt_15 16 rfl h (fun h => ?_)
    refine z_iload_n C dX7_placeAt_16 rfl 1 rfl 17 rfl ?_
    refine z_icmp_ne C 32 dX7_placeAt_17 (by decide) 20 rfl h (fun h => ?_) (fun h => ?_)
    · exact z_locals (ks := [0, 1, 2, 3]) rfl (p_X7_placeAt_J32 C S0 a (hD.zaddr rfl) hrec K h)
    · refine z_aload_n C dX7_placeAt_20 rfl 0 rfl 21 rfl ?_
      refine z_get C (in_X7_placeAt_X7) 0 rfl rfl 7 (by decide) (List.mem_of_getElem? (i := 3) rfl) rfl rfl dX7_placeAt_21 24 rfl ?_
      refine z_iload_n C dX7_placeAt_24 rfl 3 rfl 25 rfl ?_
      refine z_iald C 2 rfl rfl dX7_placeAt_25 26 rfl h (fun h => ?_)
      refine z_iload_n C dX7_placeAt_26 rfl 2 rfl 27 rfl ?_
      refine z_icmp_ne C 32 dX7_placeAt_27 (by decide) 30 rfl h (fun h => ?_) (fun h => ?_)
      · exact z_locals (ks := [0, 1, 2, 3]) rfl (p_X7_placeAt_J32 C S0 a (hD.zaddr rfl) hrec K h)
      · refine z_locals (ks := [3]) (lv' := [(3, .int a)]) rfl ?_
        exact zexT1 (F := (fun e0 => zt p l e R s m args below meth c 4 A D 0 0 Q (wX7 T a0 S0) [(3, .int e0)] 30 [])) h K.1

def f_X7_placeAt (S0 : Nat → Nat → Int32) (v1 : Int32) (v2 : Int32) : Option (Int32) := (f_X7_placeAt_L2 S0 v1 v2 zfuel 0).bind fun y_1 => if y_1.1 = 0 then (some y_1.2) else (some (-1))
theorem dd_X7_placeAt : RX7 ≠ "java/lang/invoke/MethodHandle" ∧ RX7 ≠ "java/lang/invoke/VarHandle" ∧ (parseMethodDescriptor yX7_placeAt.desc).map (fun d => d.parameters.length) = some 2 := by decide +kernel
set_option maxHeartbeats 4000000 in
set_option maxRecDepth 100000 in
theorem c_X7_placeAt (l : Launch) (D : va_G) (T : Nat → ClassId) (a0 : Nat → Nat) (S0 : Nat → Nat → Int32) (v1 : Int32) (v2 : Int32) (ex : Int32) (h : f_X7_placeAt S0 v1 v2 = some ex) : zRI l yX7_placeAt wsX7_placeAt ({ frames := 0, cells := 0, slots := 0, locals := 0 } : Room) D T [.ref (a0 99), .int v1, .int v2] (wX7 T a0 S0) ex := by
  refine z_begin (cc := cX7_placeAt) (nL := 4) (own := RX7) (fr := 0) (lc := 0) (ret := some .int) (by decide) rfl (Nat.le_of_ble_eq_true rfl) (fun _ => False) rfl [(0, .ref (a0 99)), (1, .int v1), (2, .int v2)] rfl ⟨rfl, rfl⟩ rfl ?_
  intro p e s m args below meth c C hr hD
  unfold f_X7_placeAt at h
  refine z_iconst C 0 dX7_placeAt_0 (by decide) 1 rfl ?_
  refine z_istore_n C [(0, .ref (a0 99)), (1, .int v1), (2, .int v2), (3, .int 0)] dX7_placeAt_1 rfl (Nat.le_of_ble_eq_true rfl) [1, 2, 3, 0] rfl 2 rfl ?_
  obtain ⟨y_1, hl_y_1, h⟩ := Option.bind_eq_some_iff.mp h
  refine z_locals (ks := [0, 1, 2, 3]) rfl (p_X7_placeAt_L2 C S0 v1 v2 (hD.zaddr rfl) _ _ _ hl_y_1 ⟨fun ht => ?_, fun ht => ?_⟩)
  · replace h := z_pos ht h
    refine z_iload_n C dX7_placeAt_30 rfl 0 rfl 31 rfl ?_
    exact z_iretR C hr dX7_placeAt_31 h
  · replace h := z_neg (by rw [ht]; decide) h
    refine z_iconst C (-1) dX7_placeAt_38 (by decide) 39 rfl ?_
    exact z_iretR C hr dX7_placeAt_39 h

end
/-! StreamTreeModel.putsAt (IIII)V -/
section
variable {p : Program} {l : Launch} {e : Env} {R : Room} {s : State} {m : MethodId} {args : Array Value} {below : List Frame} {meth : Method} {c : Code} {Q : State → Prop} {A : Nat → Prop} {D : va_G} {T : Nat → ClassId} {a0 : Nat → Nat}
theorem in_X7_putsAt_X7 : ∀ w ∈ u_ws RX7 TX7 35, w ∈ wsX7_putsAt := fun _ h => (List.mem_cons_of_mem _ (List.mem_append_right _ h))
def f_X7_putsAt (S0 : Nat → Nat → Int32) (v1 : Int32) (v2 : Int32) (v3 : Int32) (v4 : Int32) : Option ((Nat → Nat → Int32)) := zix v1 8 fun j => zlet (zst S0 6 j v2) fun S0_1 => zix v1 8 fun j => zlet (zst S0_1 7 j v3) fun S0_2 => zix v1 8 fun j => zlet (zst S0_2 8 j v4) fun S0_3 => some S0_3
theorem dd_X7_putsAt : RX7 ≠ "java/lang/invoke/MethodHandle" ∧ RX7 ≠ "java/lang/invoke/VarHandle" ∧ (parseMethodDescriptor yX7_putsAt.desc).map (fun d => d.parameters.length) = some 4 := by decide +kernel
set_option maxHeartbeats 4000000 in
set_option maxRecDepth 100000 in
theorem c_X7_putsAt (l : Launch) (D : va_G) (T : Nat → ClassId) (a0 : Nat → Nat) (S0 : Nat → Nat → Int32) (v1 : Int32) (v2 : Int32) (v3 : Int32) (v4 : Int32) (ex : (Nat → Nat → Int32)) (h : f_X7_putsAt S0 v1 v2 v3 v4 = some ex) : zWV l yX7_putsAt wsX7_putsAt ({ frames := 0, cells := 0, slots := 0, locals := 0 } : Room) D T [.ref (a0 99), .int v1, .int v2, .int v3, .int v4] (wX7 T a0 S0) (wX7 T a0 ex) := by
  refine z_begin (cc := cX7_putsAt) (nL := 5) (own := RX7) (fr := 0) (lc := 0) (ret := none) (by decide) rfl (Nat.le_of_ble_eq_true rfl) (zA (wX7 T a0 S0)) rfl [(0, .ref (a0 99)), (1, .int v1), (2, .int v2), (3, .int v3), (4, .int v4)] rfl ⟨rfl, rfl⟩ rfl ?_
  intro p e s m args below meth c C hr hD
  have hD := hD.zself
  unfold f_X7_putsAt at h
  refine z_aload_n C dX7_putsAt_0 rfl 0 rfl 1 rfl ?_
  refine z_get C (in_X7_putsAt_X7) 0 rfl rfl 6 (by decide) (List.mem_of_getElem? (i := 1) rfl) rfl rfl dX7_putsAt_1 4 rfl ?_
  refine z_iload_n C dX7_putsAt_4 rfl 1 rfl 5 rfl ?_
  refine z_iload_n C dX7_putsAt_5 rfl 2 rfl 6 rfl ?_
  refine z_iast C (fun z => wX7 T a0 z) S0 6 (hD.zaddr rfl) 1 rfl rfl (fun _ => rfl) dX7_putsAt_6 7 rfl h (fun S0_1 h => ?_)
  refine z_aload_n C dX7_putsAt_7 rfl 0 rfl 8 rfl ?_
  refine z_get C (in_X7_putsAt_X7) 0 rfl rfl 7 (by decide) (List.mem_of_getElem? (i := 2) rfl) rfl rfl dX7_putsAt_8 11 rfl ?_
  refine z_iload_n C dX7_putsAt_11 rfl 1 rfl 12 rfl ?_
  refine z_iload_n C dX7_putsAt_12 rfl 3 rfl 13 rfl ?_
  refine z_iast C (fun z => wX7 T a0 z) S0_1 7 (hD.zaddr rfl) 2 rfl rfl (fun _ => rfl) dX7_putsAt_13 14 rfl h (fun S0_2 h => ?_)
  refine z_aload_n C dX7_putsAt_14 rfl 0 rfl 15 rfl ?_
  refine z_get C (in_X7_putsAt_X7) 0 rfl rfl 8 (by decide) (List.mem_of_getElem? (i := 3) rfl) rfl rfl dX7_putsAt_15 18 rfl ?_
  refine z_iload_n C dX7_putsAt_18 rfl 1 rfl 19 rfl ?_
  refine z_iload C dX7_putsAt_19 4 rfl 21 rfl ?_
  refine z_iast C (fun z => wX7 T a0 z) S0_2 8 (hD.zaddr rfl) 3 rfl rfl (fun _ => rfl) dX7_putsAt_21 22 rfl h (fun S0_3 h => ?_)
  exact z_vretW (x := S0_3) (ex := ex) (fun z => wX7 T a0 z) C hr dX7_putsAt_22 h rfl

end
/-! StreamTreeModel.adds (III)V -/
section
variable {p : Program} {l : Launch} {e : Env} {R : Room} {s : State} {m : MethodId} {args : Array Value} {below : List Frame} {meth : Method} {c : Code} {Q : State → Prop} {A : Nat → Prop} {D : va_G} {T : Nat → ClassId} {a0 : Nat → Nat}
theorem in_X7_adds_X7 : ∀ w ∈ u_ws RX7 TX7 35, w ∈ wsX7_adds := fun _ h => (List.mem_cons_of_mem _ (List.mem_append_right _ h))
def f_X7_adds_J50 (rec : (Int32 × (Nat → Nat → Int32)) → Option (Int32 × (Nat → Nat → Int32))) (S0 : Nat → Nat → Int32) (v1 : Int32) (v2 : Int32) (v3 : Int32) (x4 : Int32)  : Option (Int32 × (Nat → Nat → Int32)) := zix (x4 - 1) 8 fun _ => zix (x4 - 1) 8 fun _ => zix (x4 - 1) 8 fun _ => (f_X7_putsAt S0 x4 (S0 6 (Int32.toNatClampNeg (x4 - 1))) (S0 7 (Int32.toNatClampNeg (x4 - 1))) (S0 8 (Int32.toNatClampNeg (x4 - 1)))).bind fun r_2 => rec ((x4 + (-1)), r_2)
set_option maxHeartbeats 4000000 in
set_option maxRecDepth 100000 in
theorem p_X7_adds_J50 (C : zC p R s m args meth c cX7_adds 5 RX7 wsX7_adds D T 1 24 0 0) (S0 : Nat → Nat → Int32) {v1 : Int32} {v2 : Int32} {v3 : Int32} (x4 : Int32)  (hD : va_D A (wX7 T a0 S0)) {rec : (Int32 × (Nat → Nat → Int32)) → Option (Int32 × (Nat → Nat → Int32))} (hrec : ∀ (c0 : Int32) (c1 : Nat → Nat → Int32) (b : Int32 × (Nat → Nat → Int32)), rec (c0, c1) = some b → (zt p l e R s m args below meth c 5 A D 0 0 Q (wX7 T a0 b.2) [(0, .ref (a0 99)), (1, .int v1), (2, .int v2), (3, .int v3), (4, .int b.1)] 89 []) → zt p l e R s m args below meth c 5 A D 0 0 Q (wX7 T a0 c1) [(0, .ref (a0 99)), (1, .int v1), (2, .int v2), (3, .int v3), (4, .int c0)] 6 []) {b : Int32 × (Nat → Nat → Int32)} (K : zt p l e R s m args below meth c 5 A D 0 0 Q (wX7 T a0 b.2) [(0, .ref (a0 99)), (1, .int v1), (2, .int v2), (3, .int v3), (4, .int b.1)] 89 []) (h : f_X7_adds_J50 rec S0 v1 v2 v3 x4 = some b) : zt p l e R s m args below meth c 5 A D 0 0 Q (wX7 T a0 S0) [(0, .ref (a0 99)), (1, .int v1), (2, .int v2), (3, .int v3), (4, .int x4)] 50 [] := by
  unfold f_X7_adds_J50 at h
  refine z_aload_n C dX7_adds_50 rfl 0 rfl 51 rfl ?_
  refine z_iload C dX7_adds_51 4 rfl 53 rfl ?_
  refine z_aload_n C dX7_adds_53 rfl 0 rfl 54 rfl ?_
  refine z_get C (in_X7_adds_X7) 0 rfl rfl 6 (by decide) (List.mem_of_getElem? (i := 3) rfl) rfl rfl dX7_adds_54 57 rfl ?_
  refine z_iload C dX7_adds_57 4 rfl 59 rfl ?_
  refine z_iconst C 1 dX7_adds_59 (by decide) 60 rfl ?_
  refine z_isub C dX7_adds_60 61 rfl ?_
  refine z_iald C 1 rfl rfl dX7_adds_61 62 rfl h (fun h => ?_)
  refine z_aload_n C dX7_adds_62 rfl 0 rfl 63 rfl ?_
  refine z_get C (in_X7_adds_X7) 0 rfl rfl 7 (by decide) (List.mem_of_getElem? (i := 2) rfl) rfl rfl dX7_adds_63 66 rfl ?_
  refine z_iload C dX7_adds_66 4 rfl 68 rfl ?_
  refine z_iconst C 1 dX7_adds_68 (by decide) 69 rfl ?_
  refine z_isub C dX7_adds_69 70 rfl ?_
  refine z_iald C 2 rfl rfl dX7_adds_70 71 rfl h (fun h => ?_)
  refine z_aload_n C dX7_adds_71 rfl 0 rfl 72 rfl ?_
  refine z_get C (in_X7_adds_X7) 0 rfl rfl 8 (by decide) (List.mem_of_getElem? (i := 4) rfl) rfl rfl dX7_adds_72 75 rfl ?_
  refine z_iload C dX7_adds_75 4 rfl 77 rfl ?_
  refine z_iconst C 1 dX7_adds_77 (by decide) 78 rfl ?_
  refine z_isub C dX7_adds_78 79 rfl ?_
  refine z_iald C 3 rfl rfl dX7_adds_79 80 rfl h (fun h => ?_)
  refine z_callV C (wX7 T a0 S0) (([] : va_W)) (fun z => wX7 T a0 z) (fun z => wX7 T a0 z) (fun z h => c_X7_putsAt l D T a0  S0 x4 (S0 6 (Int32.toNatClampNeg (x4 - 1))) (S0 7 (Int32.toNatClampNeg (x4 - 1))) (S0 8 (Int32.toNatClampNeg (x4 - 1))) z h) ⟨rfl, rfl⟩ (z_cwV C 4 gX7_adds_X7_putsAt rfl rfl dd_X7_putsAt ⟨(Nat.le_of_ble_eq_true rfl), (Nat.le_of_ble_eq_true rfl)⟩) (hD.zaddr rfl) [0, 1, 2, 3, 4, 5, 6, 7, 8, 9, 10, 11, 12, 13, 14, 15, 16, 17] [] [0, 1, 2, 3, 4, 5, 6, 7, 8, 9, 10, 11, 12, 13, 14, 15, 16, 17] rfl rfl rfl (by decide) (fun _ => rfl) (fun _ => ⟨a0 99, [.int x4, .int (S0 6 (Int32.toNatClampNeg (x4 - 1))), .int (S0 7 (Int32.toNatClampNeg (x4 - 1))), .int (S0 8 (Int32.toNatClampNeg (x4 - 1)))], 6, 0, _, _, rfl, rfl, rfl, rfl, rfl⟩) (fun h => absurd rfl h) rfl (Nat.le_of_ble_eq_true rfl) dX7_adds_80 83 rfl h (fun r_2 h => ?_)
  refine z_iinc C (x4 + (-1)) [(0, .ref (a0 99)), (1, .int v1), (2, .int v2), (3, .int v3), (4, .int (x4 + (-1)))] dX7_adds_83 4 rfl rfl (Nat.le_of_ble_eq_true rfl) [1, 2, 3, 4, 0] rfl 86 rfl ?_
  refine z_goto C 6 dX7_adds_86 (by decide) ?_
  exact z_locals (ks := [0, 1, 2, 3, 4]) rfl (hrec _ _ _ h K)

def f_X7_adds_L6b  (v1 : Int32) (v2 : Int32) (v3 : Int32) (rec : (Int32 × (Nat → Nat → Int32)) → Option (Int32 × (Nat → Nat → Int32))) (a : Int32 × (Nat → Nat → Int32)) : Option (Int32 × (Nat → Nat → Int32)) := if a.1 ≤ 0 then (some (a.1, a.2)) else (zix (a.1 - 1) 8 fun _ => if v2 < (a.2 7 (Int32.toNatClampNeg (a.1 - 1))) then (f_X7_adds_J50 rec a.2 v1 v2 v3 a.1) else (zix (a.1 - 1) 8 fun _ => if (a.2 7 (Int32.toNatClampNeg (a.1 - 1))) = v2 then (zix (a.1 - 1) 8 fun _ => if (a.2 6 (Int32.toNatClampNeg (a.1 - 1))) ≤ v1 then (some (a.1, a.2)) else (f_X7_adds_J50 rec a.2 v1 v2 v3 a.1)) else (some (a.1, a.2))))
def f_X7_adds_L6  (v1 : Int32) (v2 : Int32) (v3 : Int32) : Nat → (Int32 × (Nat → Nat → Int32)) → Option (Int32 × (Nat → Nat → Int32)) := zloop (fun rec a => f_X7_adds_L6b v1 v2 v3 rec a)
set_option maxHeartbeats 4000000 in
set_option maxRecDepth 100000 in
theorem p_X7_adds_L6 (C : zC p R s m args meth c cX7_adds 5 RX7 wsX7_adds D T 1 24 0 0) (S0 : Nat → Nat → Int32) (v1 : Int32) (v2 : Int32) (v3 : Int32) (hD : va_D A (wX7 T a0 S0)) : ∀ (n : Nat) (c0 : Int32) (c1 : Nat → Nat → Int32) (b : Int32 × (Nat → Nat → Int32)), f_X7_adds_L6 v1 v2 v3 n (c0, c1) = some b → (zt p l e R s m args below meth c 5 A D 0 0 Q (wX7 T a0 b.2) [(0, .ref (a0 99)), (1, .int v1), (2, .int v2), (3, .int v3), (4, .int b.1)] 89 []) → zt p l e R s m args below meth c 5 A D 0 0 Q (wX7 T a0 c1) [(0, .ref (a0 99)), (1, .int v1), (2, .int v2), (3, .int v3), (4, .int c0)] 6 [] := by
  intro n c0 c1 b h K
  refine zloop_ind (P := fun a b => (zt p l e R s m args below meth c 5 A D 0 0 Q (wX7 T a0 b.2) [(0, .ref (a0 99)), (1, .int v1), (2, .int v2), (3, .int v3), (4, .int b.1)] 89 []) → zt p l e R s m args below meth c 5 A D 0 0 Q (wX7 T a0 a.2) [(0, .ref (a0 99)), (1, .int v1), (2, .int v2), (3, .int v3), (4, .int a.1)] 6 []) ?_ n (c0, c1) b h K
  clear h K b c0 c1
  intro rec hrec a b h K
  have hrec : ∀ (c0 : Int32) (c1 : Nat → Nat → Int32) (b : Int32 × (Nat → Nat → Int32)), rec (c0, c1) = some b → (zt p l e R s m args below meth c 5 A D 0 0 Q (wX7 T a0 b.2) [(0, .ref (a0 99)), (1, .int v1), (2, .int v2), (3, .int v3), (4, .int b.1)] 89 []) → zt p l e R s m args below meth c 5 A D 0 0 Q (wX7 T a0 c1) [(0, .ref (a0 99)), (1, .int v1), (2, .int v2), (3, .int v3), (4, .int c0)] 6 [] := fun c0 c1 b h K => hrec (c0, c1) b h K
  unfold f_X7_adds_L6b at h
  refine z_iload C dX7_adds_6 4 rfl 8 rfl ?_
  refine z_if_le C 89 dX7_adds_8 (by decide) 11 rfl h (fun h => ?_) (fun h => ?_)
  · refine z_locals (ks := [0, 1, 2, 3, 4]) (lv' := [(0, .ref (a0 99)), (1, .int v1), (2, .int v2), (3, .int v3), (4, .int a.1)]) rfl ?_
    exact zex2 (F := (fun e0 e1 => zt p l e R s m args below meth c 5 A D 0 0 Q (wX7 T a0 e1) [(0, .ref (a0 99)), (1, .int v1), (2, .int v2), (3, .int v3), (4, .int e0)] 89 [])) h K
  · refine z_aload_n C dX7_adds_11 rfl 0 rfl 12 rfl ?_
    refine z_get C (in_X7_adds_X7) 0 rfl rfl 7 (by decide) (List.mem_of_getElem? (i := 2) rfl) rfl rfl dX7_adds_12 15 rfl ?_
    refine z_iload C dX7_adds_15 4 rfl 17 rfl ?_
    refine z_iconst C 1 dX7_adds_17 (by decide) 18 rfl ?_
    refine z_isub C dX7_adds_18 19 rfl ?_
    refine z_iald C 2 rfl rfl dX7_adds_19 20 rfl h (fun h => ?_)
    refine z_iload_n C dX7_adds_20 rfl 2 rfl 21 rfl ?_
    refine z_icmp_gt C 50 dX7_adds_21 (by decide) 24 rfl h (fun h => ?_) (fun h => ?_)
    · exact z_locals (ks := [0, 1, 2, 3, 4]) rfl (p_X7_adds_J50 C a.2 a.1 (hD.zaddr rfl) hrec K h)
    · refine z_aload_n C dX7_adds_24 rfl 0 rfl 25 rfl ?_
      refine z_get C (in_X7_adds_X7) 0 rfl rfl 7 (by decide) (List.mem_of_getElem? (i := 2) rfl) rfl rfl dX7_adds_25 28 rfl ?_
      refine z_iload C dX7_adds_28 4 rfl 30 rfl ?_
      refine z_iconst C 1 dX7_adds_30 (by decide) 31 rfl ?_
      refine z_isub C dX7_adds_31 32 rfl ?_
      refine z_iald C 2 rfl rfl dX7_adds_32 33 rfl h (fun h => ?_)
      refine z_iload_n C dX7_adds_33 rfl 2 rfl 34 rfl ?_
      refine z_icmp_ne C 89 dX7_adds_34 (by decide) 37 rfl h (fun h => ?_) (fun h => ?_)
      · refine z_locals (ks := [0, 1, 2, 3, 4]) (lv' := [(0, .ref (a0 99)), (1, .int v1), (2, .int v2), (3, .int v3), (4, .int a.1)]) rfl ?_
        exact zex2 (F := (fun e0 e1 => zt p l e R s m args below meth c 5 A D 0 0 Q (wX7 T a0 e1) [(0, .ref (a0 99)), (1, .int v1), (2, .int v2), (3, .int v3), (4, .int e0)] 89 [])) h K
      · refine z_aload_n C dX7_adds_37 rfl 0 rfl 38 rfl ?_
        refine z_get C (in_X7_adds_X7) 0 rfl rfl 6 (by decide) (List.mem_of_getElem? (i := 3) rfl) rfl rfl dX7_adds_38 41 rfl ?_
        refine z_iload C dX7_adds_41 4 rfl 43 rfl ?_
        refine z_iconst C 1 dX7_adds_43 (by decide) 44 rfl ?_
        refine z_isub C dX7_adds_44 45 rfl ?_
        refine z_iald C 1 rfl rfl dX7_adds_45 46 rfl h (fun h => ?_)
        refine z_iload_n C dX7_adds_46 rfl 1 rfl 47 rfl ?_
        refine z_icmp_le C 89 dX7_adds_47 (by decide) 50 rfl h (fun h => ?_) (fun h => ?_)
        · refine z_locals (ks := [0, 1, 2, 3, 4]) (lv' := [(0, .ref (a0 99)), (1, .int v1), (2, .int v2), (3, .int v3), (4, .int a.1)]) rfl ?_
          exact zex2 (F := (fun e0 e1 => zt p l e R s m args below meth c 5 A D 0 0 Q (wX7 T a0 e1) [(0, .ref (a0 99)), (1, .int v1), (2, .int v2), (3, .int v3), (4, .int e0)] 89 [])) h K
        · exact z_locals (ks := [0, 1, 2, 3, 4]) rfl (p_X7_adds_J50 C a.2 a.1 (hD.zaddr rfl) hrec K h)

def f_X7_adds_J89 (S0 : Nat → Nat → Int32) (x1 : Int32) (x2 : Int32) (x3 : Int32) (x4 : Int32)  : Option ((Nat → Nat → Int32)) := (f_X7_putsAt S0 x4 x1 x2 x3).bind fun r_4 => zlet (zst r_4 9 0 ((r_4 9 0) + 1)) fun S0_5 => some S0_5
set_option maxHeartbeats 4000000 in
set_option maxRecDepth 100000 in
theorem p_X7_adds_J89 {w0 : va_W} (C : zC p R s m args meth c cX7_adds 5 RX7 wsX7_adds D T 1 24 0 0) (hr : meth.sig.returnType = none) (S0 : Nat → Nat → Int32) (x1 : Int32) (x2 : Int32) (x3 : Int32) (x4 : Int32)  (hD : va_D (zA w0) (wX7 T a0 S0)) {ex : (Nat → Nat → Int32)} (h : f_X7_adds_J89 S0 x1 x2 x3 x4 = some ex) : zt p l e R s m args below meth c 5 (zA w0) D 0 0 (MQ below (zQV D w0 (wX7 T a0 ex)) args s 0 0 (zA w0)) (wX7 T a0 S0) [(0, .ref (a0 99)), (1, .int x1), (2, .int x2), (3, .int x3), (4, .int x4)] 89 [] := by
  unfold f_X7_adds_J89 at h
  refine z_aload_n C dX7_adds_89 rfl 0 rfl 90 rfl ?_
  refine z_iload C dX7_adds_90 4 rfl 92 rfl ?_
  refine z_iload_n C dX7_adds_92 rfl 1 rfl 93 rfl ?_
  refine z_iload_n C dX7_adds_93 rfl 2 rfl 94 rfl ?_
  refine z_iload_n C dX7_adds_94 rfl 3 rfl 95 rfl ?_
  refine z_callV C (wX7 T a0 S0) (([] : va_W)) (fun z => wX7 T a0 z) (fun z => wX7 T a0 z) (fun z h => c_X7_putsAt l D T a0  S0 x4 x1 x2 x3 z h) ⟨rfl, rfl⟩ (z_cwV C 4 gX7_adds_X7_putsAt rfl rfl dd_X7_putsAt ⟨(Nat.le_of_ble_eq_true rfl), (Nat.le_of_ble_eq_true rfl)⟩) (hD.zaddr rfl) [0, 1, 2, 3, 4, 5, 6, 7, 8, 9, 10, 11, 12, 13, 14, 15, 16, 17] [] [0, 1, 2, 3, 4, 5, 6, 7, 8, 9, 10, 11, 12, 13, 14, 15, 16, 17] rfl rfl rfl (by decide) (fun _ => rfl) (fun _ => ⟨a0 99, [.int x4, .int x1, .int x2, .int x3], 6, 0, _, _, rfl, rfl, rfl, rfl, rfl⟩) (fun h => absurd rfl h) rfl (Nat.le_of_ble_eq_true rfl) dX7_adds_95 98 rfl h (fun r_4 h => ?_)
  refine z_aload_n C dX7_adds_98 rfl 0 rfl 99 rfl ?_
  refine z_dup C dX7_adds_99 rfl 100 rfl ?_
  refine z_get C (in_X7_adds_X7) 0 rfl rfl 9 (by decide) (List.mem_of_getElem? (i := 1) rfl) rfl rfl dX7_adds_100 103 rfl ?_
  refine z_iconst C 1 dX7_adds_103 (by decide) 104 rfl ?_
  refine z_iadd C dX7_adds_104 105 rfl ?_
  refine z_put (ty := .int) C (fun z => wX7 T a0 z) r_4 (hD.zaddr rfl) (in_X7_adds_X7) tyX7 tyX7_ok nmX7 0 rfl rfl 9 (by decide) (List.mem_of_getElem? (i := 1) rfl) rfl rfl (by decide +kernel) rfl rfl (Nat.le_of_ble_eq_true rfl) rfl dX7_adds_105 108 rfl h (fun S0_5 h => ?_)
  exact z_vretW (x := S0_5) (ex := ex) (fun z => wX7 T a0 z) C hr dX7_adds_108 h rfl

def f_X7_adds (S0 : Nat → Nat → Int32) (v1 : Int32) (v2 : Int32) (v3 : Int32) : Option ((Nat → Nat → Int32)) := zlet (S0 9 0) fun u_1 => (f_X7_adds_L6 v1 v2 v3 zfuel (u_1, S0)).bind fun y_3 => f_X7_adds_J89 y_3.2 v1 v2 v3 y_3.1
theorem dd_X7_adds : RX7 ≠ "java/lang/invoke/MethodHandle" ∧ RX7 ≠ "java/lang/invoke/VarHandle" ∧ (parseMethodDescriptor yX7_adds.desc).map (fun d => d.parameters.length) = some 3 := by decide +kernel
set_option maxHeartbeats 4000000 in
set_option maxRecDepth 100000 in
theorem c_X7_adds (l : Launch) (D : va_G) (T : Nat → ClassId) (a0 : Nat → Nat) (S0 : Nat → Nat → Int32) (v1 : Int32) (v2 : Int32) (v3 : Int32) (ex : (Nat → Nat → Int32)) (h : f_X7_adds S0 v1 v2 v3 = some ex) : zWV l yX7_adds wsX7_adds ({ frames := 1, cells := 0, slots := 0, locals := 24 } : Room) D T [.ref (a0 99), .int v1, .int v2, .int v3] (wX7 T a0 S0) (wX7 T a0 ex) := by
  refine z_begin (cc := cX7_adds) (nL := 5) (own := RX7) (fr := 1) (lc := 24) (ret := none) (by decide) rfl (Nat.le_of_ble_eq_true rfl) (zA (wX7 T a0 S0)) rfl [(0, .ref (a0 99)), (1, .int v1), (2, .int v2), (3, .int v3)] rfl ⟨rfl, rfl⟩ rfl ?_
  intro p e s m args below meth c C hr hD
  have hD := hD.zself
  unfold f_X7_adds at h
  refine z_aload_n C dX7_adds_0 rfl 0 rfl 1 rfl ?_
  refine z_get C (in_X7_adds_X7) 0 rfl rfl 9 (by decide) (List.mem_of_getElem? (i := 1) rfl) rfl rfl dX7_adds_1 4 rfl ?_
  refine z_top h (fun u_1 h => ?_)
  refine z_istore C [(0, .ref (a0 99)), (1, .int v1), (2, .int v2), (3, .int v3), (4, .int u_1)] dX7_adds_4 (Nat.le_of_ble_eq_true rfl) [1, 2, 3, 4, 0] rfl 6 rfl ?_
  obtain ⟨y_3, hl_y_3, h⟩ := Option.bind_eq_some_iff.mp h
  refine z_locals (ks := [0, 1, 2, 3, 4]) rfl (p_X7_adds_L6 C S0 v1 v2 v3 (hD.zaddr rfl) _ _ _ _ hl_y_3 ?_)
  exact z_locals (ks := [0, 1, 2, 3, 4]) rfl (p_X7_adds_J89 C hr y_3.2 v1 v2 v3 y_3.1 (hD.zaddr rfl) h)

end
/-! StreamTreeModel.goes (I)V -/
section
variable {p : Program} {l : Launch} {e : Env} {R : Room} {s : State} {m : MethodId} {args : Array Value} {below : List Frame} {meth : Method} {c : Code} {Q : State → Prop} {A : Nat → Prop} {D : va_G} {T : Nat → ClassId} {a0 : Nat → Nat}
theorem in_X7_goes_X7 : ∀ w ∈ u_ws RX7 TX7 35, w ∈ wsX7_goes := fun _ h => (List.mem_cons_of_mem _ (List.mem_append_right _ h))
def f_X7_goes_L12b   (rec : (Int32 × (Nat → Nat → Int32)) → Option ((Nat → Nat → Int32))) (a : Int32 × (Nat → Nat → Int32)) : Option ((Nat → Nat → Int32)) := if (a.2 9 0) ≤ a.1 then (some a.2) else (zix (a.1 + 1) 8 fun _ => zix (a.1 + 1) 8 fun _ => zix (a.1 + 1) 8 fun _ => (f_X7_putsAt a.2 a.1 (a.2 6 (Int32.toNatClampNeg (a.1 + 1))) (a.2 7 (Int32.toNatClampNeg (a.1 + 1))) (a.2 8 (Int32.toNatClampNeg (a.1 + 1)))).bind fun r_2 => rec ((a.1 + 1), r_2))
def f_X7_goes_L12   : Nat → (Int32 × (Nat → Nat → Int32)) → Option ((Nat → Nat → Int32)) := zloop (fun rec a => f_X7_goes_L12b  rec a)
set_option maxHeartbeats 4000000 in
set_option maxRecDepth 100000 in
theorem p_X7_goes_L12 (C : zC p R s m args meth c cX7_goes 3 RX7 wsX7_goes D T 1 24 0 0) (S0 : Nat → Nat → Int32)  (hD : va_D A (wX7 T a0 S0)) : ∀ (n : Nat) (c0 : Int32) (c1 : Nat → Nat → Int32) (b : (Nat → Nat → Int32)), f_X7_goes_L12  n (c0, c1) = some b → (zt p l e R s m args below meth c 3 A D 0 0 Q (wX7 T a0 b) [] 55 []) → zt p l e R s m args below meth c 3 A D 0 0 Q (wX7 T a0 c1) [(0, .ref (a0 99)), (2, .int c0)] 12 [] := by
  intro n c0 c1 b h K
  refine zloop_ind (P := fun a b => (zt p l e R s m args below meth c 3 A D 0 0 Q (wX7 T a0 b) [] 55 []) → zt p l e R s m args below meth c 3 A D 0 0 Q (wX7 T a0 a.2) [(0, .ref (a0 99)), (2, .int a.1)] 12 []) ?_ n (c0, c1) b h K
  clear h K b c0 c1
  intro rec hrec a b h K
  have hrec : ∀ (c0 : Int32) (c1 : Nat → Nat → Int32) (b : (Nat → Nat → Int32)), rec (c0, c1) = some b → (zt p l e R s m args below meth c 3 A D 0 0 Q (wX7 T a0 b) [] 55 []) → zt p l e R s m args below meth c 3 A D 0 0 Q (wX7 T a0 c1) [(0, .ref (a0 99)), (2, .int c0)] 12 [] := fun c0 c1 b h K => hrec (c0, c1) b h K
  unfold f_X7_goes_L12b at h
  refine z_iload_n C dX7_goes_12 rfl 1 rfl 13 rfl ?_
  refine z_aload_n C dX7_goes_13 rfl 0 rfl 14 rfl ?_
  refine z_get C (in_X7_goes_X7) 0 rfl rfl 9 (by decide) (List.mem_of_getElem? (i := 1) rfl) rfl rfl dX7_goes_14 17 rfl ?_
  refine z_icmp_ge C 55 dX7_goes_17 (by decide) 20 rfl h (fun h => ?_) (fun h => ?_)
  · refine z_locals (ks := []) (lv' := []) rfl ?_
    exact zex1 (F := (fun e0 => zt p l e R s m args below meth c 3 A D 0 0 Q (wX7 T a0 e0) [] 55 [])) h K
  · refine z_aload_n C dX7_goes_20 rfl 0 rfl 21 rfl ?_
    refine z_iload_n C dX7_goes_21 rfl 1 rfl 22 rfl ?_
    refine z_aload_n C dX7_goes_22 rfl 0 rfl 23 rfl ?_
    refine z_get C (in_X7_goes_X7) 0 rfl rfl 6 (by decide) (List.mem_of_getElem? (i := 2) rfl) rfl rfl dX7_goes_23 26 rfl ?_
    refine z_iload_n C dX7_goes_26 rfl 1 rfl 27 rfl ?_
    refine z_iconst C 1 dX7_goes_27 (by decide) 28 rfl ?_
    refine z_iadd C dX7_goes_28 29 rfl ?_
    refine z_iald C 1 rfl rfl dX7_goes_29 30 rfl h (fun h => ?_)
    refine z_aload_n C dX7_goes_30 rfl 0 rfl 31 rfl ?_
    refine z_get C (in_X7_goes_X7) 0 rfl rfl 7 (by decide) (List.mem_of_getElem? (i := 3) rfl) rfl rfl dX7_goes_31 34 rfl ?_
    refine z_iload_n C dX7_goes_34 rfl 1 rfl 35 rfl ?_
    refine z_iconst C 1 dX7_goes_35 (by decide) 36 rfl ?_
    refine z_iadd C dX7_goes_36 37 rfl ?_
    refine z_iald C 2 rfl rfl dX7_goes_37 38 rfl h (fun h => ?_)
    refine z_aload_n C dX7_goes_38 rfl 0 rfl 39 rfl ?_
    refine z_get C (in_X7_goes_X7) 0 rfl rfl 8 (by decide) (List.mem_of_getElem? (i := 4) rfl) rfl rfl dX7_goes_39 42 rfl ?_
    refine z_iload_n C dX7_goes_42 rfl 1 rfl 43 rfl ?_
    refine z_iconst C 1 dX7_goes_43 (by decide) 44 rfl ?_
    refine z_iadd C dX7_goes_44 45 rfl ?_
    refine z_iald C 3 rfl rfl dX7_goes_45 46 rfl h (fun h => ?_)
    refine z_callV C (wX7 T a0 a.2) (([] : va_W)) (fun z => wX7 T a0 z) (fun z => wX7 T a0 z) (fun z h => c_X7_putsAt l D T a0  a.2 a.1 (a.2 6 (Int32.toNatClampNeg (a.1 + 1))) (a.2 7 (Int32.toNatClampNeg (a.1 + 1))) (a.2 8 (Int32.toNatClampNeg (a.1 + 1))) z h) ⟨rfl, rfl⟩ (z_cwV C 4 gX7_goes_X7_putsAt rfl rfl dd_X7_putsAt ⟨(Nat.le_of_ble_eq_true rfl), (Nat.le_of_ble_eq_true rfl)⟩) (hD.zaddr rfl) [0, 1, 2, 3, 4, 5, 6, 7, 8, 9, 10, 11, 12, 13, 14, 15, 16, 17] [] [0, 1, 2, 3, 4, 5, 6, 7, 8, 9, 10, 11, 12, 13, 14, 15, 16, 17] rfl rfl rfl (by decide) (fun _ => rfl) (fun _ => ⟨a0 99, [.int a.1, .int (a.2 6 (Int32.toNatClampNeg (a.1 + 1))), .int (a.2 7 (Int32.toNatClampNeg (a.1 + 1))), .int (a.2 8 (Int32.toNatClampNeg (a.1 + 1)))], 6, 0, _, _, rfl, rfl, rfl, rfl, rfl⟩) (fun h => absurd rfl h) rfl (Nat.le_of_ble_eq_true rfl) dX7_goes_46 49 rfl h (fun r_2 h => ?_)
    refine z_iinc C (a.1 + 1) [(0, .ref (a0 99)), (2, .int (a.1 + 1))] dX7_goes_49 1 rfl rfl (Nat.le_of_ble_eq_true rfl) [1, 0] rfl 52 rfl ?_
    refine z_goto C 12 dX7_goes_52 (by decide) ?_
    exact z_locals (ks := [0, 1]) rfl (hrec _ _ _ h K)

def f_X7_goes (S0 : Nat → Nat → Int32) (v1 : Int32) : Option ((Nat → Nat → Int32)) := zlet (zst S0 9 0 ((S0 9 0) - 1)) fun S0_1 => (f_X7_goes_L12  zfuel (v1, S0_1)).bind fun y_3 => some y_3
theorem dd_X7_goes : RX7 ≠ "java/lang/invoke/MethodHandle" ∧ RX7 ≠ "java/lang/invoke/VarHandle" ∧ (parseMethodDescriptor yX7_goes.desc).map (fun d => d.parameters.length) = some 1 := by decide +kernel
set_option maxHeartbeats 4000000 in
set_option maxRecDepth 100000 in
theorem c_X7_goes (l : Launch) (D : va_G) (T : Nat → ClassId) (a0 : Nat → Nat) (S0 : Nat → Nat → Int32) (v1 : Int32) (ex : (Nat → Nat → Int32)) (h : f_X7_goes S0 v1 = some ex) : zWV l yX7_goes wsX7_goes ({ frames := 1, cells := 0, slots := 0, locals := 24 } : Room) D T [.ref (a0 99), .int v1] (wX7 T a0 S0) (wX7 T a0 ex) := by
  refine z_begin (cc := cX7_goes) (nL := 3) (own := RX7) (fr := 1) (lc := 24) (ret := none) (by decide) rfl (Nat.le_of_ble_eq_true rfl) (zA (wX7 T a0 S0)) rfl [(0, .ref (a0 99)), (1, .int v1)] rfl ⟨rfl, rfl⟩ rfl ?_
  intro p e s m args below meth c C hr hD
  have hD := hD.zself
  unfold f_X7_goes at h
  refine z_aload_n C dX7_goes_0 rfl 0 rfl 1 rfl ?_
  refine z_dup C dX7_goes_1 rfl 2 rfl ?_
  refine z_get C (in_X7_goes_X7) 0 rfl rfl 9 (by decide) (List.mem_of_getElem? (i := 1) rfl) rfl rfl dX7_goes_2 5 rfl ?_
  refine z_iconst C 1 dX7_goes_5 (by decide) 6 rfl ?_
  refine z_isub C dX7_goes_6 7 rfl ?_
  refine z_put (ty := .int) C (fun z => wX7 T a0 z) S0 (hD.zaddr rfl) (in_X7_goes_X7) tyX7 tyX7_ok nmX7 0 rfl rfl 9 (by decide) (List.mem_of_getElem? (i := 1) rfl) rfl rfl (by decide +kernel) rfl rfl (Nat.le_of_ble_eq_true rfl) rfl dX7_goes_7 10 rfl h (fun S0_1 h => ?_)
  refine z_iload_n C dX7_goes_10 rfl 1 rfl 11 rfl ?_
  refine z_istore_n C [(0, .ref (a0 99)), (1, .int v1), (2, .int v1)] dX7_goes_11 rfl (Nat.le_of_ble_eq_true rfl) [1, 2, 0] rfl 12 rfl ?_
  obtain ⟨y_3, hl_y_3, h⟩ := Option.bind_eq_some_iff.mp h
  refine z_locals (ks := [0, 2]) rfl (p_X7_goes_L12 C S0_1  (hD.zaddr rfl) _ _ _ _ hl_y_3 ?_)
  exact z_vretW (x := y_3) (ex := ex) (fun z => wX7 T a0 z) C hr dX7_goes_55 h rfl

end
/-! StreamTreeModel.puts (I)V -/
section
variable {p : Program} {l : Launch} {e : Env} {R : Room} {s : State} {m : MethodId} {args : Array Value} {below : List Frame} {meth : Method} {c : Code} {Q : State → Prop} {A : Nat → Prop} {D : va_G} {T : Nat → ClassId} {a0 : Nat → Nat}
theorem in_X7_puts_X7 : ∀ w ∈ u_ws RX7 TX7 35, w ∈ wsX7_puts := fun _ h => (List.mem_cons_of_mem _ (List.mem_append_right _ h))
def f_X7_puts_L3b  (v1 : Int32) (rec : (Int32 × (Nat → Nat → Int32)) → Option ((Nat → Nat → Int32))) (a : Int32 × (Nat → Nat → Int32)) : Option ((Nat → Nat → Int32)) := if a.1 < 0 then (some a.2) else (zix (a.2 12 0) 500 fun j => zlet (zst a.2 11 j (vp_nar .byte ((Int32.toInt8 (v1 >>> (a.1 &&& 31))).toInt32))) fun S0_1 => zlet (zst S0_1 12 0 ((S0_1 12 0) + 1)) fun S0_2 => rec ((a.1 + (-8)), S0_2))
def f_X7_puts_L3  (v1 : Int32) : Nat → (Int32 × (Nat → Nat → Int32)) → Option ((Nat → Nat → Int32)) := zloop (fun rec a => f_X7_puts_L3b v1 rec a)
set_option maxHeartbeats 4000000 in
set_option maxRecDepth 100000 in
theorem p_X7_puts_L3 (C : zC p R s m args meth c cX7_puts 3 RX7 wsX7_puts D T 0 0 0 0) (S0 : Nat → Nat → Int32) (v1 : Int32) (hD : va_D A (wX7 T a0 S0)) : ∀ (n : Nat) (c0 : Int32) (c1 : Nat → Nat → Int32) (b : (Nat → Nat → Int32)), f_X7_puts_L3 v1 n (c0, c1) = some b → (zt p l e R s m args below meth c 3 A D 0 0 Q (wX7 T a0 b) [] 36 []) → zt p l e R s m args below meth c 3 A D 0 0 Q (wX7 T a0 c1) [(0, .ref (a0 99)), (1, .int v1), (2, .int c0)] 3 [] := by
  intro n c0 c1 b h K
  refine zloop_ind (P := fun a b => (zt p l e R s m args below meth c 3 A D 0 0 Q (wX7 T a0 b) [] 36 []) → zt p l e R s m args below meth c 3 A D 0 0 Q (wX7 T a0 a.2) [(0, .ref (a0 99)), (1, .int v1), (2, .int a.1)] 3 []) ?_ n (c0, c1) b h K
  clear h K b c0 c1
  intro rec hrec a b h K
  have hrec : ∀ (c0 : Int32) (c1 : Nat → Nat → Int32) (b : (Nat → Nat → Int32)), rec (c0, c1) = some b → (zt p l e R s m args below meth c 3 A D 0 0 Q (wX7 T a0 b) [] 36 []) → zt p l e R s m args below meth c 3 A D 0 0 Q (wX7 T a0 c1) [(0, .ref (a0 99)), (1, .int v1), (2, .int c0)] 3 [] := fun c0 c1 b h K => hrec (c0, c1) b h K
  unfold f_X7_puts_L3b at h
  refine z_iload_n C dX7_puts_3 rfl 2 rfl 4 rfl ?_
  refine z_if_lt C 36 dX7_puts_4 (by decide) 7 rfl h (fun h => ?_) (fun h => ?_)
  · refine z_locals (ks := []) (lv' := []) rfl ?_
    exact zex1 (F := (fun e0 => zt p l e R s m args below meth c 3 A D 0 0 Q (wX7 T a0 e0) [] 36 [])) h K
  · refine z_aload_n C dX7_puts_7 rfl 0 rfl 8 rfl ?_
    refine z_get C (in_X7_puts_X7) 0 rfl rfl 11 (by decide) (List.mem_of_getElem? (i := 1) rfl) rfl rfl dX7_puts_8 11 rfl ?_
    refine z_aload_n C dX7_puts_11 rfl 0 rfl 12 rfl ?_
    refine z_get C (in_X7_puts_X7) 0 rfl rfl 12 (by decide) (List.mem_of_getElem? (i := 2) rfl) rfl rfl dX7_puts_12 15 rfl ?_
    refine z_iload_n C dX7_puts_15 rfl 1 rfl 16 rfl ?_
    refine z_iload_n C dX7_puts_16 rfl 2 rfl 17 rfl ?_
    refine z_ishr C dX7_puts_17 18 rfl ?_
    refine z_i2b C dX7_puts_18 19 rfl ?_
    refine z_bast C (fun z => wX7 T a0 z) a.2 11 (hD.zaddr rfl) 5 rfl rfl (fun _ => rfl) dX7_puts_19 20 rfl h (fun S0_1 h => ?_)
    refine z_aload_n C dX7_puts_20 rfl 0 rfl 21 rfl ?_
    refine z_dup C dX7_puts_21 rfl 22 rfl ?_
    refine z_get C (in_X7_puts_X7) 0 rfl rfl 12 (by decide) (List.mem_of_getElem? (i := 2) rfl) rfl rfl dX7_puts_22 25 rfl ?_
    refine z_iconst C 1 dX7_puts_25 (by decide) 26 rfl ?_
    refine z_iadd C dX7_puts_26 27 rfl ?_
    refine z_put (ty := .int) C (fun z => wX7 T a0 z) S0_1 (hD.zaddr rfl) (in_X7_puts_X7) tyX7 tyX7_ok nmX7 0 rfl rfl 12 (by decide) (List.mem_of_getElem? (i := 2) rfl) rfl rfl (by decide +kernel) rfl rfl (Nat.le_of_ble_eq_true rfl) rfl dX7_puts_27 30 rfl h (fun S0_2 h => ?_)
    refine z_iinc C (a.1 + (-8)) [(0, .ref (a0 99)), (1, .int v1), (2, .int (a.1 + (-8)))] dX7_puts_30 2 rfl rfl (Nat.le_of_ble_eq_true rfl) [1, 2, 0] rfl 33 rfl ?_
    refine z_goto C 3 dX7_puts_33 (by decide) ?_
    exact z_locals (ks := [0, 1, 2]) rfl (hrec _ _ _ h K)

def f_X7_puts (S0 : Nat → Nat → Int32) (v1 : Int32) : Option ((Nat → Nat → Int32)) := (f_X7_puts_L3 v1 zfuel (24, S0)).bind fun y_3 => some y_3
theorem dd_X7_puts : RX7 ≠ "java/lang/invoke/MethodHandle" ∧ RX7 ≠ "java/lang/invoke/VarHandle" ∧ (parseMethodDescriptor yX7_puts.desc).map (fun d => d.parameters.length) = some 1 := by decide +kernel
set_option maxHeartbeats 4000000 in
set_option maxRecDepth 100000 in
theorem c_X7_puts (l : Launch) (D : va_G) (T : Nat → ClassId) (a0 : Nat → Nat) (S0 : Nat → Nat → Int32) (v1 : Int32) (ex : (Nat → Nat → Int32)) (h : f_X7_puts S0 v1 = some ex) : zWV l yX7_puts wsX7_puts ({ frames := 0, cells := 0, slots := 0, locals := 0 } : Room) D T [.ref (a0 99), .int v1] (wX7 T a0 S0) (wX7 T a0 ex) := by
  refine z_begin (cc := cX7_puts) (nL := 3) (own := RX7) (fr := 0) (lc := 0) (ret := none) (by decide) rfl (Nat.le_of_ble_eq_true rfl) (zA (wX7 T a0 S0)) rfl [(0, .ref (a0 99)), (1, .int v1)] rfl ⟨rfl, rfl⟩ rfl ?_
  intro p e s m args below meth c C hr hD
  have hD := hD.zself
  unfold f_X7_puts at h
  refine z_bipush C 24 dX7_puts_0 (by decide) 2 rfl ?_
  refine z_istore_n C [(0, .ref (a0 99)), (1, .int v1), (2, .int 24)] dX7_puts_2 rfl (Nat.le_of_ble_eq_true rfl) [1, 2, 0] rfl 3 rfl ?_
  obtain ⟨y_3, hl_y_3, h⟩ := Option.bind_eq_some_iff.mp h
  refine z_locals (ks := [0, 1, 2]) rfl (p_X7_puts_L3 C S0 v1 (hD.zaddr rfl) _ _ _ _ hl_y_3 ?_)
  exact z_vretW (x := y_3) (ex := ex) (fun z => wX7 T a0 z) C hr dX7_puts_36 h rfl

end
/-! StreamTreeModel.byteAt (I)I -/
section
variable {p : Program} {l : Launch} {e : Env} {R : Room} {s : State} {m : MethodId} {args : Array Value} {below : List Frame} {meth : Method} {c : Code} {Q : State → Prop} {A : Nat → Prop} {D : va_G} {T : Nat → ClassId} {a0 : Nat → Nat}
theorem in_X7_byteAt_X7 : ∀ w ∈ u_ws RX7 TX7 35, w ∈ wsX7_byteAt := fun _ h => (List.mem_cons_of_mem _ (List.mem_append_right _ h))
def f_X7_byteAt (S0 : Nat → Nat → Int32) (v1 : Int32) : Option (Int32) := if (S0 13 0) ≤ v1 then (some (-1)) else (zix v1 500 fun _ => some ((S0 11 (Int32.toNatClampNeg v1)) &&& 255))
theorem dd_X7_byteAt : RX7 ≠ "java/lang/invoke/MethodHandle" ∧ RX7 ≠ "java/lang/invoke/VarHandle" ∧ (parseMethodDescriptor yX7_byteAt.desc).map (fun d => d.parameters.length) = some 1 := by decide +kernel
set_option maxHeartbeats 4000000 in
set_option maxRecDepth 100000 in
theorem c_X7_byteAt (l : Launch) (D : va_G) (T : Nat → ClassId) (a0 : Nat → Nat) (S0 : Nat → Nat → Int32) (v1 : Int32) (ex : Int32) (h : f_X7_byteAt S0 v1 = some ex) : zRI l yX7_byteAt wsX7_byteAt ({ frames := 0, cells := 0, slots := 0, locals := 0 } : Room) D T [.ref (a0 99), .int v1] (wX7 T a0 S0) ex := by
  refine z_begin (cc := cX7_byteAt) (nL := 2) (own := RX7) (fr := 0) (lc := 0) (ret := some .int) (by decide) rfl (Nat.le_of_ble_eq_true rfl) (fun _ => False) rfl [(0, .ref (a0 99)), (1, .int v1)] rfl ⟨rfl, rfl⟩ rfl ?_
  intro p e s m args below meth c C hr hD
  unfold f_X7_byteAt at h
  refine z_iload_n C dX7_byteAt_0 rfl 1 rfl 1 rfl ?_
  refine z_aload_n C dX7_byteAt_1 rfl 0 rfl 2 rfl ?_
  refine z_get C (in_X7_byteAt_X7) 0 rfl rfl 13 (by decide) (List.mem_of_getElem? (i := 1) rfl) rfl rfl dX7_byteAt_2 5 rfl ?_
  refine z_icmp_ge C 21 dX7_byteAt_5 (by decide) 8 rfl h (fun h => ?_) (fun h => ?_)
  · refine z_iconst C (-1) dX7_byteAt_21 (by decide) 22 rfl ?_
    exact z_iretR C hr dX7_byteAt_22 h
  · refine z_aload_n C dX7_byteAt_8 rfl 0 rfl 9 rfl ?_
    refine z_get C (in_X7_byteAt_X7) 0 rfl rfl 11 (by decide) (List.mem_of_getElem? (i := 2) rfl) rfl rfl dX7_byteAt_9 12 rfl ?_
    refine z_iload_n C dX7_byteAt_12 rfl 1 rfl 13 rfl ?_
    refine z_bald C 5 rfl rfl dX7_byteAt_13 14 rfl h (fun h => ?_)
    refine z_sipush C 255 dX7_byteAt_14 (by decide) 17 rfl ?_
    refine z_iand C dX7_byteAt_17 18 rfl ?_
    refine z_goto C 22 dX7_byteAt_18 (by decide) ?_
    exact z_iretR C hr dX7_byteAt_22 h

end
/-! StreamTreeModel.isLetter (I)Z -/
section
variable {p : Program} {l : Launch} {e : Env} {R : Room} {s : State} {m : MethodId} {args : Array Value} {below : List Frame} {meth : Method} {c : Code} {Q : State → Prop} {A : Nat → Prop} {D : va_G} {T : Nat → ClassId} 
def f_X7_isLetter  (v0 : Int32) : Option (Int32) := (f_X7_within v0 97 122).bind fun r_1 => zbo r_1 (some r_1)
theorem dd_X7_isLetter : RX7 ≠ "java/lang/invoke/MethodHandle" ∧ RX7 ≠ "java/lang/invoke/VarHandle" ∧ (parseMethodDescriptor yX7_isLetter.desc).map (fun d => d.parameters.length) = some 1 := by decide +kernel
set_option maxHeartbeats 4000000 in
set_option maxRecDepth 100000 in
theorem c_X7_isLetter (l : Launch) (D : va_G) (T : Nat → ClassId)   (v0 : Int32) (ex : Int32) (h : f_X7_isLetter v0 = some ex) : zRI l yX7_isLetter wsX7_isLetter ({ frames := 1, cells := 0, slots := 0, locals := 22 } : Room) D T [.int v0] ([]) ex := by
  refine z_begin (cc := cX7_isLetter) (nL := 1) (own := RX7) (fr := 1) (lc := 22) (ret := some .boolean) (by decide) rfl (Nat.le_of_ble_eq_true rfl) (fun _ => False) rfl [(0, .int v0)] rfl ⟨rfl, rfl⟩ rfl ?_
  intro p e s m args below meth c C hr hD
  unfold f_X7_isLetter at h
  refine z_iload_n C dX7_isLetter_0 rfl 0 rfl 1 rfl ?_
  refine z_bipush C 97 dX7_isLetter_1 (by decide) 3 rfl ?_
  refine z_bipush C 122 dX7_isLetter_3 (by decide) 5 rfl ?_
  refine z_callR C ([]) (fun v h => c_X7_within l D T    v0 97 122 v h) ⟨rfl, rfl⟩ (z_cwS C 3 gX7_isLetter_X7_within rfl dd_X7_within ⟨(Nat.le_of_ble_eq_true rfl), (Nat.le_of_ble_eq_true rfl)⟩) (hD.zaddr rfl) [] rfl rfl (fun h => absurd h (by decide)) (fun _ => rfl) rfl (Nat.le_of_ble_eq_true rfl) dX7_isLetter_5 8 rfl h (fun r_1 h => ?_)
  exact z_zretR C hr dX7_isLetter_8 h

end
/-! StreamTreeModel.isDigit (I)Z -/
section
variable {p : Program} {l : Launch} {e : Env} {R : Room} {s : State} {m : MethodId} {args : Array Value} {below : List Frame} {meth : Method} {c : Code} {Q : State → Prop} {A : Nat → Prop} {D : va_G} {T : Nat → ClassId} 
def f_X7_isDigit  (v0 : Int32) : Option (Int32) := (f_X7_within v0 48 57).bind fun r_1 => zbo r_1 (some r_1)
theorem dd_X7_isDigit : RX7 ≠ "java/lang/invoke/MethodHandle" ∧ RX7 ≠ "java/lang/invoke/VarHandle" ∧ (parseMethodDescriptor yX7_isDigit.desc).map (fun d => d.parameters.length) = some 1 := by decide +kernel
set_option maxHeartbeats 4000000 in
set_option maxRecDepth 100000 in
theorem c_X7_isDigit (l : Launch) (D : va_G) (T : Nat → ClassId)   (v0 : Int32) (ex : Int32) (h : f_X7_isDigit v0 = some ex) : zRI l yX7_isDigit wsX7_isDigit ({ frames := 1, cells := 0, slots := 0, locals := 22 } : Room) D T [.int v0] ([]) ex := by
  refine z_begin (cc := cX7_isDigit) (nL := 1) (own := RX7) (fr := 1) (lc := 22) (ret := some .boolean) (by decide) rfl (Nat.le_of_ble_eq_true rfl) (fun _ => False) rfl [(0, .int v0)] rfl ⟨rfl, rfl⟩ rfl ?_
  intro p e s m args below meth c C hr hD
  unfold f_X7_isDigit at h
  refine z_iload_n C dX7_isDigit_0 rfl 0 rfl 1 rfl ?_
  refine z_bipush C 48 dX7_isDigit_1 (by decide) 3 rfl ?_
  refine z_bipush C 57 dX7_isDigit_3 (by decide) 5 rfl ?_
  refine z_callR C ([]) (fun v h => c_X7_within l D T    v0 48 57 v h) ⟨rfl, rfl⟩ (z_cwS C 3 gX7_isDigit_X7_within rfl dd_X7_within ⟨(Nat.le_of_ble_eq_true rfl), (Nat.le_of_ble_eq_true rfl)⟩) (hD.zaddr rfl) [] rfl rfl (fun h => absurd h (by decide)) (fun _ => rfl) rfl (Nat.le_of_ble_eq_true rfl) dX7_isDigit_5 8 rfl h (fun r_1 h => ?_)
  exact z_zretR C hr dX7_isDigit_8 h

end
/-! StreamTreeModel.go ()V -/
section
variable {p : Program} {l : Launch} {e : Env} {R : Room} {s : State} {m : MethodId} {args : Array Value} {below : List Frame} {meth : Method} {c : Code} {Q : State → Prop} {A : Nat → Prop} {D : va_G} {T : Nat → ClassId} {a0 : Nat → Nat}
theorem in_X7_go_X7 : ∀ w ∈ u_ws RX7 TX7 35, w ∈ wsX7_go := fun _ h => (List.mem_cons_of_mem _ (List.mem_append_right _ h))
def f_X7_go_J26 (rec : ((Nat → Nat → Int32)) → Option ((Nat → Nat → Int32))) (S0 : Nat → Nat → Int32)   : Option ((Nat → Nat → Int32)) := zlet (zst S0 15 0 ((S0 15 0) + 1)) fun S0_2 => rec S0_2
set_option maxHeartbeats 4000000 in
set_option maxRecDepth 100000 in
theorem p_X7_go_J26 (C : zC p R s m args meth c cX7_go 2 RX7 wsX7_go D T 2 42 0 0) (S0 : Nat → Nat → Int32)    (hD : va_D A (wX7 T a0 S0)) {rec : ((Nat → Nat → Int32)) → Option ((Nat → Nat → Int32))} (hrec : ∀ (c0 : Nat → Nat → Int32) (b : (Nat → Nat → Int32)), rec c0 = some b → (zt p l e R s m args below meth c 2 A D 0 0 Q (wX7 T a0 b) [(0, .ref (a0 99))] 39 []) → zt p l e R s m args below meth c 2 A D 0 0 Q (wX7 T a0 c0) [(0, .ref (a0 99))] 0 []) {b : (Nat → Nat → Int32)} (K : zt p l e R s m args below meth c 2 A D 0 0 Q (wX7 T a0 b) [(0, .ref (a0 99))] 39 []) (h : f_X7_go_J26 rec S0 = some b) : zt p l e R s m args below meth c 2 A D 0 0 Q (wX7 T a0 S0) [(0, .ref (a0 99))] 26 [] := by
  unfold f_X7_go_J26 at h
  refine z_aload_n C dX7_go_26 rfl 0 rfl 27 rfl ?_
  refine z_dup C dX7_go_27 rfl 28 rfl ?_
  refine z_get C (in_X7_go_X7) 0 rfl rfl 15 (by decide) (List.mem_of_getElem? (i := 1) rfl) rfl rfl dX7_go_28 31 rfl ?_
  refine z_iconst C 1 dX7_go_31 (by decide) 32 rfl ?_
  refine z_iadd C dX7_go_32 33 rfl ?_
  refine z_put (ty := .int) C (fun z => wX7 T a0 z) S0 (hD.zaddr rfl) (in_X7_go_X7) tyX7 tyX7_ok nmX7 0 rfl rfl 15 (by decide) (List.mem_of_getElem? (i := 1) rfl) rfl rfl (by decide +kernel) rfl rfl (Nat.le_of_ble_eq_true rfl) rfl dX7_go_33 36 rfl h (fun S0_2 h => ?_)
  refine z_goto C 0 dX7_go_36 (by decide) ?_
  exact z_locals (ks := [0]) rfl (hrec _ _ h K)

def f_X7_go_L0b   (rec : ((Nat → Nat → Int32)) → Option ((Nat → Nat → Int32))) (a : (Nat → Nat → Int32)) : Option ((Nat → Nat → Int32)) := (f_X7_byteAt a (a 15 0)).bind fun r_1 => if r_1 = 32 then (f_X7_go_J26 rec a) else ((f_X7_byteAt a (a 15 0)).bind fun r_3 => if r_3 = 10 then (f_X7_go_J26 rec a) else (some a))
def f_X7_go_L0   : Nat → ((Nat → Nat → Int32)) → Option ((Nat → Nat → Int32)) := zloop (fun rec a => f_X7_go_L0b  rec a)
set_option maxHeartbeats 4000000 in
set_option maxRecDepth 100000 in
theorem p_X7_go_L0 (C : zC p R s m args meth c cX7_go 2 RX7 wsX7_go D T 2 42 0 0) (S0 : Nat → Nat → Int32)  (hD : va_D A (wX7 T a0 S0)) : ∀ (n : Nat) (c0 : Nat → Nat → Int32) (b : (Nat → Nat → Int32)), f_X7_go_L0  n c0 = some b → (zt p l e R s m args below meth c 2 A D 0 0 Q (wX7 T a0 b) [(0, .ref (a0 99))] 39 []) → zt p l e R s m args below meth c 2 A D 0 0 Q (wX7 T a0 c0) [(0, .ref (a0 99))] 0 [] := by
  intro n c0 b h K
  refine zloop_ind (P := fun a b => (zt p l e R s m args below meth c 2 A D 0 0 Q (wX7 T a0 b) [(0, .ref (a0 99))] 39 []) → zt p l e R s m args below meth c 2 A D 0 0 Q (wX7 T a0 a) [(0, .ref (a0 99))] 0 []) ?_ n c0 b h K
  clear h K b c0
  intro rec hrec a b h K
  have hrec : ∀ (c0 : Nat → Nat → Int32) (b : (Nat → Nat → Int32)), rec c0 = some b → (zt p l e R s m args below meth c 2 A D 0 0 Q (wX7 T a0 b) [(0, .ref (a0 99))] 39 []) → zt p l e R s m args below meth c 2 A D 0 0 Q (wX7 T a0 c0) [(0, .ref (a0 99))] 0 [] := fun c0 b h K => hrec c0 b h K
  unfold f_X7_go_L0b at h
  refine z_aload_n C dX7_go_0 rfl 0 rfl 1 rfl ?_
  refine z_aload_n C dX7_go_1 rfl 0 rfl 2 rfl ?_
  refine z_get C (in_X7_go_X7) 0 rfl rfl 15 (by decide) (List.mem_of_getElem? (i := 1) rfl) rfl rfl dX7_go_2 5 rfl ?_
  refine z_callR C (wX7 T a0 a) (fun v h => c_X7_byteAt l D T a0  a (a 15 0) v h) ⟨rfl, rfl⟩ (z_cwV C 1 gX7_go_X7_byteAt rfl rfl dd_X7_byteAt ⟨(Nat.le_of_ble_eq_true rfl), (Nat.le_of_ble_eq_true rfl)⟩) (hD.zaddr rfl) [0, 1, 2, 3, 4, 5, 6, 7, 8, 9, 10, 11, 12, 13, 14, 15, 16, 17] rfl rfl (fun _ => ⟨a0 99, [.int (a 15 0)], 6, 0, _, _, rfl, rfl, rfl, rfl, rfl⟩) (fun h => absurd rfl h) rfl (Nat.le_of_ble_eq_true rfl) dX7_go_5 8 rfl h (fun r_1 h => ?_)
  refine z_bipush C 32 dX7_go_8 (by decide) 10 rfl ?_
  refine z_icmp_eq C 26 dX7_go_10 (by decide) 13 rfl h (fun h => ?_) (fun h => ?_)
  · exact z_locals (ks := [0]) rfl (p_X7_go_J26 C a (hD.zaddr rfl) hrec K h)
  · refine z_aload_n C dX7_go_13 rfl 0 rfl 14 rfl ?_
    refine z_aload_n C dX7_go_14 rfl 0 rfl 15 rfl ?_
    refine z_get C (in_X7_go_X7) 0 rfl rfl 15 (by decide) (List.mem_of_getElem? (i := 1) rfl) rfl rfl dX7_go_15 18 rfl ?_
    refine z_callR C (wX7 T a0 a) (fun v h => c_X7_byteAt l D T a0  a (a 15 0) v h) ⟨rfl, rfl⟩ (z_cwV C 1 gX7_go_X7_byteAt rfl rfl dd_X7_byteAt ⟨(Nat.le_of_ble_eq_true rfl), (Nat.le_of_ble_eq_true rfl)⟩) (hD.zaddr rfl) [0, 1, 2, 3, 4, 5, 6, 7, 8, 9, 10, 11, 12, 13, 14, 15, 16, 17] rfl rfl (fun _ => ⟨a0 99, [.int (a 15 0)], 6, 0, _, _, rfl, rfl, rfl, rfl, rfl⟩) (fun h => absurd rfl h) rfl (Nat.le_of_ble_eq_true rfl) dX7_go_18 21 rfl h (fun r_3 h => ?_)
    refine z_bipush C 10 dX7_go_21 (by decide) 23 rfl ?_
    refine z_icmp_ne C 39 dX7_go_23 (by decide) 26 rfl h (fun h => ?_) (fun h => ?_)
    · refine z_locals (ks := [0]) (lv' := [(0, .ref (a0 99))]) rfl ?_
      exact zex1 (F := (fun e0 => zt p l e R s m args below meth c 2 A D 0 0 Q (wX7 T a0 e0) [(0, .ref (a0 99))] 39 [])) h K
    · exact z_locals (ks := [0]) rfl (p_X7_go_J26 C a (hD.zaddr rfl) hrec K h)

def f_X7_go_J239 (S0 : Nat → Nat → Int32)  (k1 : Int32) : Option ((Nat → Nat → Int32)) := zlet (zst S0 16 0 k1) fun S0_10 => some S0_10
set_option maxHeartbeats 4000000 in
set_option maxRecDepth 100000 in
theorem p_X7_go_J239 {w0 : va_W} (C : zC p R s m args meth c cX7_go 2 RX7 wsX7_go D T 2 42 0 0) (hr : meth.sig.returnType = none) (S0 : Nat → Nat → Int32)  (k1 : Int32) (hD : va_D (zA w0) (wX7 T a0 S0)) {ex : (Nat → Nat → Int32)} (h : f_X7_go_J239 S0 k1 = some ex) : zt p l e R s m args below meth c 2 (zA w0) D 0 0 (MQ below (zQV D w0 (wX7 T a0 ex)) args s 0 0 (zA w0)) (wX7 T a0 S0) [] 239 [.int k1, .ref (a0 99)] := by
  unfold f_X7_go_J239 at h
  refine z_put (ty := .int) C (fun z => wX7 T a0 z) S0 (hD.zaddr rfl) (in_X7_go_X7) tyX7 tyX7_ok nmX7 0 rfl rfl 16 (by decide) (List.mem_of_getElem? (i := 3) rfl) rfl rfl (by decide +kernel) rfl rfl (Nat.le_of_ble_eq_true rfl) rfl dX7_go_239 242 rfl h (fun S0_10 h => ?_)
  exact z_vretW (x := S0_10) (ex := ex) (fun z => wX7 T a0 z) C hr dX7_go_242 h rfl

def f_X7_go_J176 (rec : ((Nat → Nat → Int32)) → Option ((Nat → Nat → Int32))) (S0 : Nat → Nat → Int32)  (k1 : Int32) : Option ((Nat → Nat → Int32)) := zlet (zst S0 17 0 k1) fun S0_14 => zlet (zst S0_14 15 0 ((S0_14 15 0) + 1)) fun S0_15 => rec S0_15
set_option maxHeartbeats 4000000 in
set_option maxRecDepth 100000 in
theorem p_X7_go_J176 (C : zC p R s m args meth c cX7_go 2 RX7 wsX7_go D T 2 42 0 0) (S0 : Nat → Nat → Int32)   (k1 : Int32) (hD : va_D A (wX7 T a0 S0)) {rec : ((Nat → Nat → Int32)) → Option ((Nat → Nat → Int32))} (hrec : ∀ (c0 : Nat → Nat → Int32) (b : (Nat → Nat → Int32)), rec c0 = some b → (zt p l e R s m args below meth c 2 A D 0 0 Q (wX7 T a0 b) [(0, .ref (a0 99))] 192 []) → zt p l e R s m args below meth c 2 A D 0 0 Q (wX7 T a0 c0) [(0, .ref (a0 99))] 122 []) {b : (Nat → Nat → Int32)} (K : zt p l e R s m args below meth c 2 A D 0 0 Q (wX7 T a0 b) [(0, .ref (a0 99))] 192 []) (h : f_X7_go_J176 rec S0 k1 = some b) : zt p l e R s m args below meth c 2 A D 0 0 Q (wX7 T a0 S0) [(0, .ref (a0 99))] 176 [.int k1, .ref (a0 99)] := by
  unfold f_X7_go_J176 at h
  refine z_put (ty := .int) C (fun z => wX7 T a0 z) S0 (hD.zaddr rfl) (in_X7_go_X7) tyX7 tyX7_ok nmX7 0 rfl rfl 17 (by decide) (List.mem_of_getElem? (i := 4) rfl) rfl rfl (by decide +kernel) rfl rfl (Nat.le_of_ble_eq_true rfl) rfl dX7_go_176 179 rfl h (fun S0_14 h => ?_)
  refine z_aload_n C dX7_go_179 rfl 0 rfl 180 rfl ?_
  refine z_dup C dX7_go_180 rfl 181 rfl ?_
  refine z_get C (in_X7_go_X7) 0 rfl rfl 15 (by decide) (List.mem_of_getElem? (i := 1) rfl) rfl rfl dX7_go_181 184 rfl ?_
  refine z_iconst C 1 dX7_go_184 (by decide) 185 rfl ?_
  refine z_iadd C dX7_go_185 186 rfl ?_
  refine z_put (ty := .int) C (fun z => wX7 T a0 z) S0_14 (hD.zaddr rfl) (in_X7_go_X7) tyX7 tyX7_ok nmX7 0 rfl rfl 15 (by decide) (List.mem_of_getElem? (i := 1) rfl) rfl rfl (by decide +kernel) rfl rfl (Nat.le_of_ble_eq_true rfl) rfl dX7_go_186 189 rfl h (fun S0_15 h => ?_)
  refine z_goto C 122 dX7_go_189 (by decide) ?_
  exact z_locals (ks := [0]) rfl (hrec _ _ h K)

def f_X7_go_L122b   (rec : ((Nat → Nat → Int32)) → Option ((Nat → Nat → Int32))) (a : (Nat → Nat → Int32)) : Option ((Nat → Nat → Int32)) := (f_X7_byteAt a (a 15 0)).bind fun r_12 => (f_X7_isDigit r_12).bind fun r_13 => if r_13 = 0 then (some a) else (if 3 ≤ ((a 15 0) - (a 14 0)) then (f_X7_go_J176 rec a (a 17 0)) else ((f_X7_byteAt a (a 15 0)).bind fun r_16 => f_X7_go_J176 rec a (((10 * (a 17 0)) + r_16) - 48)))
def f_X7_go_L122   : Nat → ((Nat → Nat → Int32)) → Option ((Nat → Nat → Int32)) := zloop (fun rec a => f_X7_go_L122b  rec a)
set_option maxHeartbeats 4000000 in
set_option maxRecDepth 100000 in
theorem p_X7_go_L122 (C : zC p R s m args meth c cX7_go 2 RX7 wsX7_go D T 2 42 0 0) (S0 : Nat → Nat → Int32)  (hD : va_D A (wX7 T a0 S0)) : ∀ (n : Nat) (c0 : Nat → Nat → Int32) (b : (Nat → Nat → Int32)), f_X7_go_L122  n c0 = some b → (zt p l e R s m args below meth c 2 A D 0 0 Q (wX7 T a0 b) [(0, .ref (a0 99))] 192 []) → zt p l e R s m args below meth c 2 A D 0 0 Q (wX7 T a0 c0) [(0, .ref (a0 99))] 122 [] := by
  intro n c0 b h K
  refine zloop_ind (P := fun a b => (zt p l e R s m args below meth c 2 A D 0 0 Q (wX7 T a0 b) [(0, .ref (a0 99))] 192 []) → zt p l e R s m args below meth c 2 A D 0 0 Q (wX7 T a0 a) [(0, .ref (a0 99))] 122 []) ?_ n c0 b h K
  clear h K b c0
  intro rec hrec a b h K
  have hrec : ∀ (c0 : Nat → Nat → Int32) (b : (Nat → Nat → Int32)), rec c0 = some b → (zt p l e R s m args below meth c 2 A D 0 0 Q (wX7 T a0 b) [(0, .ref (a0 99))] 192 []) → zt p l e R s m args below meth c 2 A D 0 0 Q (wX7 T a0 c0) [(0, .ref (a0 99))] 122 [] := fun c0 b h K => hrec c0 b h K
  unfold f_X7_go_L122b at h
  refine z_aload_n C dX7_go_122 rfl 0 rfl 123 rfl ?_
  refine z_aload_n C dX7_go_123 rfl 0 rfl 124 rfl ?_
  refine z_get C (in_X7_go_X7) 0 rfl rfl 15 (by decide) (List.mem_of_getElem? (i := 1) rfl) rfl rfl dX7_go_124 127 rfl ?_
  refine z_callR C (wX7 T a0 a) (fun v h => c_X7_byteAt l D T a0  a (a 15 0) v h) ⟨rfl, rfl⟩ (z_cwV C 1 gX7_go_X7_byteAt rfl rfl dd_X7_byteAt ⟨(Nat.le_of_ble_eq_true rfl), (Nat.le_of_ble_eq_true rfl)⟩) (hD.zaddr rfl) [0, 1, 2, 3, 4, 5, 6, 7, 8, 9, 10, 11, 12, 13, 14, 15, 16, 17] rfl rfl (fun _ => ⟨a0 99, [.int (a 15 0)], 6, 0, _, _, rfl, rfl, rfl, rfl, rfl⟩) (fun h => absurd rfl h) rfl (Nat.le_of_ble_eq_true rfl) dX7_go_127 130 rfl h (fun r_12 h => ?_)
  refine z_callR C ([]) (fun v h => c_X7_isDigit l D T    r_12 v h) ⟨rfl, rfl⟩ (z_cwS C 1 gX7_go_X7_isDigit rfl dd_X7_isDigit ⟨(Nat.le_of_ble_eq_true rfl), (Nat.le_of_ble_eq_true rfl)⟩) (hD.zaddr rfl) [] rfl rfl (fun h => absurd h (by decide)) (fun _ => rfl) rfl (Nat.le_of_ble_eq_true rfl) dX7_go_130 133 rfl h (fun r_13 h => ?_)
  refine z_if_eq C 192 dX7_go_133 (by decide) 136 rfl h (fun h => ?_) (fun h => ?_)
  · refine z_locals (ks := [0]) (lv' := [(0, .ref (a0 99))]) rfl ?_
    exact zex1 (F := (fun e0 => zt p l e R s m args below meth c 2 A D 0 0 Q (wX7 T a0 e0) [(0, .ref (a0 99))] 192 [])) h K
  · refine z_aload_n C dX7_go_136 rfl 0 rfl 137 rfl ?_
    refine z_aload_n C dX7_go_137 rfl 0 rfl 138 rfl ?_
    refine z_get C (in_X7_go_X7) 0 rfl rfl 15 (by decide) (List.mem_of_getElem? (i := 1) rfl) rfl rfl dX7_go_138 141 rfl ?_
    refine z_aload_n C dX7_go_141 rfl 0 rfl 142 rfl ?_
    refine z_get C (in_X7_go_X7) 0 rfl rfl 14 (by decide) (List.mem_of_getElem? (i := 2) rfl) rfl rfl dX7_go_142 145 rfl ?_
    refine z_isub C dX7_go_145 146 rfl ?_
    refine z_iconst C 3 dX7_go_146 (by decide) 147 rfl ?_
    refine z_icmp_ge C 172 dX7_go_147 (by decide) 150 rfl h (fun h => ?_) (fun h => ?_)
    · refine z_aload_n C dX7_go_172 rfl 0 rfl 173 rfl ?_
      refine z_get C (in_X7_go_X7) 0 rfl rfl 17 (by decide) (List.mem_of_getElem? (i := 4) rfl) rfl rfl dX7_go_173 176 rfl ?_
      exact z_locals (ks := [0]) rfl (p_X7_go_J176 C a (a 17 0) (hD.zaddr rfl) hrec K h)
    · refine z_bipush C 10 dX7_go_150 (by decide) 152 rfl ?_
      refine z_aload_n C dX7_go_152 rfl 0 rfl 153 rfl ?_
      refine z_get C (in_X7_go_X7) 0 rfl rfl 17 (by decide) (List.mem_of_getElem? (i := 4) rfl) rfl rfl dX7_go_153 156 rfl ?_
      refine z_imul C dX7_go_156 157 rfl ?_
      refine z_aload_n C dX7_go_157 rfl 0 rfl 158 rfl ?_
      refine z_aload_n C dX7_go_158 rfl 0 rfl 159 rfl ?_
      refine z_get C (in_X7_go_X7) 0 rfl rfl 15 (by decide) (List.mem_of_getElem? (i := 1) rfl) rfl rfl dX7_go_159 162 rfl ?_
      refine z_callR C (wX7 T a0 a) (fun v h => c_X7_byteAt l D T a0  a (a 15 0) v h) ⟨rfl, rfl⟩ (z_cwV C 1 gX7_go_X7_byteAt rfl rfl dd_X7_byteAt ⟨(Nat.le_of_ble_eq_true rfl), (Nat.le_of_ble_eq_true rfl)⟩) (hD.zaddr rfl) [0, 1, 2, 3, 4, 5, 6, 7, 8, 9, 10, 11, 12, 13, 14, 15, 16, 17] rfl rfl (fun _ => ⟨a0 99, [.int (a 15 0)], 6, 0, _, _, rfl, rfl, rfl, rfl, rfl⟩) (fun h => absurd rfl h) rfl (Nat.le_of_ble_eq_true rfl) dX7_go_162 165 rfl h (fun r_16 h => ?_)
      refine z_iadd C dX7_go_165 166 rfl ?_
      refine z_bipush C 48 dX7_go_166 (by decide) 168 rfl ?_
      refine z_isub C dX7_go_168 169 rfl ?_
      refine z_goto C 176 dX7_go_169 (by decide) ?_
      exact z_locals (ks := [0]) rfl (p_X7_go_J176 C a (((10 * (a 17 0)) + r_16) - 48) (hD.zaddr rfl) hrec K h)

def f_X7_go_J211 (S0 : Nat → Nat → Int32)  (k1 : Int32) : Option ((Nat → Nat → Int32)) := zlet (zst S0 16 0 k1) fun S0_18 => some S0_18
set_option maxHeartbeats 4000000 in
set_option maxRecDepth 100000 in
theorem p_X7_go_J211 {w0 : va_W} (C : zC p R s m args meth c cX7_go 2 RX7 wsX7_go D T 2 42 0 0) (hr : meth.sig.returnType = none) (S0 : Nat → Nat → Int32)  (k1 : Int32) (hD : va_D (zA w0) (wX7 T a0 S0)) {ex : (Nat → Nat → Int32)} (h : f_X7_go_J211 S0 k1 = some ex) : zt p l e R s m args below meth c 2 (zA w0) D 0 0 (MQ below (zQV D w0 (wX7 T a0 ex)) args s 0 0 (zA w0)) (wX7 T a0 S0) [] 211 [.int k1, .ref (a0 99)] := by
  unfold f_X7_go_J211 at h
  refine z_put (ty := .int) C (fun z => wX7 T a0 z) S0 (hD.zaddr rfl) (in_X7_go_X7) tyX7 tyX7_ok nmX7 0 rfl rfl 16 (by decide) (List.mem_of_getElem? (i := 3) rfl) rfl rfl (by decide +kernel) rfl rfl (Nat.le_of_ble_eq_true rfl) rfl dX7_go_211 214 rfl h (fun S0_18 h => ?_)
  refine z_goto C 242 dX7_go_214 (by decide) ?_
  exact z_vretW (x := S0_18) (ex := ex) (fun z => wX7 T a0 z) C hr dX7_go_242 h rfl

def f_X7_go_L75b   (rec : ((Nat → Nat → Int32)) → Option ((Nat → Nat → Int32))) (a : (Nat → Nat → Int32)) : Option ((Nat → Nat → Int32)) := (f_X7_byteAt a (a 15 0)).bind fun r_19 => (f_X7_isLetter r_19).bind fun r_20 => if r_20 = 0 then (some a) else (zlet (zst a 15 0 ((a 15 0) + 1)) fun S0_21 => rec S0_21)
def f_X7_go_L75   : Nat → ((Nat → Nat → Int32)) → Option ((Nat → Nat → Int32)) := zloop (fun rec a => f_X7_go_L75b  rec a)
set_option maxHeartbeats 4000000 in
set_option maxRecDepth 100000 in
theorem p_X7_go_L75 (C : zC p R s m args meth c cX7_go 2 RX7 wsX7_go D T 2 42 0 0) (S0 : Nat → Nat → Int32)  (hD : va_D A (wX7 T a0 S0)) : ∀ (n : Nat) (c0 : Nat → Nat → Int32) (b : (Nat → Nat → Int32)), f_X7_go_L75  n c0 = some b → (zt p l e R s m args below meth c 2 A D 0 0 Q (wX7 T a0 b) [(0, .ref (a0 99))] 102 []) → zt p l e R s m args below meth c 2 A D 0 0 Q (wX7 T a0 c0) [(0, .ref (a0 99))] 75 [] := by
  intro n c0 b h K
  refine zloop_ind (P := fun a b => (zt p l e R s m args below meth c 2 A D 0 0 Q (wX7 T a0 b) [(0, .ref (a0 99))] 102 []) → zt p l e R s m args below meth c 2 A D 0 0 Q (wX7 T a0 a) [(0, .ref (a0 99))] 75 []) ?_ n c0 b h K
  clear h K b c0
  intro rec hrec a b h K
  have hrec : ∀ (c0 : Nat → Nat → Int32) (b : (Nat → Nat → Int32)), rec c0 = some b → (zt p l e R s m args below meth c 2 A D 0 0 Q (wX7 T a0 b) [(0, .ref (a0 99))] 102 []) → zt p l e R s m args below meth c 2 A D 0 0 Q (wX7 T a0 c0) [(0, .ref (a0 99))] 75 [] := fun c0 b h K => hrec c0 b h K
  unfold f_X7_go_L75b at h
  refine z_aload_n C dX7_go_75 rfl 0 rfl 76 rfl ?_
  refine z_aload_n C dX7_go_76 rfl 0 rfl 77 rfl ?_
  refine z_get C (in_X7_go_X7) 0 rfl rfl 15 (by decide) (List.mem_of_getElem? (i := 1) rfl) rfl rfl dX7_go_77 80 rfl ?_
  refine z_callR C (wX7 T a0 a) (fun v h => c_X7_byteAt l D T a0  a (a 15 0) v h) ⟨rfl, rfl⟩ (z_cwV C 1 gX7_go_X7_byteAt rfl rfl dd_X7_byteAt ⟨(Nat.le_of_ble_eq_true rfl), (Nat.le_of_ble_eq_true rfl)⟩) (hD.zaddr rfl) [0, 1, 2, 3, 4, 5, 6, 7, 8, 9, 10, 11, 12, 13, 14, 15, 16, 17] rfl rfl (fun _ => ⟨a0 99, [.int (a 15 0)], 6, 0, _, _, rfl, rfl, rfl, rfl, rfl⟩) (fun h => absurd rfl h) rfl (Nat.le_of_ble_eq_true rfl) dX7_go_80 83 rfl h (fun r_19 h => ?_)
  refine z_callR C ([]) (fun v h => c_X7_isLetter l D T    r_19 v h) ⟨rfl, rfl⟩ (z_cwS C 1 gX7_go_X7_isLetter rfl dd_X7_isLetter ⟨(Nat.le_of_ble_eq_true rfl), (Nat.le_of_ble_eq_true rfl)⟩) (hD.zaddr rfl) [] rfl rfl (fun h => absurd h (by decide)) (fun _ => rfl) rfl (Nat.le_of_ble_eq_true rfl) dX7_go_83 86 rfl h (fun r_20 h => ?_)
  refine z_if_eq C 102 dX7_go_86 (by decide) 89 rfl h (fun h => ?_) (fun h => ?_)
  · refine z_locals (ks := [0]) (lv' := [(0, .ref (a0 99))]) rfl ?_
    exact zex1 (F := (fun e0 => zt p l e R s m args below meth c 2 A D 0 0 Q (wX7 T a0 e0) [(0, .ref (a0 99))] 102 [])) h K
  · refine z_aload_n C dX7_go_89 rfl 0 rfl 90 rfl ?_
    refine z_dup C dX7_go_90 rfl 91 rfl ?_
    refine z_get C (in_X7_go_X7) 0 rfl rfl 15 (by decide) (List.mem_of_getElem? (i := 1) rfl) rfl rfl dX7_go_91 94 rfl ?_
    refine z_iconst C 1 dX7_go_94 (by decide) 95 rfl ?_
    refine z_iadd C dX7_go_95 96 rfl ?_
    refine z_put (ty := .int) C (fun z => wX7 T a0 z) a (hD.zaddr rfl) (in_X7_go_X7) tyX7 tyX7_ok nmX7 0 rfl rfl 15 (by decide) (List.mem_of_getElem? (i := 1) rfl) rfl rfl (by decide +kernel) rfl rfl (Nat.le_of_ble_eq_true rfl) rfl dX7_go_96 99 rfl h (fun S0_21 h => ?_)
    refine z_goto C 75 dX7_go_99 (by decide) ?_
    exact z_locals (ks := [0]) rfl (hrec _ _ h K)

def f_X7_go (S0 : Nat → Nat → Int32)  : Option ((Nat → Nat → Int32)) := (f_X7_go_L0  zfuel S0).bind fun y_4 => zlet (zst y_4 14 0 (y_4 15 0)) fun S0_5 => (f_X7_byteAt S0_5 (S0_5 15 0)).bind fun r_6 => if 0 ≤ r_6 then ((f_X7_isLetter r_6).bind fun r_7 => if r_7 = 0 then ((f_X7_isDigit r_6).bind fun r_8 => if r_8 = 0 then (zlet (zst S0_5 15 0 ((S0_5 15 0) + 1)) fun S0_9 => if r_6 = 59 then (f_X7_go_J239 S0_9 3) else (f_X7_go_J239 S0_9 4)) else (zlet (zst S0_5 17 0 0) fun S0_11 => (f_X7_go_L122  zfuel S0_11).bind fun y_17 => if 4 ≤ ((y_17 15 0) - (y_17 14 0)) then (f_X7_go_J211 y_17 4) else (f_X7_go_J211 y_17 2))) else ((f_X7_go_L75  zfuel S0_5).bind fun y_22 => zlet (zst y_22 16 0 1) fun S0_23 => some S0_23)) else (zlet (zst S0_5 16 0 0) fun S0_24 => some S0_24)
theorem dd_X7_go : RX7 ≠ "java/lang/invoke/MethodHandle" ∧ RX7 ≠ "java/lang/invoke/VarHandle" ∧ (parseMethodDescriptor yX7_go.desc).map (fun d => d.parameters.length) = some 0 := by decide +kernel
set_option maxHeartbeats 4000000 in
set_option maxRecDepth 100000 in
theorem c_X7_go (l : Launch) (D : va_G) (T : Nat → ClassId) (a0 : Nat → Nat) (S0 : Nat → Nat → Int32)  (ex : (Nat → Nat → Int32)) (h : f_X7_go S0 = some ex) : zWV l yX7_go wsX7_go ({ frames := 2, cells := 0, slots := 0, locals := 42 } : Room) D T [.ref (a0 99)] (wX7 T a0 S0) (wX7 T a0 ex) := by
  refine z_begin (cc := cX7_go) (nL := 2) (own := RX7) (fr := 2) (lc := 42) (ret := none) (by decide) rfl (Nat.le_of_ble_eq_true rfl) (zA (wX7 T a0 S0)) rfl [(0, .ref (a0 99))] rfl ⟨rfl, rfl⟩ rfl ?_
  intro p e s m args below meth c C hr hD
  have hD := hD.zself
  unfold f_X7_go at h
  obtain ⟨y_4, hl_y_4, h⟩ := Option.bind_eq_some_iff.mp h
  refine z_locals (ks := [0]) rfl (p_X7_go_L0 C S0  (hD.zaddr rfl) _ _ _ hl_y_4 ?_)
  refine z_aload_n C dX7_go_39 rfl 0 rfl 40 rfl ?_
  refine z_aload_n C dX7_go_40 rfl 0 rfl 41 rfl ?_
  refine z_get C (in_X7_go_X7) 0 rfl rfl 15 (by decide) (List.mem_of_getElem? (i := 1) rfl) rfl rfl dX7_go_41 44 rfl ?_
  refine z_put (ty := .int) C (fun z => wX7 T a0 z) y_4 (hD.zaddr rfl) (in_X7_go_X7) tyX7 tyX7_ok nmX7 0 rfl rfl 14 (by decide) (List.mem_of_getElem? (i := 2) rfl) rfl rfl (by decide +kernel) rfl rfl (Nat.le_of_ble_eq_true rfl) rfl dX7_go_44 47 rfl h (fun S0_5 h => ?_)
  refine z_aload_n C dX7_go_47 rfl 0 rfl 48 rfl ?_
  refine z_aload_n C dX7_go_48 rfl 0 rfl 49 rfl ?_
  refine z_get C (in_X7_go_X7) 0 rfl rfl 15 (by decide) (List.mem_of_getElem? (i := 1) rfl) rfl rfl dX7_go_49 52 rfl ?_
  refine z_callR C (wX7 T a0 S0_5) (fun v h => c_X7_byteAt l D T a0  S0_5 (S0_5 15 0) v h) ⟨rfl, rfl⟩ (z_cwV C 1 gX7_go_X7_byteAt rfl rfl dd_X7_byteAt ⟨(Nat.le_of_ble_eq_true rfl), (Nat.le_of_ble_eq_true rfl)⟩) (hD.zaddr rfl) [0, 1, 2, 3, 4, 5, 6, 7, 8, 9, 10, 11, 12, 13, 14, 15, 16, 17] rfl rfl (fun _ => ⟨a0 99, [.int (S0_5 15 0)], 6, 0, _, _, rfl, rfl, rfl, rfl, rfl⟩) (fun h => absurd rfl h) rfl (Nat.le_of_ble_eq_true rfl) dX7_go_52 55 rfl h (fun r_6 h => ?_)
  refine z_istore_n C [(0, .ref (a0 99)), (1, .int r_6)] dX7_go_55 rfl (Nat.le_of_ble_eq_true rfl) [1, 0] rfl 56 rfl ?_
  refine z_iload_n C dX7_go_56 rfl 1 rfl 57 rfl ?_
  refine z_if_ge C 68 dX7_go_57 (by decide) 60 rfl h (fun h => ?_) (fun h => ?_)
  · refine z_iload_n C dX7_go_68 rfl 1 rfl 69 rfl ?_
    refine z_callR C ([]) (fun v h => c_X7_isLetter l D T    r_6 v h) ⟨rfl, rfl⟩ (z_cwS C 1 gX7_go_X7_isLetter rfl dd_X7_isLetter ⟨(Nat.le_of_ble_eq_true rfl), (Nat.le_of_ble_eq_true rfl)⟩) (hD.zaddr rfl) [] rfl rfl (fun h => absurd h (by decide)) (fun _ => rfl) rfl (Nat.le_of_ble_eq_true rfl) dX7_go_69 72 rfl h (fun r_7 h => ?_)
    refine z_if_eq C 110 dX7_go_72 (by decide) 75 rfl h (fun h => ?_) (fun h => ?_)
    · refine z_iload_n C dX7_go_110 rfl 1 rfl 111 rfl ?_
      refine z_callR C ([]) (fun v h => c_X7_isDigit l D T    r_6 v h) ⟨rfl, rfl⟩ (z_cwS C 1 gX7_go_X7_isDigit rfl dd_X7_isDigit ⟨(Nat.le_of_ble_eq_true rfl), (Nat.le_of_ble_eq_true rfl)⟩) (hD.zaddr rfl) [] rfl rfl (fun h => absurd h (by decide)) (fun _ => rfl) rfl (Nat.le_of_ble_eq_true rfl) dX7_go_111 114 rfl h (fun r_8 h => ?_)
      refine z_if_eq C 217 dX7_go_114 (by decide) 117 rfl h (fun h => ?_) (fun h => ?_)
      · refine z_aload_n C dX7_go_217 rfl 0 rfl 218 rfl ?_
        refine z_dup C dX7_go_218 rfl 219 rfl ?_
        refine z_get C (in_X7_go_X7) 0 rfl rfl 15 (by decide) (List.mem_of_getElem? (i := 1) rfl) rfl rfl dX7_go_219 222 rfl ?_
        refine z_iconst C 1 dX7_go_222 (by decide) 223 rfl ?_
        refine z_iadd C dX7_go_223 224 rfl ?_
        refine z_put (ty := .int) C (fun z => wX7 T a0 z) S0_5 (hD.zaddr rfl) (in_X7_go_X7) tyX7 tyX7_ok nmX7 0 rfl rfl 15 (by decide) (List.mem_of_getElem? (i := 1) rfl) rfl rfl (by decide +kernel) rfl rfl (Nat.le_of_ble_eq_true rfl) rfl dX7_go_224 227 rfl h (fun S0_9 h => ?_)
        refine z_aload_n C dX7_go_227 rfl 0 rfl 228 rfl ?_
        refine z_iload_n C dX7_go_228 rfl 1 rfl 229 rfl ?_
        refine z_bipush C 59 dX7_go_229 (by decide) 231 rfl ?_
        refine z_icmp_ne C 238 dX7_go_231 (by decide) 234 rfl h (fun h => ?_) (fun h => ?_)
        · refine z_iconst C 4 dX7_go_238 (by decide) 239 rfl ?_
          exact z_locals (ks := []) rfl (p_X7_go_J239 C hr S0_9 4 (hD.zaddr rfl) h)
        · refine z_iconst C 3 dX7_go_234 (by decide) 235 rfl ?_
          refine z_goto C 239 dX7_go_235 (by decide) ?_
          exact z_locals (ks := []) rfl (p_X7_go_J239 C hr S0_9 3 (hD.zaddr rfl) h)
      · refine z_aload_n C dX7_go_117 rfl 0 rfl 118 rfl ?_
        refine z_iconst C 0 dX7_go_118 (by decide) 119 rfl ?_
        refine z_put (ty := .int) C (fun z => wX7 T a0 z) S0_5 (hD.zaddr rfl) (in_X7_go_X7) tyX7 tyX7_ok nmX7 0 rfl rfl 17 (by decide) (List.mem_of_getElem? (i := 4) rfl) rfl rfl (by decide +kernel) rfl rfl (Nat.le_of_ble_eq_true rfl) rfl dX7_go_119 122 rfl h (fun S0_11 h => ?_)
        obtain ⟨y_17, hl_y_17, h⟩ := Option.bind_eq_some_iff.mp h
        refine z_locals (ks := [0]) rfl (p_X7_go_L122 C S0_11  (hD.zaddr rfl) _ _ _ hl_y_17 ?_)
        refine z_aload_n C dX7_go_192 rfl 0 rfl 193 rfl ?_
        refine z_aload_n C dX7_go_193 rfl 0 rfl 194 rfl ?_
        refine z_get C (in_X7_go_X7) 0 rfl rfl 15 (by decide) (List.mem_of_getElem? (i := 1) rfl) rfl rfl dX7_go_194 197 rfl ?_
        refine z_aload_n C dX7_go_197 rfl 0 rfl 198 rfl ?_
        refine z_get C (in_X7_go_X7) 0 rfl rfl 14 (by decide) (List.mem_of_getElem? (i := 2) rfl) rfl rfl dX7_go_198 201 rfl ?_
        refine z_isub C dX7_go_201 202 rfl ?_
        refine z_iconst C 4 dX7_go_202 (by decide) 203 rfl ?_
        refine z_icmp_ge C 210 dX7_go_203 (by decide) 206 rfl h (fun h => ?_) (fun h => ?_)
        · refine z_iconst C 4 dX7_go_210 (by decide) 211 rfl ?_
          exact z_locals (ks := []) rfl (p_X7_go_J211 C hr y_17 4 (hD.zaddr rfl) h)
        · refine z_iconst C 2 dX7_go_206 (by decide) 207 rfl ?_
          refine z_goto C 211 dX7_go_207 (by decide) ?_
          exact z_locals (ks := []) rfl (p_X7_go_J211 C hr y_17 2 (hD.zaddr rfl) h)
    · obtain ⟨y_22, hl_y_22, h⟩ := Option.bind_eq_some_iff.mp h
      refine z_locals (ks := [0]) rfl (p_X7_go_L75 C S0_5  (hD.zaddr rfl) _ _ _ hl_y_22 ?_)
      refine z_aload_n C dX7_go_102 rfl 0 rfl 103 rfl ?_
      refine z_iconst C 1 dX7_go_103 (by decide) 104 rfl ?_
      refine z_put (ty := .int) C (fun z => wX7 T a0 z) y_22 (hD.zaddr rfl) (in_X7_go_X7) tyX7 tyX7_ok nmX7 0 rfl rfl 16 (by decide) (List.mem_of_getElem? (i := 3) rfl) rfl rfl (by decide +kernel) rfl rfl (Nat.le_of_ble_eq_true rfl) rfl dX7_go_104 107 rfl h (fun S0_23 h => ?_)
      refine z_goto C 242 dX7_go_107 (by decide) ?_
      exact z_vretW (x := S0_23) (ex := ex) (fun z => wX7 T a0 z) C hr dX7_go_242 h rfl
  · refine z_aload_n C dX7_go_60 rfl 0 rfl 61 rfl ?_
    refine z_iconst C 0 dX7_go_61 (by decide) 62 rfl ?_
    refine z_put (ty := .int) C (fun z => wX7 T a0 z) S0_5 (hD.zaddr rfl) (in_X7_go_X7) tyX7 tyX7_ok nmX7 0 rfl rfl 16 (by decide) (List.mem_of_getElem? (i := 3) rfl) rfl rfl (by decide +kernel) rfl rfl (Nat.le_of_ble_eq_true rfl) rfl dX7_go_62 65 rfl h (fun S0_24 h => ?_)
    refine z_goto C 242 dX7_go_65 (by decide) ?_
    exact z_vretW (x := S0_24) (ex := ex) (fun z => wX7 T a0 z) C hr dX7_go_242 h rfl

end
/-! StreamTreeModel.bad (II)Z -/
section
variable {p : Program} {l : Launch} {e : Env} {R : Room} {s : State} {m : MethodId} {args : Array Value} {below : List Frame} {meth : Method} {c : Code} {Q : State → Prop} {A : Nat → Prop} {D : va_G} {T : Nat → ClassId} {a0 : Nat → Nat}
theorem in_X7_bad_X7 : ∀ w ∈ u_ws RX7 TX7 35, w ∈ wsX7_bad := fun _ h => (List.mem_cons_of_mem _ (List.mem_append_right _ h))
def f_X7_bad_J21 (S0 : Nat → Nat → Int32)  (k1 : Int32) : Option (Int32 × (Nat → Nat → Int32)) := zlet (zst S0 18 0 k1) fun S0_1 => some (0, S0_1)
set_option maxHeartbeats 4000000 in
set_option maxRecDepth 100000 in
theorem p_X7_bad_J21 {w0 : va_W} (C : zC p R s m args meth c cX7_bad 3 RX7 wsX7_bad D T 0 0 0 0) (hr : meth.sig.returnType = some .boolean) (S0 : Nat → Nat → Int32)  (k1 : Int32) (hD : va_D (zA w0) (wX7 T a0 S0)) {ex : Int32 × (Nat → Nat → Int32)} (h : f_X7_bad_J21 S0 k1 = some ex) : zt p l e R s m args below meth c 3 (zA w0) D 0 0 (MQ below (zQJ D w0 ex.1 (wX7 T a0 ex.2)) args s 0 0 (zA w0)) (wX7 T a0 S0) [] 21 [.int k1, .ref (a0 99)] := by
  unfold f_X7_bad_J21 at h
  refine z_put (ty := .int) C (fun z => wX7 T a0 z) S0 (hD.zaddr rfl) (in_X7_bad_X7) tyX7 tyX7_ok nmX7 0 rfl rfl 18 (by decide) (List.mem_of_getElem? (i := 1) rfl) rfl rfl (by decide +kernel) rfl rfl (Nat.le_of_ble_eq_true rfl) rfl dX7_bad_21 24 rfl h (fun S0_1 h => ?_)
  refine z_iconst C 0 dX7_bad_24 (by decide) 25 rfl ?_
  exact z_zretWc (x := S0_1) (ex := ex) (fun z => wX7 T a0 z) C hr dX7_bad_25 (Or.inl rfl) h rfl

def f_X7_bad (S0 : Nat → Nat → Int32) (v1 : Int32) (v2 : Int32) : Option (Int32 × (Nat → Nat → Int32)) := if (S0 18 0) = 0 then (f_X7_bad_J21 S0 ((8 * v2) + v1)) else (f_X7_bad_J21 S0 (S0 18 0))
theorem dd_X7_bad : RX7 ≠ "java/lang/invoke/MethodHandle" ∧ RX7 ≠ "java/lang/invoke/VarHandle" ∧ (parseMethodDescriptor yX7_bad.desc).map (fun d => d.parameters.length) = some 2 := by decide +kernel
set_option maxHeartbeats 4000000 in
set_option maxRecDepth 100000 in
theorem c_X7_bad (l : Launch) (D : va_G) (T : Nat → ClassId) (a0 : Nat → Nat) (S0 : Nat → Nat → Int32) (v1 : Int32) (v2 : Int32) (ex : Int32 × (Nat → Nat → Int32)) (h : f_X7_bad S0 v1 v2 = some ex) : zWI l yX7_bad wsX7_bad ({ frames := 0, cells := 0, slots := 0, locals := 0 } : Room) D T [.ref (a0 99), .int v1, .int v2] (wX7 T a0 S0) ex.1 (wX7 T a0 ex.2) := by
  refine z_begin (cc := cX7_bad) (nL := 3) (own := RX7) (fr := 0) (lc := 0) (ret := some .boolean) (by decide) rfl (Nat.le_of_ble_eq_true rfl) (zA (wX7 T a0 S0)) rfl [(0, .ref (a0 99)), (1, .int v1), (2, .int v2)] rfl ⟨rfl, rfl⟩ rfl ?_
  intro p e s m args below meth c C hr hD
  have hD := hD.zself
  unfold f_X7_bad at h
  refine z_aload_n C dX7_bad_0 rfl 0 rfl 1 rfl ?_
  refine z_aload_n C dX7_bad_1 rfl 0 rfl 2 rfl ?_
  refine z_get C (in_X7_bad_X7) 0 rfl rfl 18 (by decide) (List.mem_of_getElem? (i := 1) rfl) rfl rfl dX7_bad_2 5 rfl ?_
  refine z_if_ne C 17 dX7_bad_5 (by decide) 8 rfl h (fun h => ?_) (fun h => ?_)
  · refine z_aload_n C dX7_bad_17 rfl 0 rfl 18 rfl ?_
    refine z_get C (in_X7_bad_X7) 0 rfl rfl 18 (by decide) (List.mem_of_getElem? (i := 1) rfl) rfl rfl dX7_bad_18 21 rfl ?_
    exact z_locals (ks := []) rfl (p_X7_bad_J21 C hr S0 (S0 18 0) (hD.zaddr rfl) h)
  · refine z_bipush C 8 dX7_bad_8 (by decide) 10 rfl ?_
    refine z_iload_n C dX7_bad_10 rfl 2 rfl 11 rfl ?_
    refine z_imul C dX7_bad_11 12 rfl ?_
    refine z_iload_n C dX7_bad_12 rfl 1 rfl 13 rfl ?_
    refine z_iadd C dX7_bad_13 14 rfl ?_
    refine z_goto C 21 dX7_bad_14 (by decide) ?_
    exact z_locals (ks := []) rfl (p_X7_bad_J21 C hr S0 ((8 * v2) + v1) (hD.zaddr rfl) h)

end
/-! StreamTreeModel.isNumber (II)Z -/
section
variable {p : Program} {l : Launch} {e : Env} {R : Room} {s : State} {m : MethodId} {args : Array Value} {below : List Frame} {meth : Method} {c : Code} {Q : State → Prop} {A : Nat → Prop} {D : va_G} {T : Nat → ClassId} {a0 : Nat → Nat}
theorem in_X7_isNumber_X7 : ∀ w ∈ u_ws RX7 TX7 35, w ∈ wsX7_isNumber := fun _ h => (List.mem_cons_of_mem _ (List.mem_append_right _ h))
def f_X7_isNumber (S0 : Nat → Nat → Int32) (v1 : Int32) (v2 : Int32) : Option (Int32 × (Nat → Nat → Int32)) := if (S0 16 0) = 2 then (zlet (zst S0 25 0 (S0 17 0)) fun S0_1 => (f_X7_within (S0_1 17 0) v1 v2).bind fun r_2 => if r_2 = 0 then ((f_X7_bad S0_1 2 (S0_1 14 0)).bind fun r_3 => if r_3.1 = 0 then (some (0, r_3.2)) else (some (1, r_3.2))) else (some (1, S0_1))) else ((f_X7_bad S0 1 (S0 14 0)).bind fun r_4 => zbo r_4.1 (some (r_4.1, r_4.2)))
theorem dd_X7_isNumber : RX7 ≠ "java/lang/invoke/MethodHandle" ∧ RX7 ≠ "java/lang/invoke/VarHandle" ∧ (parseMethodDescriptor yX7_isNumber.desc).map (fun d => d.parameters.length) = some 2 := by decide +kernel
set_option maxHeartbeats 4000000 in
set_option maxRecDepth 100000 in
theorem c_X7_isNumber (l : Launch) (D : va_G) (T : Nat → ClassId) (a0 : Nat → Nat) (S0 : Nat → Nat → Int32) (v1 : Int32) (v2 : Int32) (ex : Int32 × (Nat → Nat → Int32)) (h : f_X7_isNumber S0 v1 v2 = some ex) : zWI l yX7_isNumber wsX7_isNumber ({ frames := 1, cells := 0, slots := 0, locals := 22 } : Room) D T [.ref (a0 99), .int v1, .int v2] (wX7 T a0 S0) ex.1 (wX7 T a0 ex.2) := by
  refine z_begin (cc := cX7_isNumber) (nL := 3) (own := RX7) (fr := 1) (lc := 22) (ret := some .boolean) (by decide) rfl (Nat.le_of_ble_eq_true rfl) (zA (wX7 T a0 S0)) rfl [(0, .ref (a0 99)), (1, .int v1), (2, .int v2)] rfl ⟨rfl, rfl⟩ rfl ?_
  intro p e s m args below meth c C hr hD
  have hD := hD.zself
  unfold f_X7_isNumber at h
  refine z_aload_n C dX7_isNumber_0 rfl 0 rfl 1 rfl ?_
  refine z_get C (in_X7_isNumber_X7) 0 rfl rfl 16 (by decide) (List.mem_of_getElem? (i := 1) rfl) rfl rfl dX7_isNumber_1 4 rfl ?_
  refine z_iconst C 2 dX7_isNumber_4 (by decide) 5 rfl ?_
  refine z_icmp_eq C 18 dX7_isNumber_5 (by decide) 8 rfl h (fun h => ?_) (fun h => ?_)
  · refine z_aload_n C dX7_isNumber_18 rfl 0 rfl 19 rfl ?_
    refine z_aload_n C dX7_isNumber_19 rfl 0 rfl 20 rfl ?_
    refine z_get C (in_X7_isNumber_X7) 0 rfl rfl 17 (by decide) (List.mem_of_getElem? (i := 3) rfl) rfl rfl dX7_isNumber_20 23 rfl ?_
    refine z_put (ty := .int) C (fun z => wX7 T a0 z) S0 (hD.zaddr rfl) (in_X7_isNumber_X7) tyX7 tyX7_ok nmX7 0 rfl rfl 25 (by decide) (List.mem_of_getElem? (i := 4) rfl) rfl rfl (by decide +kernel) rfl rfl (Nat.le_of_ble_eq_true rfl) rfl dX7_isNumber_23 26 rfl h (fun S0_1 h => ?_)
    refine z_aload_n C dX7_isNumber_26 rfl 0 rfl 27 rfl ?_
    refine z_get C (in_X7_isNumber_X7) 0 rfl rfl 17 (by decide) (List.mem_of_getElem? (i := 3) rfl) rfl rfl dX7_isNumber_27 30 rfl ?_
    refine z_iload_n C dX7_isNumber_30 rfl 1 rfl 31 rfl ?_
    refine z_iload_n C dX7_isNumber_31 rfl 2 rfl 32 rfl ?_
    refine z_callR C ([]) (fun v h => c_X7_within l D T    (S0_1 17 0) v1 v2 v h) ⟨rfl, rfl⟩ (z_cwS C 3 gX7_isNumber_X7_within rfl dd_X7_within ⟨(Nat.le_of_ble_eq_true rfl), (Nat.le_of_ble_eq_true rfl)⟩) (hD.zaddr rfl) [] rfl rfl (fun h => absurd h (by decide)) (fun _ => rfl) rfl (Nat.le_of_ble_eq_true rfl) dX7_isNumber_32 35 rfl h (fun r_2 h => ?_)
    refine z_if_ne C 50 dX7_isNumber_35 (by decide) 38 rfl h (fun h => ?_) (fun h => ?_)
    · refine z_iconst C 1 dX7_isNumber_50 (by decide) 51 rfl ?_
      refine z_goto C 55 dX7_isNumber_51 (by decide) ?_
      exact z_zretWc (x := S0_1) (ex := ex) (fun z => wX7 T a0 z) C hr dX7_isNumber_55 (Or.inr rfl) h rfl
    · refine z_aload_n C dX7_isNumber_38 rfl 0 rfl 39 rfl ?_
      refine z_iconst C 2 dX7_isNumber_39 (by decide) 40 rfl ?_
      refine z_aload_n C dX7_isNumber_40 rfl 0 rfl 41 rfl ?_
      refine z_get C (in_X7_isNumber_X7) 0 rfl rfl 14 (by decide) (List.mem_of_getElem? (i := 2) rfl) rfl rfl dX7_isNumber_41 44 rfl ?_
      refine z_callW C (wX7 T a0 S0_1) (([] : va_W)) (fun z => z.1) (fun z => wX7 T a0 z.2) (fun z => wX7 T a0 z.2) (fun z h => c_X7_bad l D T a0  S0_1 2 (S0_1 14 0) z h) ⟨rfl, rfl⟩ (z_cwV C 2 gX7_isNumber_X7_bad rfl rfl dd_X7_bad ⟨(Nat.le_of_ble_eq_true rfl), (Nat.le_of_ble_eq_true rfl)⟩) (hD.zaddr rfl) [0, 1, 2, 3, 4, 5, 6, 7, 8, 9, 10, 11, 12, 13, 14, 15, 16, 17] [] [0, 1, 2, 3, 4, 5, 6, 7, 8, 9, 10, 11, 12, 13, 14, 15, 16, 17] rfl rfl rfl (by decide) (fun _ => rfl) (fun _ => ⟨a0 99, [.int 2, .int (S0_1 14 0)], 6, 0, _, _, rfl, rfl, rfl, rfl, rfl⟩) (fun h => absurd rfl h) rfl (Nat.le_of_ble_eq_true rfl) dX7_isNumber_44 47 rfl h (fun r_3 h => ?_)
      refine z_if_eq C 54 dX7_isNumber_47 (by decide) 50 rfl h (fun h => ?_) (fun h => ?_)
      · refine z_iconst C 0 dX7_isNumber_54 (by decide) 55 rfl ?_
        exact z_zretWc (x := r_3.2) (ex := ex) (fun z => wX7 T a0 z) C hr dX7_isNumber_55 (Or.inl rfl) h rfl
      · refine z_iconst C 1 dX7_isNumber_50 (by decide) 51 rfl ?_
        refine z_goto C 55 dX7_isNumber_51 (by decide) ?_
        exact z_zretWc (x := r_3.2) (ex := ex) (fun z => wX7 T a0 z) C hr dX7_isNumber_55 (Or.inr rfl) h rfl
  · refine z_aload_n C dX7_isNumber_8 rfl 0 rfl 9 rfl ?_
    refine z_iconst C 1 dX7_isNumber_9 (by decide) 10 rfl ?_
    refine z_aload_n C dX7_isNumber_10 rfl 0 rfl 11 rfl ?_
    refine z_get C (in_X7_isNumber_X7) 0 rfl rfl 14 (by decide) (List.mem_of_getElem? (i := 2) rfl) rfl rfl dX7_isNumber_11 14 rfl ?_
    refine z_callW C (wX7 T a0 S0) (([] : va_W)) (fun z => z.1) (fun z => wX7 T a0 z.2) (fun z => wX7 T a0 z.2) (fun z h => c_X7_bad l D T a0  S0 1 (S0 14 0) z h) ⟨rfl, rfl⟩ (z_cwV C 2 gX7_isNumber_X7_bad rfl rfl dd_X7_bad ⟨(Nat.le_of_ble_eq_true rfl), (Nat.le_of_ble_eq_true rfl)⟩) (hD.zaddr rfl) [0, 1, 2, 3, 4, 5, 6, 7, 8, 9, 10, 11, 12, 13, 14, 15, 16, 17] [] [0, 1, 2, 3, 4, 5, 6, 7, 8, 9, 10, 11, 12, 13, 14, 15, 16, 17] rfl rfl rfl (by decide) (fun _ => rfl) (fun _ => ⟨a0 99, [.int 1, .int (S0 14 0)], 6, 0, _, _, rfl, rfl, rfl, rfl, rfl⟩) (fun h => absurd rfl h) rfl (Nat.le_of_ble_eq_true rfl) dX7_isNumber_14 17 rfl h (fun r_4 h => ?_)
    exact z_zretW (x := r_4.2) (ex := ex) (fun z => wX7 T a0 z) C hr dX7_isNumber_17 h rfl

end
/-! StreamTreeModel.number (II)Z -/
section
variable {p : Program} {l : Launch} {e : Env} {R : Room} {s : State} {m : MethodId} {args : Array Value} {below : List Frame} {meth : Method} {c : Code} {Q : State → Prop} {A : Nat → Prop} {D : va_G} {T : Nat → ClassId} {a0 : Nat → Nat}
def f_X7_number (S0 : Nat → Nat → Int32) (v1 : Int32) (v2 : Int32) : Option (Int32 × (Nat → Nat → Int32)) := (f_X7_isNumber S0 v1 v2).bind fun r_1 => if r_1.1 = 0 then (zbo r_1.1 (some (r_1.1, r_1.2))) else ((f_X7_go r_1.2).bind fun r_2 => zbo r_1.1 (some (r_1.1, r_2)))
theorem dd_X7_number : RX7 ≠ "java/lang/invoke/MethodHandle" ∧ RX7 ≠ "java/lang/invoke/VarHandle" ∧ (parseMethodDescriptor yX7_number.desc).map (fun d => d.parameters.length) = some 2 := by decide +kernel
set_option maxHeartbeats 4000000 in
set_option maxRecDepth 100000 in
theorem c_X7_number (l : Launch) (D : va_G) (T : Nat → ClassId) (a0 : Nat → Nat) (S0 : Nat → Nat → Int32) (v1 : Int32) (v2 : Int32) (ex : Int32 × (Nat → Nat → Int32)) (h : f_X7_number S0 v1 v2 = some ex) : zWI l yX7_number wsX7_number ({ frames := 3, cells := 0, slots := 0, locals := 63 } : Room) D T [.ref (a0 99), .int v1, .int v2] (wX7 T a0 S0) ex.1 (wX7 T a0 ex.2) := by
  refine z_begin (cc := cX7_number) (nL := 4) (own := RX7) (fr := 3) (lc := 63) (ret := some .boolean) (by decide) rfl (Nat.le_of_ble_eq_true rfl) (zA (wX7 T a0 S0)) rfl [(0, .ref (a0 99)), (1, .int v1), (2, .int v2)] rfl ⟨rfl, rfl⟩ rfl ?_
  intro p e s m args below meth c C hr hD
  have hD := hD.zself
  unfold f_X7_number at h
  refine z_aload_n C dX7_number_0 rfl 0 rfl 1 rfl ?_
  refine z_iload_n C dX7_number_1 rfl 1 rfl 2 rfl ?_
  refine z_iload_n C dX7_number_2 rfl 2 rfl 3 rfl ?_
  refine z_callW C (wX7 T a0 S0) (([] : va_W)) (fun z => z.1) (fun z => wX7 T a0 z.2) (fun z => wX7 T a0 z.2) (fun z h => c_X7_isNumber l D T a0  S0 v1 v2 z h) ⟨rfl, rfl⟩ (z_cwV C 2 gX7_number_X7_isNumber rfl rfl dd_X7_isNumber ⟨(Nat.le_of_ble_eq_true rfl), (Nat.le_of_ble_eq_true rfl)⟩) (hD.zaddr rfl) [0, 1, 2, 3, 4, 5, 6, 7, 8, 9, 10, 11, 12, 13, 14, 15, 16, 17] [] [0, 1, 2, 3, 4, 5, 6, 7, 8, 9, 10, 11, 12, 13, 14, 15, 16, 17] rfl rfl rfl (by decide) (fun _ => rfl) (fun _ => ⟨a0 99, [.int v1, .int v2], 6, 0, _, _, rfl, rfl, rfl, rfl, rfl⟩) (fun h => absurd rfl h) rfl (Nat.le_of_ble_eq_true rfl) dX7_number_3 6 rfl h (fun r_1 h => ?_)
  refine z_istore_n C [(0, .ref (a0 99)), (1, .int v1), (2, .int v2), (3, .int r_1.1)] dX7_number_6 rfl (Nat.le_of_ble_eq_true rfl) [1, 2, 3, 0] rfl 7 rfl ?_
  refine z_iload_n C dX7_number_7 rfl 3 rfl 8 rfl ?_
  refine z_if_eq C 15 dX7_number_8 (by decide) 11 rfl h (fun h => ?_) (fun h => ?_)
  · refine z_iload_n C dX7_number_15 rfl 3 rfl 16 rfl ?_
    exact z_zretW (x := r_1.2) (ex := ex) (fun z => wX7 T a0 z) C hr dX7_number_16 h rfl
  · refine z_aload_n C dX7_number_11 rfl 0 rfl 12 rfl ?_
    refine z_callV C (wX7 T a0 r_1.2) (([] : va_W)) (fun z => wX7 T a0 z) (fun z => wX7 T a0 z) (fun z h => c_X7_go l D T a0  r_1.2  z h) ⟨rfl, rfl⟩ (z_cwV C 0 gX7_number_X7_go rfl rfl dd_X7_go ⟨(Nat.le_of_ble_eq_true rfl), (Nat.le_of_ble_eq_true rfl)⟩) (hD.zaddr rfl) [0, 1, 2, 3, 4, 5, 6, 7, 8, 9, 10, 11, 12, 13, 14, 15, 16, 17] [] [0, 1, 2, 3, 4, 5, 6, 7, 8, 9, 10, 11, 12, 13, 14, 15, 16, 17] rfl rfl rfl (by decide) (fun _ => rfl) (fun _ => ⟨a0 99, [], 6, 0, _, _, rfl, rfl, rfl, rfl, rfl⟩) (fun h => absurd rfl h) rfl (Nat.le_of_ble_eq_true rfl) dX7_number_12 15 rfl h (fun r_2 h => ?_)
    refine z_iload_n C dX7_number_15 rfl 3 rfl 16 rfl ?_
    exact z_zretW (x := r_2) (ex := ex) (fun z => wX7 T a0 z) C hr dX7_number_16 h rfl

end
/-! StreamTreeModel.isRead (II)Z -/
section
variable {p : Program} {l : Launch} {e : Env} {R : Room} {s : State} {m : MethodId} {args : Array Value} {below : List Frame} {meth : Method} {c : Code} {Q : State → Prop} {A : Nat → Prop} {D : va_G} {T : Nat → ClassId} {a0 : Nat → Nat}
theorem in_X7_isRead_X7 : ∀ w ∈ u_ws RX7 TX7 35, w ∈ wsX7_isRead := fun _ h => (List.mem_cons_of_mem _ (List.mem_append_right _ h))
def f_X7_isRead_J51 (rec : (Int32 × Int32) → Option (Int32)) (S0 : Nat → Nat → Int32) (v1 : Int32) (v2 : Int32) (x4 : Int32) (k0 : Int32) : Option (Int32) := rec (k0, (x4 + 1))
set_option maxHeartbeats 4000000 in
set_option maxRecDepth 100000 in
theorem p_X7_isRead_J51 (C : zC p R s m args meth c cX7_isRead 5 RX7 wsX7_isRead D T 0 0 0 0) (S0 : Nat → Nat → Int32) {v1 : Int32} {v2 : Int32} (x4 : Int32) (k0 : Int32) (hD : va_D (fun _ => True) (wX7 T a0 S0)) {rec : (Int32 × Int32) → Option (Int32)} (hrec : ∀ (c0 : Int32) (c1 : Int32) (b : Int32), rec (c0, c1) = some b → (zt p l e R s m args below meth c 5 A D 0 0 Q (wX7 T a0 S0) [(3, .int b)] 58 []) → zt p l e R s m args below meth c 5 A D 0 0 Q (wX7 T a0 S0) [(0, .ref (a0 99)), (1, .int v1), (2, .int v2), (3, .int c0), (4, .int c1)] 5 []) {b : Int32} (K : zt p l e R s m args below meth c 5 A D 0 0 Q (wX7 T a0 S0) [(3, .int b)] 58 []) (h : f_X7_isRead_J51 rec S0 v1 v2 x4 k0 = some b) : zt p l e R s m args below meth c 5 A D 0 0 Q (wX7 T a0 S0) [(0, .ref (a0 99)), (1, .int v1), (2, .int v2), (4, .int x4)] 51 [.int k0] := by
  unfold f_X7_isRead_J51 at h
  refine z_istore_n C [(0, .ref (a0 99)), (1, .int v1), (2, .int v2), (3, .int k0), (4, .int x4)] dX7_isRead_51 rfl (Nat.le_of_ble_eq_true rfl) [1, 2, 3, 0, 4] rfl 52 rfl ?_
  refine z_iinc C (x4 + 1) [(0, .ref (a0 99)), (1, .int v1), (2, .int v2), (3, .int k0), (4, .int (x4 + 1))] dX7_isRead_52 4 rfl rfl (Nat.le_of_ble_eq_true rfl) [1, 2, 3, 4, 0] rfl 55 rfl ?_
  refine z_goto C 5 dX7_isRead_55 (by decide) ?_
  exact z_locals (ks := [0, 1, 2, 3, 4]) rfl (hrec _ _ _ h K)

def f_X7_isRead_J46 (rec : (Int32 × Int32) → Option (Int32)) (S0 : Nat → Nat → Int32) (v1 : Int32) (v2 : Int32) (x4 : Int32)  : Option (Int32) := f_X7_isRead_J51 rec S0 v1 v2 x4 1
set_option maxHeartbeats 4000000 in
set_option maxRecDepth 100000 in
theorem p_X7_isRead_J46 (C : zC p R s m args meth c cX7_isRead 5 RX7 wsX7_isRead D T 0 0 0 0) (S0 : Nat → Nat → Int32) {v1 : Int32} {v2 : Int32} (x4 : Int32)  (hD : va_D (fun _ => True) (wX7 T a0 S0)) {rec : (Int32 × Int32) → Option (Int32)} (hrec : ∀ (c0 : Int32) (c1 : Int32) (b : Int32), rec (c0, c1) = some b → (zt p l e R s m args below meth c 5 A D 0 0 Q (wX7 T a0 S0) [(3, .int b)] 58 []) → zt p l e R s m args below meth c 5 A D 0 0 Q (wX7 T a0 S0) [(0, .ref (a0 99)), (1, .int v1), (2, .int v2), (3, .int c0), (4, .int c1)] 5 []) {b : Int32} (K : zt p l e R s m args below meth c 5 A D 0 0 Q (wX7 T a0 S0) [(3, .int b)] 58 []) (h : f_X7_isRead_J46 rec S0 v1 v2 x4 = some b) : zt p l e R s m args below meth c 5 A D 0 0 Q (wX7 T a0 S0) [(0, .ref (a0 99)), (1, .int v1), (2, .int v2), (4, .int x4)] 46 [] := by
  unfold f_X7_isRead_J46 at h
  refine z_iconst C 1 dX7_isRead_46 (by decide) 47 rfl ?_
  refine z_goto C 51 dX7_isRead_47 (by decide) ?_
  exact z_locals (ks := [0, 1, 2, 3]) rfl (p_X7_isRead_J51 C S0 x4 1 (hD.zaddr rfl) hrec K h)

def f_X7_isRead_J50 (rec : (Int32 × Int32) → Option (Int32)) (S0 : Nat → Nat → Int32) (v1 : Int32) (v2 : Int32) (x4 : Int32)  : Option (Int32) := f_X7_isRead_J51 rec S0 v1 v2 x4 0
set_option maxHeartbeats 4000000 in
set_option maxRecDepth 100000 in
theorem p_X7_isRead_J50 (C : zC p R s m args meth c cX7_isRead 5 RX7 wsX7_isRead D T 0 0 0 0) (S0 : Nat → Nat → Int32) {v1 : Int32} {v2 : Int32} (x4 : Int32)  (hD : va_D (fun _ => True) (wX7 T a0 S0)) {rec : (Int32 × Int32) → Option (Int32)} (hrec : ∀ (c0 : Int32) (c1 : Int32) (b : Int32), rec (c0, c1) = some b → (zt p l e R s m args below meth c 5 A D 0 0 Q (wX7 T a0 S0) [(3, .int b)] 58 []) → zt p l e R s m args below meth c 5 A D 0 0 Q (wX7 T a0 S0) [(0, .ref (a0 99)), (1, .int v1), (2, .int v2), (3, .int c0), (4, .int c1)] 5 []) {b : Int32} (K : zt p l e R s m args below meth c 5 A D 0 0 Q (wX7 T a0 S0) [(3, .int b)] 58 []) (h : f_X7_isRead_J50 rec S0 v1 v2 x4 = some b) : zt p l e R s m args below meth c 5 A D 0 0 Q (wX7 T a0 S0) [(0, .ref (a0 99)), (1, .int v1), (2, .int v2), (4, .int x4)] 50 [] := by
  unfold f_X7_isRead_J50 at h
  refine z_iconst C 0 dX7_isRead_50 (by decide) 51 rfl ?_
  exact z_locals (ks := [0, 1, 2, 3]) rfl (p_X7_isRead_J51 C S0 x4 0 (hD.zaddr rfl) hrec K h)

def f_X7_isRead_L5b (S0 : Nat → Nat → Int32) (v1 : Int32) (v2 : Int32) (rec : (Int32 × Int32) → Option (Int32)) (a : Int32 × Int32) : Option (Int32) := if (S0 21 0) ≤ a.2 then (some a.1) else (if a.1 = 0 then (zix (3 * a.2) 21 fun _ => if (S0 22 (Int32.toNatClampNeg (3 * a.2))) = v1 then (zix ((3 * a.2) + 1) 21 fun _ => if (S0 22 (Int32.toNatClampNeg ((3 * a.2) + 1))) = v2 then (f_X7_isRead_J46 rec S0 v1 v2 a.2) else (f_X7_isRead_J50 rec S0 v1 v2 a.2)) else (f_X7_isRead_J50 rec S0 v1 v2 a.2)) else (f_X7_isRead_J46 rec S0 v1 v2 a.2))
def f_X7_isRead_L5 (S0 : Nat → Nat → Int32) (v1 : Int32) (v2 : Int32) : Nat → (Int32 × Int32) → Option (Int32) := zloop (fun rec a => f_X7_isRead_L5b S0 v1 v2 rec a)
set_option maxHeartbeats 4000000 in
set_option maxRecDepth 100000 in
theorem p_X7_isRead_L5 (C : zC p R s m args meth c cX7_isRead 5 RX7 wsX7_isRead D T 0 0 0 0) (S0 : Nat → Nat → Int32) (v1 : Int32) (v2 : Int32) (hD : va_D (fun _ => True) (wX7 T a0 S0)) : ∀ (n : Nat) (c0 : Int32) (c1 : Int32) (b : Int32), f_X7_isRead_L5 S0 v1 v2 n (c0, c1) = some b → (zt p l e R s m args below meth c 5 A D 0 0 Q (wX7 T a0 S0) [(3, .int b)] 58 []) → zt p l e R s m args below meth c 5 A D 0 0 Q (wX7 T a0 S0) [(0, .ref (a0 99)), (1, .int v1), (2, .int v2), (3, .int c0), (4, .int c1)] 5 [] := by
  intro n c0 c1 b h K
  refine zloop_ind (P := fun a b => (zt p l e R s m args below meth c 5 A D 0 0 Q (wX7 T a0 S0) [(3, .int b)] 58 []) → zt p l e R s m args below meth c 5 A D 0 0 Q (wX7 T a0 S0) [(0, .ref (a0 99)), (1, .int v1), (2, .int v2), (3, .int a.1), (4, .int a.2)] 5 []) ?_ n (c0, c1) b h K
  clear h K b c0 c1
  intro rec hrec a b h K
  have hrec : ∀ (c0 : Int32) (c1 : Int32) (b : Int32), rec (c0, c1) = some b → (zt p l e R s m args below meth c 5 A D 0 0 Q (wX7 T a0 S0) [(3, .int b)] 58 []) → zt p l e R s m args below meth c 5 A D 0 0 Q (wX7 T a0 S0) [(0, .ref (a0 99)), (1, .int v1), (2, .int v2), (3, .int c0), (4, .int c1)] 5 [] := fun c0 c1 b h K => hrec (c0, c1) b h K
  unfold f_X7_isRead_L5b at h
  refine z_iload C dX7_isRead_5 4 rfl 7 rfl ?_
  refine z_aload_n C dX7_isRead_7 rfl 0 rfl 8 rfl ?_
  refine z_get C (in_X7_isRead_X7) 0 rfl rfl 21 (by decide) (List.mem_of_getElem? (i := 1) rfl) rfl rfl dX7_isRead_8 11 rfl ?_
  refine z_icmp_ge C 58 dX7_isRead_11 (by decide) 14 rfl h (fun h => ?_) (fun h => ?_)
  · refine z_locals (ks := [3]) (lv' := [(3, .int a.1)]) rfl ?_
    exact zex1 (F := (fun e0 => zt p l e R s m args below meth c 5 A D 0 0 Q (wX7 T a0 S0) [(3, .int e0)] 58 [])) h K
  · refine z_iload_n C dX7_isRead_14 rfl 3 rfl 15 rfl ?_
    refine z_if_ne C 46 dX7_isRead_15 (by decide) 18 rfl h (fun h => ?_) (fun h => ?_)
    · exact z_locals (ks := [0, 1, 2, 4]) rfl (p_X7_isRead_J46 C S0 a.2 (hD.zaddr rfl) hrec K h)
    · refine z_aload_n C dX7_isRead_18 rfl 0 rfl 19 rfl ?_
      refine z_get C (in_X7_isRead_X7) 0 rfl rfl 22 (by decide) (List.mem_of_getElem? (i := 2) rfl) rfl rfl dX7_isRead_19 22 rfl ?_
      refine z_iconst C 3 dX7_isRead_22 (by decide) 23 rfl ?_
      refine z_iload C dX7_isRead_23 4 rfl 25 rfl ?_
      refine z_imul C dX7_isRead_25 26 rfl ?_
      refine z_iald C 6 rfl rfl dX7_isRead_26 27 rfl h (fun h => ?_)
      refine z_iload_n C dX7_isRead_27 rfl 1 rfl 28 rfl ?_
      refine z_icmp_ne C 50 dX7_isRead_28 (by decide) 31 rfl h (fun h => ?_) (fun h => ?_)
      · exact z_locals (ks := [0, 1, 2, 4]) rfl (p_X7_isRead_J50 C S0 a.2 (hD.zaddr rfl) hrec K h)
      · refine z_aload_n C dX7_isRead_31 rfl 0 rfl 32 rfl ?_
        refine z_get C (in_X7_isRead_X7) 0 rfl rfl 22 (by decide) (List.mem_of_getElem? (i := 2) rfl) rfl rfl dX7_isRead_32 35 rfl ?_
        refine z_iconst C 3 dX7_isRead_35 (by decide) 36 rfl ?_
        refine z_iload C dX7_isRead_36 4 rfl 38 rfl ?_
        refine z_imul C dX7_isRead_38 39 rfl ?_
        refine z_iconst C 1 dX7_isRead_39 (by decide) 40 rfl ?_
        refine z_iadd C dX7_isRead_40 41 rfl ?_
        refine z_iald C 6 rfl rfl dX7_isRead_41 42 rfl h (fun h => ?_)
        refine z_iload_n C dX7_isRead_42 rfl 2 rfl 43 rfl ?_
        refine z_icmp_ne C 50 dX7_isRead_43 (by decide) 46 rfl h (fun h => ?_) (fun h => ?_)
        · exact z_locals (ks := [0, 1, 2, 4]) rfl (p_X7_isRead_J50 C S0 a.2 (hD.zaddr rfl) hrec K h)
        · exact z_locals (ks := [0, 1, 2, 4]) rfl (p_X7_isRead_J46 C S0 a.2 (hD.zaddr rfl) hrec K h)

def f_X7_isRead (S0 : Nat → Nat → Int32) (v1 : Int32) (v2 : Int32) : Option (Int32) := (f_X7_isRead_L5 S0 v1 v2 zfuel (0, 0)).bind fun y_1 => zbo y_1 (some y_1)
theorem dd_X7_isRead : RX7 ≠ "java/lang/invoke/MethodHandle" ∧ RX7 ≠ "java/lang/invoke/VarHandle" ∧ (parseMethodDescriptor yX7_isRead.desc).map (fun d => d.parameters.length) = some 2 := by decide +kernel
set_option maxHeartbeats 4000000 in
set_option maxRecDepth 100000 in
theorem c_X7_isRead (l : Launch) (D : va_G) (T : Nat → ClassId) (a0 : Nat → Nat) (S0 : Nat → Nat → Int32) (v1 : Int32) (v2 : Int32) (ex : Int32) (h : f_X7_isRead S0 v1 v2 = some ex) : zRI l yX7_isRead wsX7_isRead ({ frames := 0, cells := 0, slots := 0, locals := 0 } : Room) D T [.ref (a0 99), .int v1, .int v2] (wX7 T a0 S0) ex := by
  refine z_begin (cc := cX7_isRead) (nL := 5) (own := RX7) (fr := 0) (lc := 0) (ret := some .boolean) (by decide) rfl (Nat.le_of_ble_eq_true rfl) (fun _ => False) rfl [(0, .ref (a0 99)), (1, .int v1), (2, .int v2)] rfl ⟨rfl, rfl⟩ rfl ?_
  intro p e s m args below meth c C hr hD
  unfold f_X7_isRead at h
  refine z_iconst C 0 dX7_isRead_0 (by decide) 1 rfl ?_
  refine z_istore_n C [(0, .ref (a0 99)), (1, .int v1), (2, .int v2), (3, .int 0)] dX7_isRead_1 rfl (Nat.le_of_ble_eq_true rfl) [1, 2, 3, 0] rfl 2 rfl ?_
  refine z_iconst C 0 dX7_isRead_2 (by decide) 3 rfl ?_
  refine z_istore C [(0, .ref (a0 99)), (1, .int v1), (2, .int v2), (3, .int 0), (4, .int 0)] dX7_isRead_3 (Nat.le_of_ble_eq_true rfl) [1, 2, 3, 4, 0] rfl 5 rfl ?_
  obtain ⟨y_1, hl_y_1, h⟩ := Option.bind_eq_some_iff.mp h
  refine z_locals (ks := [0, 1, 2, 3, 4]) rfl (p_X7_isRead_L5 C S0 v1 v2 (hD.zaddr rfl) _ _ _ _ hl_y_1 ?_)
  refine z_iload_n C dX7_isRead_58 rfl 0 rfl 59 rfl ?_
  exact z_zretR C hr dX7_isRead_59 h

end
