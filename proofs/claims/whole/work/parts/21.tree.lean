/-! StreamTree$Tree.clear ()V -/
section
variable {p : Program} {l : Launch} {e : Env} {R : Room} {s : State} {m : MethodId} {args : Array Value} {below : List Frame} {meth : Method} {c : Code} {Q : State → Prop} {A : Nat → Prop} {D : va_G} {T : Nat → ClassId} {a0 : Nat → Nat}
theorem in_X5_clear_X5 : ∀ w ∈ u_ws RX5 TX5 5, w ∈ wsX5_clear := fun _ h => (List.mem_cons_of_mem _ (List.mem_append_right _ h))
def f_X5_clear (S0 : Nat → Nat → Int32)  : Option ((Nat → Nat → Int32)) := (f_J7_fill_53178 240 (fun _ => S0 3) 0).bind fun r_1 => zlet (zsa S0 3 (r_1 0)) fun S0_2 => (f_J7_fill_53178 240 (fun _ => S0_2 4) (-1)).bind fun r_3 => zlet (zsa S0_2 4 (r_3 0)) fun S0_4 => some S0_4
theorem dd_X5_clear : RX5 ≠ "java/lang/invoke/MethodHandle" ∧ RX5 ≠ "java/lang/invoke/VarHandle" ∧ (parseMethodDescriptor yX5_clear.desc).map (fun d => d.parameters.length) = some 0 := by decide +kernel
set_option maxHeartbeats 4000000 in
set_option maxRecDepth 100000 in
theorem c_X5_clear (l : Launch) (D : va_G) (T : Nat → ClassId) (a0 : Nat → Nat) (S0 : Nat → Nat → Int32)  (ex : (Nat → Nat → Int32)) (h : f_X5_clear S0 = some ex) : zWV l yX5_clear wsX5_clear ({ frames := 1, cells := 0, slots := 0, locals := 23 } : Room) D T [.ref (a0 99)] (wX5 T a0 S0) (wX5 T a0 ex) := by
  refine z_begin (cc := cX5_clear) (nL := 1) (own := RX5) (fr := 1) (lc := 23) (ret := none) (by decide) rfl (Nat.le_of_ble_eq_true rfl) (zA (wX5 T a0 S0)) rfl [(0, .ref (a0 99))] rfl ⟨rfl, rfl⟩ rfl ?_
  intro p e s m args below meth c C hr hD
  have hD := hD.zself
  unfold f_X5_clear at h
  refine z_aload_n C dX5_clear_0 rfl 0 rfl 1 rfl ?_
  refine z_get C (in_X5_clear_X5) 0 rfl rfl 3 (by decide) (List.mem_of_getElem? (i := 1) rfl) rfl rfl dX5_clear_1 4 rfl ?_
  refine z_iconst C 0 dX5_clear_4 (by decide) 5 rfl ?_
  refine z_callV C (wAI 240 T (fun _ => a0 3) (fun _ => S0 3)) ([0, 2].filterMap (fun i => (wX5 T a0 S0)[i]?)) (fun z => wAI 240 T (fun _ => a0 3) z) (fun z => wX5 T a0 (zsa S0 3 (z 0))) (fun z h => c_J7_fill_53178 l 240 D T (fun _ => a0 3) (fun _ => S0 3) 0 z h) ⟨rfl, rfl⟩ (z_cwS C 2 gX5_clear_J7_fill_53178 rfl dd_J7_fill_53178 ⟨(Nat.le_of_ble_eq_true rfl), (Nat.le_of_ble_eq_true rfl)⟩) (hD.zaddr rfl) [1] [0, 2] [0, 2, 1] rfl rfl rfl (by decide) (fun _ => rfl) (fun h => absurd h (by decide)) (fun _ => rfl) rfl (Nat.le_of_ble_eq_true rfl) dX5_clear_5 8 rfl h (fun r_1 h => ?_)
  refine z_letS (fun z => wX5 T a0 z) _ h (fun S0_2 h => ?_)
  refine z_aload_n C dX5_clear_8 rfl 0 rfl 9 rfl ?_
  refine z_get C (in_X5_clear_X5) 0 rfl rfl 4 (by decide) (List.mem_of_getElem? (i := 2) rfl) rfl rfl dX5_clear_9 12 rfl ?_
  refine z_iconst C (-1) dX5_clear_12 (by decide) 13 rfl ?_
  refine z_callV C (wAI 240 T (fun _ => a0 4) (fun _ => S0_2 4)) ([0, 1].filterMap (fun i => (wX5 T a0 S0_2)[i]?)) (fun z => wAI 240 T (fun _ => a0 4) z) (fun z => wX5 T a0 (zsa S0_2 4 (z 0))) (fun z h => c_J7_fill_53178 l 240 D T (fun _ => a0 4) (fun _ => S0_2 4) (-1) z h) ⟨rfl, rfl⟩ (z_cwS C 2 gX5_clear_J7_fill_53178 rfl dd_J7_fill_53178 ⟨(Nat.le_of_ble_eq_true rfl), (Nat.le_of_ble_eq_true rfl)⟩) (hD.zaddr rfl) [2] [0, 1] [0, 1, 2] rfl rfl rfl (by decide) (fun _ => rfl) (fun h => absurd h (by decide)) (fun _ => rfl) rfl (Nat.le_of_ble_eq_true rfl) dX5_clear_13 16 rfl h (fun r_3 h => ?_)
  refine z_letS (fun z => wX5 T a0 z) _ h (fun S0_4 h => ?_)
  exact z_vretW (x := S0_4) (ex := ex) (fun z => wX5 T a0 z) C hr dX5_clear_16 h rfl

end
/-! StreamTree$Tree.clearButPlaces (LStreamTree$Chart;)V -/
section
variable {p : Program} {l : Launch} {e : Env} {R : Room} {s : State} {m : MethodId} {args : Array Value} {below : List Frame} {meth : Method} {c : Code} {Q : State → Prop} {A : Nat → Prop} {D : va_G} {T : Nat → ClassId} {a0 : Nat → Nat} {a1 : Nat → Nat}
theorem in_X5_clearButPlaces_X5 : ∀ w ∈ u_ws RX5 TX5 5, w ∈ wsX5_clearButPlaces := fun _ h => (List.mem_cons_of_mem _ (List.mem_append_right _ h))
theorem in_X5_clearButPlaces_X1 : ∀ w ∈ u_ws RX1 TX1 10, w ∈ wsX5_clearButPlaces := fun _ h => (List.mem_cons_of_mem _ (List.mem_append_left _ (List.mem_append_right _ h)))
def f_X5_clearButPlaces_L6b (S1 : Nat → Nat → Int32)  (rec : (Int32 × (Nat → Nat → Int32)) → Option ((Nat → Nat → Int32))) (a : Int32 × (Nat → Nat → Int32)) : Option ((Nat → Nat → Int32)) := if (S1 5 0) ≤ a.1 then (some a.2) else (zix a.1 7 fun _ => zix a.1 7 fun _ => (f_X6_cellOf (S1 6 (Int32.toNatClampNeg a.1)) (S1 7 (Int32.toNatClampNeg a.1))).bind fun r_2 => zix r_2 240 fun j => zlet (zst a.2 3 j (1 <<< (a.1 &&& 31))) fun S0_3 => rec ((a.1 + 1), S0_3))
def f_X5_clearButPlaces_L6 (S1 : Nat → Nat → Int32)  : Nat → (Int32 × (Nat → Nat → Int32)) → Option ((Nat → Nat → Int32)) := zloop (fun rec a => f_X5_clearButPlaces_L6b S1 rec a)
set_option maxHeartbeats 4000000 in
set_option maxRecDepth 100000 in
theorem p_X5_clearButPlaces_L6 (C : zC p R s m args meth c cX5_clearButPlaces 3 RX5 wsX5_clearButPlaces D T 2 43 0 0) (S0 : Nat → Nat → Int32) (S1 : Nat → Nat → Int32)  (hD : va_D A (wX5 T a0 S0 ++ wX1 T a1 S1)) : ∀ (n : Nat) (c0 : Int32) (c1 : Nat → Nat → Int32) (b : (Nat → Nat → Int32)), f_X5_clearButPlaces_L6 S1 n (c0, c1) = some b → (zt p l e R s m args below meth c 3 A D 0 0 Q (wX5 T a0 b ++ wX1 T a1 S1) [] 43 []) → zt p l e R s m args below meth c 3 A D 0 0 Q (wX5 T a0 c1 ++ wX1 T a1 S1) [(0, .ref (a0 99)), (1, .ref (a1 99)), (2, .int c0)] 6 [] := by
  intro n c0 c1 b h K
  refine zloop_ind (P := fun a b => (zt p l e R s m args below meth c 3 A D 0 0 Q (wX5 T a0 b ++ wX1 T a1 S1) [] 43 []) → zt p l e R s m args below meth c 3 A D 0 0 Q (wX5 T a0 a.2 ++ wX1 T a1 S1) [(0, .ref (a0 99)), (1, .ref (a1 99)), (2, .int a.1)] 6 []) ?_ n (c0, c1) b h K
  clear h K b c0 c1
  intro rec hrec a b h K
  have hrec : ∀ (c0 : Int32) (c1 : Nat → Nat → Int32) (b : (Nat → Nat → Int32)), rec (c0, c1) = some b → (zt p l e R s m args below meth c 3 A D 0 0 Q (wX5 T a0 b ++ wX1 T a1 S1) [] 43 []) → zt p l e R s m args below meth c 3 A D 0 0 Q (wX5 T a0 c1 ++ wX1 T a1 S1) [(0, .ref (a0 99)), (1, .ref (a1 99)), (2, .int c0)] 6 [] := fun c0 c1 b h K => hrec (c0, c1) b h K
  unfold f_X5_clearButPlaces_L6b at h
  refine z_iload_n C dX5_clearButPlaces_6 rfl 2 rfl 7 rfl ?_
  refine z_aload_n C dX5_clearButPlaces_7 rfl 1 rfl 8 rfl ?_
  refine z_get C (in_X5_clearButPlaces_X1) 3 rfl rfl 5 (by decide) (List.mem_of_getElem? (i := 1) rfl) rfl rfl dX5_clearButPlaces_8 11 rfl ?_
  refine z_icmp_ge C 43 dX5_clearButPlaces_11 (by decide) 14 rfl h (fun h => ?_) (fun h => ?_)
  · refine z_locals (ks := []) (lv' := []) rfl ?_
    exact zex1 (F := (fun e0 => zt p l e R s m args below meth c 3 A D 0 0 Q (wX5 T a0 e0 ++ wX1 T a1 S1) [] 43 [])) h K
  · refine z_aload_n C dX5_clearButPlaces_14 rfl 0 rfl 15 rfl ?_
    refine z_get C (in_X5_clearButPlaces_X5) 0 rfl rfl 3 (by decide) (List.mem_of_getElem? (i := 2) rfl) rfl rfl dX5_clearButPlaces_15 18 rfl ?_
    refine z_aload_n C dX5_clearButPlaces_18 rfl 1 rfl 19 rfl ?_
    refine z_get C (in_X5_clearButPlaces_X1) 3 rfl rfl 6 (by decide) (List.mem_of_getElem? (i := 3) rfl) rfl rfl dX5_clearButPlaces_19 22 rfl ?_
    refine z_iload_n C dX5_clearButPlaces_22 rfl 2 rfl 23 rfl ?_
    refine z_iald C 4 rfl rfl dX5_clearButPlaces_23 24 rfl h (fun h => ?_)
    refine z_aload_n C dX5_clearButPlaces_24 rfl 1 rfl 25 rfl ?_
    refine z_get C (in_X5_clearButPlaces_X1) 3 rfl rfl 7 (by decide) (List.mem_of_getElem? (i := 4) rfl) rfl rfl dX5_clearButPlaces_25 28 rfl ?_
    refine z_iload_n C dX5_clearButPlaces_28 rfl 2 rfl 29 rfl ?_
    refine z_iald C 5 rfl rfl dX5_clearButPlaces_29 30 rfl h (fun h => ?_)
    refine z_callR C ([]) (fun v h => c_X6_cellOf l D T    (S1 6 (Int32.toNatClampNeg a.1)) (S1 7 (Int32.toNatClampNeg a.1)) v h) ⟨rfl, rfl⟩ (z_cwN C 2 gX5_clearButPlaces_X6_cellOf_n39 rfl (List.mem_of_getElem? (i := 9) rfl) (List.mem_of_getElem? (i := 15) rfl) (List.mem_of_getElem? (i := 16) rfl) dd_X6_cellOf ⟨(Nat.le_of_ble_eq_true rfl), (Nat.le_of_ble_eq_true rfl)⟩) (hD.zaddr rfl) [] rfl rfl (fun h => absurd h (by decide)) (fun _ => rfl) rfl (Nat.le_of_ble_eq_true rfl) dX5_clearButPlaces_30 33 rfl h (fun r_2 h => ?_)
    refine z_iconst C 1 dX5_clearButPlaces_33 (by decide) 34 rfl ?_
    refine z_iload_n C dX5_clearButPlaces_34 rfl 2 rfl 35 rfl ?_
    refine z_ishl C dX5_clearButPlaces_35 36 rfl ?_
    refine z_iast C (fun z => wX5 T a0 z ++ wX1 T a1 S1) a.2 3 (hD.zaddr rfl) 1 rfl rfl (fun _ => rfl) dX5_clearButPlaces_36 37 rfl h (fun S0_3 h => ?_)
    refine z_iinc C (a.1 + 1) [(0, .ref (a0 99)), (1, .ref (a1 99)), (2, .int (a.1 + 1))] dX5_clearButPlaces_37 2 rfl rfl (Nat.le_of_ble_eq_true rfl) [1, 2, 0] rfl 40 rfl ?_
    refine z_goto C 6 dX5_clearButPlaces_40 (by decide) ?_
    exact z_locals (ks := [0, 1, 2]) rfl (hrec _ _ _ h K)

def f_X5_clearButPlaces (S0 : Nat → Nat → Int32) (S1 : Nat → Nat → Int32)  : Option ((Nat → Nat → Int32)) := (f_X5_clear S0).bind fun r_1 => (f_X5_clearButPlaces_L6 S1 zfuel (0, r_1)).bind fun y_4 => some y_4
theorem dd_X5_clearButPlaces : RX5 ≠ "java/lang/invoke/MethodHandle" ∧ RX5 ≠ "java/lang/invoke/VarHandle" ∧ (parseMethodDescriptor yX5_clearButPlaces.desc).map (fun d => d.parameters.length) = some 1 := by decide +kernel
set_option maxHeartbeats 4000000 in
set_option maxRecDepth 100000 in
theorem c_X5_clearButPlaces (l : Launch) (D : va_G) (T : Nat → ClassId) (a0 : Nat → Nat) (a1 : Nat → Nat) (S0 : Nat → Nat → Int32) (S1 : Nat → Nat → Int32)  (ex : (Nat → Nat → Int32)) (h : f_X5_clearButPlaces S0 S1 = some ex) : zWV l yX5_clearButPlaces wsX5_clearButPlaces ({ frames := 2, cells := 0, slots := 0, locals := 43 } : Room) D T [.ref (a0 99), .ref (a1 99)] (wX5 T a0 S0 ++ wX1 T a1 S1) (wX5 T a0 ex ++ wX1 T a1 S1) := by
  refine z_begin (cc := cX5_clearButPlaces) (nL := 3) (own := RX5) (fr := 2) (lc := 43) (ret := none) (by decide) rfl (Nat.le_of_ble_eq_true rfl) (zA (wX5 T a0 S0 ++ wX1 T a1 S1)) rfl [(0, .ref (a0 99)), (1, .ref (a1 99))] rfl ⟨rfl, rfl⟩ rfl ?_
  intro p e s m args below meth c C hr hD
  have hD := hD.zself
  unfold f_X5_clearButPlaces at h
  refine z_aload_n C dX5_clearButPlaces_0 rfl 0 rfl 1 rfl ?_
  refine z_callV C (wX5 T a0 S0) (wX1 T a1 S1) (fun z => wX5 T a0 z) (fun z => wX5 T a0 z ++ wX1 T a1 S1) (fun z h => c_X5_clear l D T a0  S0  z h) ⟨rfl, rfl⟩ (z_cwV C 0 gX5_clearButPlaces_X5_clear rfl rfl dd_X5_clear ⟨(Nat.le_of_ble_eq_true rfl), (Nat.le_of_ble_eq_true rfl)⟩) (hD.zaddr rfl) [0, 1, 2] [3, 4, 5, 6, 7] [5, 6, 7, 0, 1, 2, 3, 4] rfl rfl rfl (by decide) (fun _ => rfl) (fun _ => ⟨a0 99, [], 4, 0, _, _, rfl, rfl, rfl, rfl, rfl⟩) (fun h => absurd rfl h) rfl (Nat.le_of_ble_eq_true rfl) dX5_clearButPlaces_1 4 rfl h (fun r_1 h => ?_)
  refine z_iconst C 0 dX5_clearButPlaces_4 (by decide) 5 rfl ?_
  refine z_istore_n C [(0, .ref (a0 99)), (1, .ref (a1 99)), (2, .int 0)] dX5_clearButPlaces_5 rfl (Nat.le_of_ble_eq_true rfl) [1, 2, 0] rfl 6 rfl ?_
  obtain ⟨y_4, hl_y_4, h⟩ := Option.bind_eq_some_iff.mp h
  refine z_locals (ks := [0, 1, 2]) rfl (p_X5_clearButPlaces_L6 C r_1 S1  (hD.zaddr rfl) _ _ _ _ hl_y_4 ?_)
  exact z_vretW (x := y_4) (ex := ex) (fun z => wX5 T a0 z ++ wX1 T a1 S1) C hr dX5_clearButPlaces_43 h rfl

end
/-! StreamTree$Tree.copyFrom (LStreamTree$Tree;)V -/
section
variable {p : Program} {l : Launch} {e : Env} {R : Room} {s : State} {m : MethodId} {args : Array Value} {below : List Frame} {meth : Method} {c : Code} {Q : State → Prop} {A : Nat → Prop} {D : va_G} {T : Nat → ClassId} {a0 : Nat → Nat} {a1 : Nat → Nat}
theorem in_X5_copyFrom_X5 : ∀ w ∈ u_ws RX5 TX5 5, w ∈ wsX5_copyFrom := fun _ h => (List.mem_cons_of_mem _ (List.mem_append_right _ h))
def f_X5_copyFrom (S0 : Nat → Nat → Int32) (S1 : Nat → Nat → Int32)  : Option ((Nat → Nat → Int32)) := zlet (zsa S0 3 (va_cpy (S1 3) (S0 3) 0 0 240)) fun S0_1 => zlet (zsa S0_1 4 (va_cpy (S1 4) (S0_1 4) 0 0 240)) fun S0_2 => some S0_2
theorem dd_X5_copyFrom : RX5 ≠ "java/lang/invoke/MethodHandle" ∧ RX5 ≠ "java/lang/invoke/VarHandle" ∧ (parseMethodDescriptor yX5_copyFrom.desc).map (fun d => d.parameters.length) = some 1 := by decide +kernel
set_option maxHeartbeats 4000000 in
set_option maxRecDepth 100000 in
theorem c_X5_copyFrom (l : Launch) (D : va_G) (T : Nat → ClassId) (a0 : Nat → Nat) (a1 : Nat → Nat) (S0 : Nat → Nat → Int32) (S1 : Nat → Nat → Int32)  (ex : (Nat → Nat → Int32)) (h : f_X5_copyFrom S0 S1 = some ex) : zWV l yX5_copyFrom wsX5_copyFrom ({ frames := 1, cells := 0, slots := 0, locals := 40 } : Room) D T [.ref (a0 99), .ref (a1 99)] (wX5 T a0 S0 ++ wX5 T a1 S1) (wX5 T a0 ex ++ wX5 T a1 S1) := by
  refine z_begin (cc := cX5_copyFrom) (nL := 2) (own := RX5) (fr := 1) (lc := 40) (ret := none) (by decide) rfl (Nat.le_of_ble_eq_true rfl) (zA (wX5 T a0 S0 ++ wX5 T a1 S1)) rfl [(0, .ref (a0 99)), (1, .ref (a1 99))] rfl ⟨rfl, rfl⟩ rfl ?_
  intro p e s m args below meth c C hr hD
  have hD := hD.zself
  unfold f_X5_copyFrom at h
  refine z_aload_n C dX5_copyFrom_0 rfl 1 rfl 1 rfl ?_
  refine z_get C (in_X5_copyFrom_X5) 3 rfl rfl 3 (by decide) (List.mem_of_getElem? (i := 1) rfl) rfl rfl dX5_copyFrom_1 4 rfl ?_
  refine z_iconst C 0 dX5_copyFrom_4 (by decide) 5 rfl ?_
  refine z_aload_n C dX5_copyFrom_5 rfl 0 rfl 6 rfl ?_
  refine z_get C (in_X5_copyFrom_X5) 0 rfl rfl 3 (by decide) (List.mem_of_getElem? (i := 1) rfl) rfl rfl dX5_copyFrom_6 9 rfl ?_
  refine z_iconst C 0 dX5_copyFrom_9 (by decide) 10 rfl ?_
  refine z_sipush C 240 dX5_copyFrom_10 (by decide) 13 rfl ?_
  refine z_copyi C (fun z => wX5 T a0 z ++ wX5 T a1 S1) S0 3 (hD.zaddr rfl) (List.mem_of_getElem? (i := 2) rfl) (List.mem_of_getElem? (i := 3) rfl) (List.mem_of_getElem? (i := 4) rfl) (List.mem_of_getElem? (i := 5) rfl) 4 1 rfl rfl rfl rfl (by decide) (by decide) (Nat.le_of_ble_eq_true rfl) (Nat.le_of_ble_eq_true rfl) (Nat.le_of_ble_eq_true rfl) rfl dX5_copyFrom_13 16 rfl h (fun S0_1 h => ?_)
  refine z_aload_n C dX5_copyFrom_16 rfl 1 rfl 17 rfl ?_
  refine z_get C (in_X5_copyFrom_X5) 3 rfl rfl 4 (by decide) (List.mem_of_getElem? (i := 6) rfl) rfl rfl dX5_copyFrom_17 20 rfl ?_
  refine z_iconst C 0 dX5_copyFrom_20 (by decide) 21 rfl ?_
  refine z_aload_n C dX5_copyFrom_21 rfl 0 rfl 22 rfl ?_
  refine z_get C (in_X5_copyFrom_X5) 0 rfl rfl 4 (by decide) (List.mem_of_getElem? (i := 6) rfl) rfl rfl dX5_copyFrom_22 25 rfl ?_
  refine z_iconst C 0 dX5_copyFrom_25 (by decide) 26 rfl ?_
  refine z_sipush C 240 dX5_copyFrom_26 (by decide) 29 rfl ?_
  refine z_copyi C (fun z => wX5 T a0 z ++ wX5 T a1 S1) S0_1 4 (hD.zaddr rfl) (List.mem_of_getElem? (i := 2) rfl) (List.mem_of_getElem? (i := 3) rfl) (List.mem_of_getElem? (i := 4) rfl) (List.mem_of_getElem? (i := 5) rfl) 5 2 rfl rfl rfl rfl (by decide) (by decide) (Nat.le_of_ble_eq_true rfl) (Nat.le_of_ble_eq_true rfl) (Nat.le_of_ble_eq_true rfl) rfl dX5_copyFrom_29 32 rfl h (fun S0_2 h => ?_)
  exact z_vretW (x := S0_2) (ex := ex) (fun z => wX5 T a0 z ++ wX5 T a1 S1) C hr dX5_copyFrom_32 h rfl

end
/-! StreamTree$Tree.bendsAt (I)Z -/
section
variable {p : Program} {l : Launch} {e : Env} {R : Room} {s : State} {m : MethodId} {args : Array Value} {below : List Frame} {meth : Method} {c : Code} {Q : State → Prop} {A : Nat → Prop} {D : va_G} {T : Nat → ClassId} {a0 : Nat → Nat}
theorem in_X5_bendsAt_X5 : ∀ w ∈ u_ws RX5 TX5 5, w ∈ wsX5_bendsAt := fun _ h => (List.mem_cons_of_mem _ (List.mem_append_right _ h))
def f_X5_bendsAt (S0 : Nat → Nat → Int32) (v1 : Int32) : Option (Int32) := zix v1 240 fun _ => if (S0 4 (Int32.toNatClampNeg v1)) = 1 then (some 1) else (zix v1 240 fun _ => if (S0 4 (Int32.toNatClampNeg v1)) = 2 then (some 1) else (some 0))
theorem dd_X5_bendsAt : RX5 ≠ "java/lang/invoke/MethodHandle" ∧ RX5 ≠ "java/lang/invoke/VarHandle" ∧ (parseMethodDescriptor yX5_bendsAt.desc).map (fun d => d.parameters.length) = some 1 := by decide +kernel
set_option maxHeartbeats 4000000 in
set_option maxRecDepth 100000 in
theorem c_X5_bendsAt (l : Launch) (D : va_G) (T : Nat → ClassId) (a0 : Nat → Nat) (S0 : Nat → Nat → Int32) (v1 : Int32) (ex : Int32) (h : f_X5_bendsAt S0 v1 = some ex) : zRI l yX5_bendsAt wsX5_bendsAt ({ frames := 0, cells := 0, slots := 0, locals := 0 } : Room) D T [.ref (a0 99), .int v1] (wX5 T a0 S0) ex := by
  refine z_begin (cc := cX5_bendsAt) (nL := 2) (own := RX5) (fr := 0) (lc := 0) (ret := some .boolean) (by decide) rfl (Nat.le_of_ble_eq_true rfl) (fun _ => False) rfl [(0, .ref (a0 99)), (1, .int v1)] rfl ⟨rfl, rfl⟩ rfl ?_
  intro p e s m args below meth c C hr hD
  unfold f_X5_bendsAt at h
  refine z_aload_n C dX5_bendsAt_0 rfl 0 rfl 1 rfl ?_
  refine z_get C (in_X5_bendsAt_X5) 0 rfl rfl 4 (by decide) (List.mem_of_getElem? (i := 1) rfl) rfl rfl dX5_bendsAt_1 4 rfl ?_
  refine z_iload_n C dX5_bendsAt_4 rfl 1 rfl 5 rfl ?_
  refine z_iald C 2 rfl rfl dX5_bendsAt_5 6 rfl h (fun h => ?_)
  refine z_iconst C 1 dX5_bendsAt_6 (by decide) 7 rfl ?_
  refine z_icmp_eq C 20 dX5_bendsAt_7 (by decide) 10 rfl h (fun h => ?_) (fun h => ?_)
  · refine z_iconst C 1 dX5_bendsAt_20 (by decide) 21 rfl ?_
    refine z_goto C 25 dX5_bendsAt_21 (by decide) ?_
    exact z_zretRc C hr dX5_bendsAt_25 (Or.inr rfl) h
  · refine z_aload_n C dX5_bendsAt_10 rfl 0 rfl 11 rfl ?_
    refine z_get C (in_X5_bendsAt_X5) 0 rfl rfl 4 (by decide) (List.mem_of_getElem? (i := 1) rfl) rfl rfl dX5_bendsAt_11 14 rfl ?_
    refine z_iload_n C dX5_bendsAt_14 rfl 1 rfl 15 rfl ?_
    refine z_iald C 2 rfl rfl dX5_bendsAt_15 16 rfl h (fun h => ?_)
    refine z_iconst C 2 dX5_bendsAt_16 (by decide) 17 rfl ?_
    refine z_icmp_ne C 24 dX5_bendsAt_17 (by decide) 20 rfl h (fun h => ?_) (fun h => ?_)
    · refine z_iconst C 0 dX5_bendsAt_24 (by decide) 25 rfl ?_
      exact z_zretRc C hr dX5_bendsAt_25 (Or.inl rfl) h
    · refine z_iconst C 1 dX5_bendsAt_20 (by decide) 21 rfl ?_
      refine z_goto C 25 dX5_bendsAt_21 (by decide) ?_
      exact z_zretRc C hr dX5_bendsAt_25 (Or.inr rfl) h

end
/-! StreamTree$Tree.comersToCell (LStreamTree$Chart;II)I -/
section
variable {p : Program} {l : Launch} {e : Env} {R : Room} {s : State} {m : MethodId} {args : Array Value} {below : List Frame} {meth : Method} {c : Code} {Q : State → Prop} {A : Nat → Prop} {D : va_G} {T : Nat → ClassId} {a0 : Nat → Nat} {a1 : Nat → Nat}
theorem in_X5_comersToCell_X5 : ∀ w ∈ u_ws RX5 TX5 5, w ∈ wsX5_comersToCell := fun _ h => (List.mem_cons_of_mem _ (List.mem_append_right _ h))
theorem in_X5_comersToCell_X1 : ∀ w ∈ u_ws RX1 TX1 10, w ∈ wsX5_comersToCell := fun _ h => (List.mem_cons_of_mem _ (List.mem_append_left _ (List.mem_append_right _ h)))
def f_X5_comersToCell_J78 (S0 : Nat → Nat → Int32) (S1 : Nat → Nat → Int32) (x2 : Int32) (x3 : Int32) (k0 : Int32) (k1 : Int32) : Option (Int32) := zlet (k0 + k1) fun u_6 => (f_X1_turnBeside S1 x3 2).bind fun r_7 => (f_X6_cellOf (x2 + 1) r_7).bind fun r_8 => zix r_8 240 fun _ => if (S0 4 (Int32.toNatClampNeg r_8)) = 1 then (zlet (u_6 + 1) fun u_10 => some u_10) else (zlet (u_6 + 0) fun u_9 => some u_9)
set_option maxHeartbeats 4000000 in
set_option maxRecDepth 100000 in
theorem p_X5_comersToCell_J78 (C : zC p R s m args meth c cX5_comersToCell 5 RX5 wsX5_comersToCell D T 1 23 0 0) (hr : meth.sig.returnType = some .int) (S0 : Nat → Nat → Int32) (S1 : Nat → Nat → Int32) (x2 : Int32) (x3 : Int32) (k0 : Int32) (k1 : Int32) (hD : va_D (fun _ => True) (wX5 T a0 S0 ++ wX1 T a1 S1)) {ex : Int32} (h : f_X5_comersToCell_J78 S0 S1 x2 x3 k0 k1 = some ex) : zt p l e R s m args below meth c 5 (fun _ => False) D 0 0 (MQ below (zQI ex) args s 0 0 (fun _ => False)) (wX5 T a0 S0 ++ wX1 T a1 S1) [(0, .ref (a0 99)), (1, .ref (a1 99)), (2, .int x2), (3, .int x3)] 78 [.int k1, .int k0] := by
  unfold f_X5_comersToCell_J78 at h
  refine z_iadd C dX5_comersToCell_78 79 rfl ?_
  refine z_top h (fun u_6 h => ?_)
  refine z_istore C [(0, .ref (a0 99)), (1, .ref (a1 99)), (2, .int x2), (3, .int x3), (4, .int u_6)] dX5_comersToCell_79 (Nat.le_of_ble_eq_true rfl) [1, 2, 3, 4, 0] rfl 81 rfl ?_
  refine z_iload C dX5_comersToCell_81 4 rfl 83 rfl ?_
  refine z_aload_n C dX5_comersToCell_83 rfl 0 rfl 84 rfl ?_
  refine z_get C (in_X5_comersToCell_X5) 0 rfl rfl 4 (by decide) (List.mem_of_getElem? (i := 2) rfl) rfl rfl dX5_comersToCell_84 87 rfl ?_
  refine z_iload_n C dX5_comersToCell_87 rfl 2 rfl 88 rfl ?_
  refine z_iconst C 1 dX5_comersToCell_88 (by decide) 89 rfl ?_
  refine z_iadd C dX5_comersToCell_89 90 rfl ?_
  refine z_aload_n C dX5_comersToCell_90 rfl 1 rfl 91 rfl ?_
  refine z_iload_n C dX5_comersToCell_91 rfl 3 rfl 92 rfl ?_
  refine z_iconst C 2 dX5_comersToCell_92 (by decide) 93 rfl ?_
  refine z_callR C (wX1 T a1 S1) (fun v h => c_X1_turnBeside l D T a1  S1 x3 2 v h) ⟨rfl, rfl⟩ (z_cwV C 2 gX5_comersToCell_X1_turnBeside rfl rfl dd_X1_turnBeside ⟨(Nat.le_of_ble_eq_true rfl), (Nat.le_of_ble_eq_true rfl)⟩) (hD.zaddr rfl) [3, 4, 5, 6, 7] rfl rfl (fun _ => ⟨a1 99, [.int x3, .int 2], 1, 0, _, _, rfl, rfl, rfl, rfl, rfl⟩) (fun h => absurd rfl h) rfl (Nat.le_of_ble_eq_true rfl) dX5_comersToCell_93 96 rfl h (fun r_7 h => ?_)
  refine z_callR C ([]) (fun v h => c_X6_cellOf l D T    (x2 + 1) r_7 v h) ⟨rfl, rfl⟩ (z_cwN C 2 gX5_comersToCell_X6_cellOf_n39 rfl (List.mem_of_getElem? (i := 9) rfl) (List.mem_of_getElem? (i := 11) rfl) (List.mem_of_getElem? (i := 12) rfl) dd_X6_cellOf ⟨(Nat.le_of_ble_eq_true rfl), (Nat.le_of_ble_eq_true rfl)⟩) (hD.zaddr rfl) [] rfl rfl (fun h => absurd h (by decide)) (fun _ => rfl) rfl (Nat.le_of_ble_eq_true rfl) dX5_comersToCell_96 99 rfl h (fun r_8 h => ?_)
  refine z_iald C 2 rfl rfl dX5_comersToCell_99 100 rfl h (fun h => ?_)
  refine z_iconst C 1 dX5_comersToCell_100 (by decide) 101 rfl ?_
  refine z_icmp_ne C 108 dX5_comersToCell_101 (by decide) 104 rfl h (fun h => ?_) (fun h => ?_)
  · refine z_iconst C 0 dX5_comersToCell_108 (by decide) 109 rfl ?_
    refine z_iadd C dX5_comersToCell_109 110 rfl ?_
    refine z_top h (fun u_9 h => ?_)
    refine z_istore C [(0, .ref (a0 99)), (1, .ref (a1 99)), (2, .int x2), (3, .int x3), (4, .int u_9)] dX5_comersToCell_110 (Nat.le_of_ble_eq_true rfl) [1, 2, 3, 4, 0] rfl 112 rfl ?_
    refine z_iload C dX5_comersToCell_112 4 rfl 114 rfl ?_
    exact z_iretR C hr dX5_comersToCell_114 h
  · refine z_iconst C 1 dX5_comersToCell_104 (by decide) 105 rfl ?_
    refine z_goto C 109 dX5_comersToCell_105 (by decide) ?_
    refine z_iadd C dX5_comersToCell_109 110 rfl ?_
    refine z_top h (fun u_10 h => ?_)
    refine z_istore C [(0, .ref (a0 99)), (1, .ref (a1 99)), (2, .int x2), (3, .int x3), (4, .int u_10)] dX5_comersToCell_110 (Nat.le_of_ble_eq_true rfl) [1, 2, 3, 4, 0] rfl 112 rfl ?_
    refine z_iload C dX5_comersToCell_112 4 rfl 114 rfl ?_
    exact z_iretR C hr dX5_comersToCell_114 h

def f_X5_comersToCell_J47 (S0 : Nat → Nat → Int32) (S1 : Nat → Nat → Int32) (x2 : Int32) (x3 : Int32) (k0 : Int32) (k1 : Int32) : Option (Int32) := zlet (k0 + k1) fun u_3 => (f_X1_turnBeside S1 x3 1).bind fun r_4 => (f_X6_cellOf (x2 + 1) r_4).bind fun r_5 => zix r_5 240 fun _ => if (S0 4 (Int32.toNatClampNeg r_5)) = 2 then (f_X5_comersToCell_J78 S0 S1 x2 x3 u_3 1) else (f_X5_comersToCell_J78 S0 S1 x2 x3 u_3 0)
set_option maxHeartbeats 4000000 in
set_option maxRecDepth 100000 in
theorem p_X5_comersToCell_J47 (C : zC p R s m args meth c cX5_comersToCell 5 RX5 wsX5_comersToCell D T 1 23 0 0) (hr : meth.sig.returnType = some .int) (S0 : Nat → Nat → Int32) (S1 : Nat → Nat → Int32) (x2 : Int32) (x3 : Int32) (k0 : Int32) (k1 : Int32) (hD : va_D (fun _ => True) (wX5 T a0 S0 ++ wX1 T a1 S1)) {ex : Int32} (h : f_X5_comersToCell_J47 S0 S1 x2 x3 k0 k1 = some ex) : zt p l e R s m args below meth c 5 (fun _ => False) D 0 0 (MQ below (zQI ex) args s 0 0 (fun _ => False)) (wX5 T a0 S0 ++ wX1 T a1 S1) [(0, .ref (a0 99)), (1, .ref (a1 99)), (2, .int x2), (3, .int x3)] 47 [.int k1, .int k0] := by
  unfold f_X5_comersToCell_J47 at h
  refine z_iadd C dX5_comersToCell_47 48 rfl ?_
  refine z_top h (fun u_3 h => ?_)
  refine z_istore C [(0, .ref (a0 99)), (1, .ref (a1 99)), (2, .int x2), (3, .int x3), (4, .int u_3)] dX5_comersToCell_48 (Nat.le_of_ble_eq_true rfl) [1, 2, 3, 4, 0] rfl 50 rfl ?_
  refine z_iload C dX5_comersToCell_50 4 rfl 52 rfl ?_
  refine z_aload_n C dX5_comersToCell_52 rfl 0 rfl 53 rfl ?_
  refine z_get C (in_X5_comersToCell_X5) 0 rfl rfl 4 (by decide) (List.mem_of_getElem? (i := 2) rfl) rfl rfl dX5_comersToCell_53 56 rfl ?_
  refine z_iload_n C dX5_comersToCell_56 rfl 2 rfl 57 rfl ?_
  refine z_iconst C 1 dX5_comersToCell_57 (by decide) 58 rfl ?_
  refine z_iadd C dX5_comersToCell_58 59 rfl ?_
  refine z_aload_n C dX5_comersToCell_59 rfl 1 rfl 60 rfl ?_
  refine z_iload_n C dX5_comersToCell_60 rfl 3 rfl 61 rfl ?_
  refine z_iconst C 1 dX5_comersToCell_61 (by decide) 62 rfl ?_
  refine z_callR C (wX1 T a1 S1) (fun v h => c_X1_turnBeside l D T a1  S1 x3 1 v h) ⟨rfl, rfl⟩ (z_cwV C 2 gX5_comersToCell_X1_turnBeside rfl rfl dd_X1_turnBeside ⟨(Nat.le_of_ble_eq_true rfl), (Nat.le_of_ble_eq_true rfl)⟩) (hD.zaddr rfl) [3, 4, 5, 6, 7] rfl rfl (fun _ => ⟨a1 99, [.int x3, .int 1], 1, 0, _, _, rfl, rfl, rfl, rfl, rfl⟩) (fun h => absurd rfl h) rfl (Nat.le_of_ble_eq_true rfl) dX5_comersToCell_62 65 rfl h (fun r_4 h => ?_)
  refine z_callR C ([]) (fun v h => c_X6_cellOf l D T    (x2 + 1) r_4 v h) ⟨rfl, rfl⟩ (z_cwN C 2 gX5_comersToCell_X6_cellOf_n39 rfl (List.mem_of_getElem? (i := 9) rfl) (List.mem_of_getElem? (i := 11) rfl) (List.mem_of_getElem? (i := 12) rfl) dd_X6_cellOf ⟨(Nat.le_of_ble_eq_true rfl), (Nat.le_of_ble_eq_true rfl)⟩) (hD.zaddr rfl) [] rfl rfl (fun h => absurd h (by decide)) (fun _ => rfl) rfl (Nat.le_of_ble_eq_true rfl) dX5_comersToCell_65 68 rfl h (fun r_5 h => ?_)
  refine z_iald C 2 rfl rfl dX5_comersToCell_68 69 rfl h (fun h => ?_)
  refine z_iconst C 2 dX5_comersToCell_69 (by decide) 70 rfl ?_
  refine z_icmp_ne C 77 dX5_comersToCell_70 (by decide) 73 rfl h (fun h => ?_) (fun h => ?_)
  · refine z_iconst C 0 dX5_comersToCell_77 (by decide) 78 rfl ?_
    exact z_locals (ks := [0, 1, 2, 3]) rfl (p_X5_comersToCell_J78 C hr S0 S1 x2 x3 u_3 0 (hD.zaddr rfl) h)
  · refine z_iconst C 1 dX5_comersToCell_73 (by decide) 74 rfl ?_
    refine z_goto C 78 dX5_comersToCell_74 (by decide) ?_
    exact z_locals (ks := [0, 1, 2, 3]) rfl (p_X5_comersToCell_J78 C hr S0 S1 x2 x3 u_3 1 (hD.zaddr rfl) h)

def f_X5_comersToCell_J15 (S0 : Nat → Nat → Int32) (S1 : Nat → Nat → Int32) (x2 : Int32) (x3 : Int32) (k0 : Int32) : Option (Int32) := if (S1 0 0) ≤ x2 then (some k0) else ((f_X6_cellOf (x2 + 1) x3).bind fun r_2 => zix r_2 240 fun _ => if (S0 4 (Int32.toNatClampNeg r_2)) = 0 then (f_X5_comersToCell_J47 S0 S1 x2 x3 k0 1) else (f_X5_comersToCell_J47 S0 S1 x2 x3 k0 0))
set_option maxHeartbeats 4000000 in
set_option maxRecDepth 100000 in
theorem p_X5_comersToCell_J15 (C : zC p R s m args meth c cX5_comersToCell 5 RX5 wsX5_comersToCell D T 1 23 0 0) (hr : meth.sig.returnType = some .int) (S0 : Nat → Nat → Int32) (S1 : Nat → Nat → Int32) (x2 : Int32) (x3 : Int32) (k0 : Int32) (hD : va_D (fun _ => True) (wX5 T a0 S0 ++ wX1 T a1 S1)) {ex : Int32} (h : f_X5_comersToCell_J15 S0 S1 x2 x3 k0 = some ex) : zt p l e R s m args below meth c 5 (fun _ => False) D 0 0 (MQ below (zQI ex) args s 0 0 (fun _ => False)) (wX5 T a0 S0 ++ wX1 T a1 S1) [(0, .ref (a0 99)), (1, .ref (a1 99)), (2, .int x2), (3, .int x3)] 15 [.int k0] := by
  unfold f_X5_comersToCell_J15 at h
  refine z_istore C [(0, .ref (a0 99)), (1, .ref (a1 99)), (2, .int x2), (3, .int x3), (4, .int k0)] dX5_comersToCell_15 (Nat.le_of_ble_eq_true rfl) [1, 2, 3, 4, 0] rfl 17 rfl ?_
  refine z_iload_n C dX5_comersToCell_17 rfl 2 rfl 18 rfl ?_
  refine z_aload_n C dX5_comersToCell_18 rfl 1 rfl 19 rfl ?_
  refine z_get C (in_X5_comersToCell_X1) 3 rfl rfl 0 (by decide) (List.mem_of_getElem? (i := 1) rfl) rfl rfl dX5_comersToCell_19 22 rfl ?_
  refine z_icmp_ge C 112 dX5_comersToCell_22 (by decide) 25 rfl h (fun h => ?_) (fun h => ?_)
  · refine z_iload C dX5_comersToCell_112 4 rfl 114 rfl ?_
    exact z_iretR C hr dX5_comersToCell_114 h
  · refine z_iload C dX5_comersToCell_25 4 rfl 27 rfl ?_
    refine z_aload_n C dX5_comersToCell_27 rfl 0 rfl 28 rfl ?_
    refine z_get C (in_X5_comersToCell_X5) 0 rfl rfl 4 (by decide) (List.mem_of_getElem? (i := 2) rfl) rfl rfl dX5_comersToCell_28 31 rfl ?_
    refine z_iload_n C dX5_comersToCell_31 rfl 2 rfl 32 rfl ?_
    refine z_iconst C 1 dX5_comersToCell_32 (by decide) 33 rfl ?_
    refine z_iadd C dX5_comersToCell_33 34 rfl ?_
    refine z_iload_n C dX5_comersToCell_34 rfl 3 rfl 35 rfl ?_
    refine z_callR C ([]) (fun v h => c_X6_cellOf l D T    (x2 + 1) x3 v h) ⟨rfl, rfl⟩ (z_cwN C 2 gX5_comersToCell_X6_cellOf_n39 rfl (List.mem_of_getElem? (i := 9) rfl) (List.mem_of_getElem? (i := 11) rfl) (List.mem_of_getElem? (i := 12) rfl) dd_X6_cellOf ⟨(Nat.le_of_ble_eq_true rfl), (Nat.le_of_ble_eq_true rfl)⟩) (hD.zaddr rfl) [] rfl rfl (fun h => absurd h (by decide)) (fun _ => rfl) rfl (Nat.le_of_ble_eq_true rfl) dX5_comersToCell_35 38 rfl h (fun r_2 h => ?_)
    refine z_iald C 2 rfl rfl dX5_comersToCell_38 39 rfl h (fun h => ?_)
    refine z_if_ne C 46 dX5_comersToCell_39 (by decide) 42 rfl h (fun h => ?_) (fun h => ?_)
    · refine z_iconst C 0 dX5_comersToCell_46 (by decide) 47 rfl ?_
      exact z_locals (ks := [0, 1, 2, 3]) rfl (p_X5_comersToCell_J47 C hr S0 S1 x2 x3 k0 0 (hD.zaddr rfl) h)
    · refine z_iconst C 1 dX5_comersToCell_42 (by decide) 43 rfl ?_
      refine z_goto C 47 dX5_comersToCell_43 (by decide) ?_
      exact z_locals (ks := [0, 1, 2, 3]) rfl (p_X5_comersToCell_J47 C hr S0 S1 x2 x3 k0 1 (hD.zaddr rfl) h)

def f_X5_comersToCell (S0 : Nat → Nat → Int32) (S1 : Nat → Nat → Int32) (v2 : Int32) (v3 : Int32) : Option (Int32) := (f_X1_placeAt S1 v2 v3).bind fun r_1 => if r_1 = (-1) then (f_X5_comersToCell_J15 S0 S1 v2 v3 0) else (f_X5_comersToCell_J15 S0 S1 v2 v3 1)
theorem dd_X5_comersToCell : RX5 ≠ "java/lang/invoke/MethodHandle" ∧ RX5 ≠ "java/lang/invoke/VarHandle" ∧ (parseMethodDescriptor yX5_comersToCell.desc).map (fun d => d.parameters.length) = some 3 := by decide +kernel
set_option maxHeartbeats 4000000 in
set_option maxRecDepth 100000 in
theorem c_X5_comersToCell (l : Launch) (D : va_G) (T : Nat → ClassId) (a0 : Nat → Nat) (a1 : Nat → Nat) (S0 : Nat → Nat → Int32) (S1 : Nat → Nat → Int32) (v2 : Int32) (v3 : Int32) (ex : Int32) (h : f_X5_comersToCell S0 S1 v2 v3 = some ex) : zRI l yX5_comersToCell wsX5_comersToCell ({ frames := 1, cells := 0, slots := 0, locals := 23 } : Room) D T [.ref (a0 99), .ref (a1 99), .int v2, .int v3] (wX5 T a0 S0 ++ wX1 T a1 S1) ex := by
  refine z_begin (cc := cX5_comersToCell) (nL := 5) (own := RX5) (fr := 1) (lc := 23) (ret := some .int) (by decide) rfl (Nat.le_of_ble_eq_true rfl) (fun _ => False) rfl [(0, .ref (a0 99)), (1, .ref (a1 99)), (2, .int v2), (3, .int v3)] rfl ⟨rfl, rfl⟩ rfl ?_
  intro p e s m args below meth c C hr hD
  unfold f_X5_comersToCell at h
  refine z_aload_n C dX5_comersToCell_0 rfl 1 rfl 1 rfl ?_
  refine z_iload_n C dX5_comersToCell_1 rfl 2 rfl 2 rfl ?_
  refine z_iload_n C dX5_comersToCell_2 rfl 3 rfl 3 rfl ?_
  refine z_callR C (wX1 T a1 S1) (fun v h => c_X1_placeAt l D T a1  S1 v2 v3 v h) ⟨rfl, rfl⟩ (z_cwV C 2 gX5_comersToCell_X1_placeAt rfl rfl dd_X1_placeAt ⟨(Nat.le_of_ble_eq_true rfl), (Nat.le_of_ble_eq_true rfl)⟩) (hD.zaddr rfl) [3, 4, 5, 6, 7] rfl rfl (fun _ => ⟨a1 99, [.int v2, .int v3], 1, 0, _, _, rfl, rfl, rfl, rfl, rfl⟩) (fun h => absurd rfl h) rfl (Nat.le_of_ble_eq_true rfl) dX5_comersToCell_3 6 rfl h (fun r_1 h => ?_)
  refine z_iconst C (-1) dX5_comersToCell_6 (by decide) 7 rfl ?_
  refine z_icmp_ne C 14 dX5_comersToCell_7 (by decide) 10 rfl h (fun h => ?_) (fun h => ?_)
  · refine z_iconst C 1 dX5_comersToCell_14 (by decide) 15 rfl ?_
    exact z_locals (ks := [0, 1, 2, 3]) rfl (p_X5_comersToCell_J15 C hr S0 S1 v2 v3 1 (hD.zaddr rfl) h)
  · refine z_iconst C 0 dX5_comersToCell_10 (by decide) 11 rfl ?_
    refine z_goto C 15 dX5_comersToCell_11 (by decide) ?_
    exact z_locals (ks := [0, 1, 2, 3]) rfl (p_X5_comersToCell_J15 C hr S0 S1 v2 v3 0 (hD.zaddr rfl) h)

end
/-! StreamTree$Tree.branchesOf (LStreamTree$Chart;I)I -/
section
variable {p : Program} {l : Launch} {e : Env} {R : Room} {s : State} {m : MethodId} {args : Array Value} {below : List Frame} {meth : Method} {c : Code} {Q : State → Prop} {A : Nat → Prop} {D : va_G} {T : Nat → ClassId} {a0 : Nat → Nat} {a1 : Nat → Nat}
theorem in_X5_branchesOf_X5 : ∀ w ∈ u_ws RX5 TX5 5, w ∈ wsX5_branchesOf := fun _ h => (List.mem_cons_of_mem _ (List.mem_append_right _ h))
theorem in_X5_branchesOf_X1 : ∀ w ∈ u_ws RX1 TX1 10, w ∈ wsX5_branchesOf := fun _ h => (List.mem_cons_of_mem _ (List.mem_append_left _ (List.mem_append_right _ h)))
def f_X5_branchesOf_J31 (rec : (Int32 × Int32) → Option (Int32)) (S0 : Nat → Nat → Int32) (S1 : Nat → Nat → Int32) (v2 : Int32) (x3 : Int32) (x4 : Int32)  : Option (Int32) := rec (x3, (x4 + 1))
set_option maxHeartbeats 4000000 in
set_option maxRecDepth 100000 in
theorem p_X5_branchesOf_J31 (C : zC p R s m args meth c cX5_branchesOf 5 RX5 wsX5_branchesOf D T 1 21 0 0) (S0 : Nat → Nat → Int32) (S1 : Nat → Nat → Int32) {v2 : Int32} (x3 : Int32) (x4 : Int32)  (hD : va_D (fun _ => True) (wX5 T a0 S0 ++ wX1 T a1 S1)) {rec : (Int32 × Int32) → Option (Int32)} (hrec : ∀ (c0 : Int32) (c1 : Int32) (b : Int32), rec (c0, c1) = some b → (zt p l e R s m args below meth c 5 A D 0 0 Q (wX5 T a0 S0 ++ wX1 T a1 S1) [(3, .int b)] 37 []) → zt p l e R s m args below meth c 5 A D 0 0 Q (wX5 T a0 S0 ++ wX1 T a1 S1) [(0, .ref (a0 99)), (1, .ref (a1 99)), (2, .int v2), (3, .int c0), (4, .int c1)] 5 []) {b : Int32} (K : zt p l e R s m args below meth c 5 A D 0 0 Q (wX5 T a0 S0 ++ wX1 T a1 S1) [(3, .int b)] 37 []) (h : f_X5_branchesOf_J31 rec S0 S1 v2 x3 x4 = some b) : zt p l e R s m args below meth c 5 A D 0 0 Q (wX5 T a0 S0 ++ wX1 T a1 S1) [(0, .ref (a0 99)), (1, .ref (a1 99)), (2, .int v2), (3, .int x3), (4, .int x4)] 31 [] := by
  unfold f_X5_branchesOf_J31 at h
  refine z_iinc C (x4 + 1) [(0, .ref (a0 99)), (1, .ref (a1 99)), (2, .int v2), (3, .int x3), (4, .int (x4 + 1))] dX5_branchesOf_31 4 rfl rfl (Nat.le_of_ble_eq_true rfl) [1, 2, 3, 4, 0] rfl 34 rfl ?_
  refine z_goto C 5 dX5_branchesOf_34 (by decide) ?_
  exact z_locals (ks := [0, 1, 2, 3, 4]) rfl (hrec _ _ _ h K)

def f_X5_branchesOf_L5b (S0 : Nat → Nat → Int32) (S1 : Nat → Nat → Int32) (v2 : Int32) (rec : (Int32 × Int32) → Option (Int32)) (a : Int32 × Int32) : Option (Int32) := if (S1 1 0) ≤ a.2 then (some a.1) else ((f_X6_cellOf v2 a.2).bind fun r_1 => zix r_1 240 fun _ => if (S0 3 (Int32.toNatClampNeg r_1)) = 0 then (f_X5_branchesOf_J31 rec S0 S1 v2 a.1 a.2) else (f_X5_branchesOf_J31 rec S0 S1 v2 (a.1 + 1) a.2))
def f_X5_branchesOf_L5 (S0 : Nat → Nat → Int32) (S1 : Nat → Nat → Int32) (v2 : Int32) : Nat → (Int32 × Int32) → Option (Int32) := zloop (fun rec a => f_X5_branchesOf_L5b S0 S1 v2 rec a)
set_option maxHeartbeats 4000000 in
set_option maxRecDepth 100000 in
theorem p_X5_branchesOf_L5 (C : zC p R s m args meth c cX5_branchesOf 5 RX5 wsX5_branchesOf D T 1 21 0 0) (S0 : Nat → Nat → Int32) (S1 : Nat → Nat → Int32) (v2 : Int32) (hD : va_D (fun _ => True) (wX5 T a0 S0 ++ wX1 T a1 S1)) : ∀ (n : Nat) (c0 : Int32) (c1 : Int32) (b : Int32), f_X5_branchesOf_L5 S0 S1 v2 n (c0, c1) = some b → (zt p l e R s m args below meth c 5 A D 0 0 Q (wX5 T a0 S0 ++ wX1 T a1 S1) [(3, .int b)] 37 []) → zt p l e R s m args below meth c 5 A D 0 0 Q (wX5 T a0 S0 ++ wX1 T a1 S1) [(0, .ref (a0 99)), (1, .ref (a1 99)), (2, .int v2), (3, .int c0), (4, .int c1)] 5 [] := by
  intro n c0 c1 b h K
  refine zloop_ind (P := fun a b => (zt p l e R s m args below meth c 5 A D 0 0 Q (wX5 T a0 S0 ++ wX1 T a1 S1) [(3, .int b)] 37 []) → zt p l e R s m args below meth c 5 A D 0 0 Q (wX5 T a0 S0 ++ wX1 T a1 S1) [(0, .ref (a0 99)), (1, .ref (a1 99)), (2, .int v2), (3, .int a.1), (4, .int a.2)] 5 []) ?_ n (c0, c1) b h K
  clear h K b c0 c1
  intro rec hrec a b h K
  have hrec : ∀ (c0 : Int32) (c1 : Int32) (b : Int32), rec (c0, c1) = some b → (zt p l e R s m args below meth c 5 A D 0 0 Q (wX5 T a0 S0 ++ wX1 T a1 S1) [(3, .int b)] 37 []) → zt p l e R s m args below meth c 5 A D 0 0 Q (wX5 T a0 S0 ++ wX1 T a1 S1) [(0, .ref (a0 99)), (1, .ref (a1 99)), (2, .int v2), (3, .int c0), (4, .int c1)] 5 [] := fun c0 c1 b h K => hrec (c0, c1) b h K
  unfold f_X5_branchesOf_L5b at h
  refine z_iload C dX5_branchesOf_5 4 rfl 7 rfl ?_
  refine z_aload_n C dX5_branchesOf_7 rfl 1 rfl 8 rfl ?_
  refine z_get C (in_X5_branchesOf_X1) 3 rfl rfl 1 (by decide) (List.mem_of_getElem? (i := 1) rfl) rfl rfl dX5_branchesOf_8 11 rfl ?_
  refine z_icmp_ge C 37 dX5_branchesOf_11 (by decide) 14 rfl h (fun h => ?_) (fun h => ?_)
  · refine z_locals (ks := [3]) (lv' := [(3, .int a.1)]) rfl ?_
    exact zex1 (F := (fun e0 => zt p l e R s m args below meth c 5 A D 0 0 Q (wX5 T a0 S0 ++ wX1 T a1 S1) [(3, .int e0)] 37 [])) h K
  · refine z_aload_n C dX5_branchesOf_14 rfl 0 rfl 15 rfl ?_
    refine z_get C (in_X5_branchesOf_X5) 0 rfl rfl 3 (by decide) (List.mem_of_getElem? (i := 2) rfl) rfl rfl dX5_branchesOf_15 18 rfl ?_
    refine z_iload_n C dX5_branchesOf_18 rfl 2 rfl 19 rfl ?_
    refine z_iload C dX5_branchesOf_19 4 rfl 21 rfl ?_
    refine z_callR C ([]) (fun v h => c_X6_cellOf l D T    v2 a.2 v h) ⟨rfl, rfl⟩ (z_cwN C 2 gX5_branchesOf_X6_cellOf_n39 rfl (List.mem_of_getElem? (i := 9) rfl) (List.mem_of_getElem? (i := 3) rfl) (List.mem_of_getElem? (i := 4) rfl) dd_X6_cellOf ⟨(Nat.le_of_ble_eq_true rfl), (Nat.le_of_ble_eq_true rfl)⟩) (hD.zaddr rfl) [] rfl rfl (fun h => absurd h (by decide)) (fun _ => rfl) rfl (Nat.le_of_ble_eq_true rfl) dX5_branchesOf_21 24 rfl h (fun r_1 h => ?_)
    refine z_iald C 1 rfl rfl dX5_branchesOf_24 25 rfl h (fun h => ?_)
    refine z_if_eq C 31 dX5_branchesOf_25 (by decide) 28 rfl h (fun h => ?_) (fun h => ?_)
    · exact z_locals (ks := [0, 1, 2, 3, 4]) rfl (p_X5_branchesOf_J31 C S0 S1 a.1 a.2 (hD.zaddr rfl) hrec K h)
    · refine z_iinc C (a.1 + 1) [(0, .ref (a0 99)), (1, .ref (a1 99)), (2, .int v2), (3, .int (a.1 + 1)), (4, .int a.2)] dX5_branchesOf_28 3 rfl rfl (Nat.le_of_ble_eq_true rfl) [1, 2, 3, 0, 4] rfl 31 rfl ?_
      exact z_locals (ks := [0, 1, 2, 3, 4]) rfl (p_X5_branchesOf_J31 C S0 S1 (a.1 + 1) a.2 (hD.zaddr rfl) hrec K h)

def f_X5_branchesOf (S0 : Nat → Nat → Int32) (S1 : Nat → Nat → Int32) (v2 : Int32) : Option (Int32) := (f_X5_branchesOf_L5 S0 S1 v2 zfuel (0, 0)).bind fun y_2 => some y_2
theorem dd_X5_branchesOf : RX5 ≠ "java/lang/invoke/MethodHandle" ∧ RX5 ≠ "java/lang/invoke/VarHandle" ∧ (parseMethodDescriptor yX5_branchesOf.desc).map (fun d => d.parameters.length) = some 2 := by decide +kernel
set_option maxHeartbeats 4000000 in
set_option maxRecDepth 100000 in
theorem c_X5_branchesOf (l : Launch) (D : va_G) (T : Nat → ClassId) (a0 : Nat → Nat) (a1 : Nat → Nat) (S0 : Nat → Nat → Int32) (S1 : Nat → Nat → Int32) (v2 : Int32) (ex : Int32) (h : f_X5_branchesOf S0 S1 v2 = some ex) : zRI l yX5_branchesOf wsX5_branchesOf ({ frames := 1, cells := 0, slots := 0, locals := 21 } : Room) D T [.ref (a0 99), .ref (a1 99), .int v2] (wX5 T a0 S0 ++ wX1 T a1 S1) ex := by
  refine z_begin (cc := cX5_branchesOf) (nL := 5) (own := RX5) (fr := 1) (lc := 21) (ret := some .int) (by decide) rfl (Nat.le_of_ble_eq_true rfl) (fun _ => False) rfl [(0, .ref (a0 99)), (1, .ref (a1 99)), (2, .int v2)] rfl ⟨rfl, rfl⟩ rfl ?_
  intro p e s m args below meth c C hr hD
  unfold f_X5_branchesOf at h
  refine z_iconst C 0 dX5_branchesOf_0 (by decide) 1 rfl ?_
  refine z_istore_n C [(0, .ref (a0 99)), (1, .ref (a1 99)), (2, .int v2), (3, .int 0)] dX5_branchesOf_1 rfl (Nat.le_of_ble_eq_true rfl) [1, 2, 3, 0] rfl 2 rfl ?_
  refine z_iconst C 0 dX5_branchesOf_2 (by decide) 3 rfl ?_
  refine z_istore C [(0, .ref (a0 99)), (1, .ref (a1 99)), (2, .int v2), (3, .int 0), (4, .int 0)] dX5_branchesOf_3 (Nat.le_of_ble_eq_true rfl) [1, 2, 3, 4, 0] rfl 5 rfl ?_
  obtain ⟨y_2, hl_y_2, h⟩ := Option.bind_eq_some_iff.mp h
  refine z_locals (ks := [0, 1, 2, 3, 4]) rfl (p_X5_branchesOf_L5 C S0 S1 v2 (hD.zaddr rfl) _ _ _ _ hl_y_2 ?_)
  refine z_iload_n C dX5_branchesOf_37 rfl 0 rfl 38 rfl ?_
  exact z_iretR C hr dX5_branchesOf_38 h

end
/-! StreamTree$Tree.steps (LStreamTree$Chart;)I -/
section
variable {p : Program} {l : Launch} {e : Env} {R : Room} {s : State} {m : MethodId} {args : Array Value} {below : List Frame} {meth : Method} {c : Code} {Q : State → Prop} {A : Nat → Prop} {D : va_G} {T : Nat → ClassId} {a0 : Nat → Nat} {a1 : Nat → Nat}
theorem in_X5_steps_X1 : ∀ w ∈ u_ws RX1 TX1 10, w ∈ wsX5_steps := fun _ h => (List.mem_cons_of_mem _ (List.mem_append_left _ (List.mem_append_right _ h)))
def f_X5_steps_L4b (S0 : Nat → Nat → Int32) (S1 : Nat → Nat → Int32)  (rec : (Int32 × Int32) → Option (Int32)) (a : Int32 × Int32) : Option (Int32) := if (S1 0 0) < a.2 then (some a.1) else ((f_X5_branchesOf S0 S1 a.2).bind fun r_1 => zlet (a.1 + r_1) fun u_2 => rec (u_2, (a.2 + 1)))
def f_X5_steps_L4 (S0 : Nat → Nat → Int32) (S1 : Nat → Nat → Int32)  : Nat → (Int32 × Int32) → Option (Int32) := zloop (fun rec a => f_X5_steps_L4b S0 S1 rec a)
set_option maxHeartbeats 4000000 in
set_option maxRecDepth 100000 in
theorem p_X5_steps_L4 (C : zC p R s m args meth c cX5_steps 4 RX5 wsX5_steps D T 2 45 0 0) (S0 : Nat → Nat → Int32) (S1 : Nat → Nat → Int32)  (hD : va_D (fun _ => True) (wX5 T a0 S0 ++ wX1 T a1 S1)) : ∀ (n : Nat) (c0 : Int32) (c1 : Int32) (b : Int32), f_X5_steps_L4 S0 S1 n (c0, c1) = some b → (zt p l e R s m args below meth c 4 A D 0 0 Q (wX5 T a0 S0 ++ wX1 T a1 S1) [(2, .int b)] 27 []) → zt p l e R s m args below meth c 4 A D 0 0 Q (wX5 T a0 S0 ++ wX1 T a1 S1) [(0, .ref (a0 99)), (1, .ref (a1 99)), (2, .int c0), (3, .int c1)] 4 [] := by
  intro n c0 c1 b h K
  refine zloop_ind (P := fun a b => (zt p l e R s m args below meth c 4 A D 0 0 Q (wX5 T a0 S0 ++ wX1 T a1 S1) [(2, .int b)] 27 []) → zt p l e R s m args below meth c 4 A D 0 0 Q (wX5 T a0 S0 ++ wX1 T a1 S1) [(0, .ref (a0 99)), (1, .ref (a1 99)), (2, .int a.1), (3, .int a.2)] 4 []) ?_ n (c0, c1) b h K
  clear h K b c0 c1
  intro rec hrec a b h K
  have hrec : ∀ (c0 : Int32) (c1 : Int32) (b : Int32), rec (c0, c1) = some b → (zt p l e R s m args below meth c 4 A D 0 0 Q (wX5 T a0 S0 ++ wX1 T a1 S1) [(2, .int b)] 27 []) → zt p l e R s m args below meth c 4 A D 0 0 Q (wX5 T a0 S0 ++ wX1 T a1 S1) [(0, .ref (a0 99)), (1, .ref (a1 99)), (2, .int c0), (3, .int c1)] 4 [] := fun c0 c1 b h K => hrec (c0, c1) b h K
  unfold f_X5_steps_L4b at h
  refine z_iload_n C dX5_steps_4 rfl 3 rfl 5 rfl ?_
  refine z_aload_n C dX5_steps_5 rfl 1 rfl 6 rfl ?_
  refine z_get C (in_X5_steps_X1) 3 rfl rfl 0 (by decide) (List.mem_of_getElem? (i := 1) rfl) rfl rfl dX5_steps_6 9 rfl ?_
  refine z_icmp_gt C 27 dX5_steps_9 (by decide) 12 rfl h (fun h => ?_) (fun h => ?_)
  · refine z_locals (ks := [2]) (lv' := [(2, .int a.1)]) rfl ?_
    exact zex1 (F := (fun e0 => zt p l e R s m args below meth c 4 A D 0 0 Q (wX5 T a0 S0 ++ wX1 T a1 S1) [(2, .int e0)] 27 [])) h K
  · refine z_iload_n C dX5_steps_12 rfl 2 rfl 13 rfl ?_
    refine z_aload_n C dX5_steps_13 rfl 0 rfl 14 rfl ?_
    refine z_aload_n C dX5_steps_14 rfl 1 rfl 15 rfl ?_
    refine z_iload_n C dX5_steps_15 rfl 3 rfl 16 rfl ?_
    refine z_callR C (wX5 T a0 S0 ++ wX1 T a1 S1) (fun v h => c_X5_branchesOf l D T a0 a1  S0 S1 a.2 v h) ⟨rfl, rfl⟩ (z_cwV C 2 gX5_steps_X5_branchesOf rfl rfl dd_X5_branchesOf ⟨(Nat.le_of_ble_eq_true rfl), (Nat.le_of_ble_eq_true rfl)⟩) (hD.zaddr rfl) [0, 1, 2, 3, 4, 5, 6, 7] rfl rfl (fun _ => ⟨a0 99, [.ref (a1 99), .int a.2], 4, 0, _, _, rfl, rfl, rfl, rfl, rfl⟩) (fun h => absurd rfl h) rfl (Nat.le_of_ble_eq_true rfl) dX5_steps_16 19 rfl h (fun r_1 h => ?_)
    refine z_iadd C dX5_steps_19 20 rfl ?_
    refine z_top h (fun u_2 h => ?_)
    refine z_istore_n C [(0, .ref (a0 99)), (1, .ref (a1 99)), (2, .int u_2), (3, .int a.2)] dX5_steps_20 rfl (Nat.le_of_ble_eq_true rfl) [1, 2, 0, 3] rfl 21 rfl ?_
    refine z_iinc C (a.2 + 1) [(0, .ref (a0 99)), (1, .ref (a1 99)), (2, .int u_2), (3, .int (a.2 + 1))] dX5_steps_21 3 rfl rfl (Nat.le_of_ble_eq_true rfl) [1, 2, 3, 0] rfl 24 rfl ?_
    refine z_goto C 4 dX5_steps_24 (by decide) ?_
    exact z_locals (ks := [0, 1, 2, 3]) rfl (hrec _ _ _ h K)

def f_X5_steps (S0 : Nat → Nat → Int32) (S1 : Nat → Nat → Int32)  : Option (Int32) := (f_X5_steps_L4 S0 S1 zfuel (0, 1)).bind fun y_3 => some y_3
theorem dd_X5_steps : RX5 ≠ "java/lang/invoke/MethodHandle" ∧ RX5 ≠ "java/lang/invoke/VarHandle" ∧ (parseMethodDescriptor yX5_steps.desc).map (fun d => d.parameters.length) = some 1 := by decide +kernel
set_option maxHeartbeats 4000000 in
set_option maxRecDepth 100000 in
theorem c_X5_steps (l : Launch) (D : va_G) (T : Nat → ClassId) (a0 : Nat → Nat) (a1 : Nat → Nat) (S0 : Nat → Nat → Int32) (S1 : Nat → Nat → Int32)  (ex : Int32) (h : f_X5_steps S0 S1 = some ex) : zRI l yX5_steps wsX5_steps ({ frames := 2, cells := 0, slots := 0, locals := 45 } : Room) D T [.ref (a0 99), .ref (a1 99)] (wX5 T a0 S0 ++ wX1 T a1 S1) ex := by
  refine z_begin (cc := cX5_steps) (nL := 4) (own := RX5) (fr := 2) (lc := 45) (ret := some .int) (by decide) rfl (Nat.le_of_ble_eq_true rfl) (fun _ => False) rfl [(0, .ref (a0 99)), (1, .ref (a1 99))] rfl ⟨rfl, rfl⟩ rfl ?_
  intro p e s m args below meth c C hr hD
  unfold f_X5_steps at h
  refine z_iconst C 0 dX5_steps_0 (by decide) 1 rfl ?_
  refine z_istore_n C [(0, .ref (a0 99)), (1, .ref (a1 99)), (2, .int 0)] dX5_steps_1 rfl (Nat.le_of_ble_eq_true rfl) [1, 2, 0] rfl 2 rfl ?_
  refine z_iconst C 1 dX5_steps_2 (by decide) 3 rfl ?_
  refine z_istore_n C [(0, .ref (a0 99)), (1, .ref (a1 99)), (2, .int 0), (3, .int 1)] dX5_steps_3 rfl (Nat.le_of_ble_eq_true rfl) [1, 2, 3, 0] rfl 4 rfl ?_
  obtain ⟨y_3, hl_y_3, h⟩ := Option.bind_eq_some_iff.mp h
  refine z_locals (ks := [0, 1, 2, 3]) rfl (p_X5_steps_L4 C S0 S1  (hD.zaddr rfl) _ _ _ _ hl_y_3 ?_)
  refine z_iload_n C dX5_steps_27 rfl 0 rfl 28 rfl ?_
  exact z_iretR C hr dX5_steps_28 h

end
/-! StreamTree$Tree.mostOfOneRing (LStreamTree$Chart;)I -/
section
variable {p : Program} {l : Launch} {e : Env} {R : Room} {s : State} {m : MethodId} {args : Array Value} {below : List Frame} {meth : Method} {c : Code} {Q : State → Prop} {A : Nat → Prop} {D : va_G} {T : Nat → ClassId} {a0 : Nat → Nat} {a1 : Nat → Nat}
theorem in_X5_mostOfOneRing_X1 : ∀ w ∈ u_ws RX1 TX1 10, w ∈ wsX5_mostOfOneRing := fun _ h => (List.mem_cons_of_mem _ (List.mem_append_left _ (List.mem_append_right _ h)))
def f_X5_mostOfOneRing_L4b (S0 : Nat → Nat → Int32) (S1 : Nat → Nat → Int32)  (rec : (Int32 × Int32) → Option (Int32)) (a : Int32 × Int32) : Option (Int32) := if (S1 0 0) < a.2 then (some a.1) else ((f_X5_branchesOf S0 S1 a.2).bind fun r_1 => zlet (if a.1 < r_1 then r_1 else a.1) fun u_2 => rec (u_2, (a.2 + 1)))
def f_X5_mostOfOneRing_L4 (S0 : Nat → Nat → Int32) (S1 : Nat → Nat → Int32)  : Nat → (Int32 × Int32) → Option (Int32) := zloop (fun rec a => f_X5_mostOfOneRing_L4b S0 S1 rec a)
set_option maxHeartbeats 4000000 in
set_option maxRecDepth 100000 in
theorem p_X5_mostOfOneRing_L4 (C : zC p R s m args meth c cX5_mostOfOneRing 4 RX5 wsX5_mostOfOneRing D T 2 45 0 0) (S0 : Nat → Nat → Int32) (S1 : Nat → Nat → Int32)  (hD : va_D (fun _ => True) (wX5 T a0 S0 ++ wX1 T a1 S1)) : ∀ (n : Nat) (c0 : Int32) (c1 : Int32) (b : Int32), f_X5_mostOfOneRing_L4 S0 S1 n (c0, c1) = some b → (zt p l e R s m args below meth c 4 A D 0 0 Q (wX5 T a0 S0 ++ wX1 T a1 S1) [(2, .int b)] 29 []) → zt p l e R s m args below meth c 4 A D 0 0 Q (wX5 T a0 S0 ++ wX1 T a1 S1) [(0, .ref (a0 99)), (1, .ref (a1 99)), (2, .int c0), (3, .int c1)] 4 [] := by
  intro n c0 c1 b h K
  refine zloop_ind (P := fun a b => (zt p l e R s m args below meth c 4 A D 0 0 Q (wX5 T a0 S0 ++ wX1 T a1 S1) [(2, .int b)] 29 []) → zt p l e R s m args below meth c 4 A D 0 0 Q (wX5 T a0 S0 ++ wX1 T a1 S1) [(0, .ref (a0 99)), (1, .ref (a1 99)), (2, .int a.1), (3, .int a.2)] 4 []) ?_ n (c0, c1) b h K
  clear h K b c0 c1
  intro rec hrec a b h K
  have hrec : ∀ (c0 : Int32) (c1 : Int32) (b : Int32), rec (c0, c1) = some b → (zt p l e R s m args below meth c 4 A D 0 0 Q (wX5 T a0 S0 ++ wX1 T a1 S1) [(2, .int b)] 29 []) → zt p l e R s m args below meth c 4 A D 0 0 Q (wX5 T a0 S0 ++ wX1 T a1 S1) [(0, .ref (a0 99)), (1, .ref (a1 99)), (2, .int c0), (3, .int c1)] 4 [] := fun c0 c1 b h K => hrec (c0, c1) b h K
  unfold f_X5_mostOfOneRing_L4b at h
  refine z_iload_n C dX5_mostOfOneRing_4 rfl 3 rfl 5 rfl ?_
  refine z_aload_n C dX5_mostOfOneRing_5 rfl 1 rfl 6 rfl ?_
  refine z_get C (in_X5_mostOfOneRing_X1) 3 rfl rfl 0 (by decide) (List.mem_of_getElem? (i := 1) rfl) rfl rfl dX5_mostOfOneRing_6 9 rfl ?_
  refine z_icmp_gt C 29 dX5_mostOfOneRing_9 (by decide) 12 rfl h (fun h => ?_) (fun h => ?_)
  · refine z_locals (ks := [2]) (lv' := [(2, .int a.1)]) rfl ?_
    exact zex1 (F := (fun e0 => zt p l e R s m args below meth c 4 A D 0 0 Q (wX5 T a0 S0 ++ wX1 T a1 S1) [(2, .int e0)] 29 [])) h K
  · refine z_iload_n C dX5_mostOfOneRing_12 rfl 2 rfl 13 rfl ?_
    refine z_aload_n C dX5_mostOfOneRing_13 rfl 0 rfl 14 rfl ?_
    refine z_aload_n C dX5_mostOfOneRing_14 rfl 1 rfl 15 rfl ?_
    refine z_iload_n C dX5_mostOfOneRing_15 rfl 3 rfl 16 rfl ?_
    refine z_callR C (wX5 T a0 S0 ++ wX1 T a1 S1) (fun v h => c_X5_branchesOf l D T a0 a1  S0 S1 a.2 v h) ⟨rfl, rfl⟩ (z_cwV C 2 gX5_mostOfOneRing_X5_branchesOf rfl rfl dd_X5_branchesOf ⟨(Nat.le_of_ble_eq_true rfl), (Nat.le_of_ble_eq_true rfl)⟩) (hD.zaddr rfl) [0, 1, 2, 3, 4, 5, 6, 7] rfl rfl (fun _ => ⟨a0 99, [.ref (a1 99), .int a.2], 4, 0, _, _, rfl, rfl, rfl, rfl, rfl⟩) (fun h => absurd rfl h) rfl (Nat.le_of_ble_eq_true rfl) dX5_mostOfOneRing_16 19 rfl h (fun r_1 h => ?_)
    refine z_mmax C (List.mem_of_getElem? (i := 2) rfl) (List.mem_of_getElem? (i := 3) rfl) (List.mem_of_getElem? (i := 4) rfl) (List.mem_of_getElem? (i := 5) rfl) (Nat.le_of_ble_eq_true rfl) (Nat.le_of_ble_eq_true rfl) (Nat.le_of_ble_eq_true rfl) dX5_mostOfOneRing_19 22 rfl ?_
    refine z_top h (fun u_2 h => ?_)
    refine z_istore_n C [(0, .ref (a0 99)), (1, .ref (a1 99)), (2, .int u_2), (3, .int a.2)] dX5_mostOfOneRing_22 rfl (Nat.le_of_ble_eq_true rfl) [1, 2, 0, 3] rfl 23 rfl ?_
    refine z_iinc C (a.2 + 1) [(0, .ref (a0 99)), (1, .ref (a1 99)), (2, .int u_2), (3, .int (a.2 + 1))] dX5_mostOfOneRing_23 3 rfl rfl (Nat.le_of_ble_eq_true rfl) [1, 2, 3, 0] rfl 26 rfl ?_
    refine z_goto C 4 dX5_mostOfOneRing_26 (by decide) ?_
    exact z_locals (ks := [0, 1, 2, 3]) rfl (hrec _ _ _ h K)

def f_X5_mostOfOneRing (S0 : Nat → Nat → Int32) (S1 : Nat → Nat → Int32)  : Option (Int32) := (f_X5_mostOfOneRing_L4 S0 S1 zfuel (0, 1)).bind fun y_3 => some y_3
theorem dd_X5_mostOfOneRing : RX5 ≠ "java/lang/invoke/MethodHandle" ∧ RX5 ≠ "java/lang/invoke/VarHandle" ∧ (parseMethodDescriptor yX5_mostOfOneRing.desc).map (fun d => d.parameters.length) = some 1 := by decide +kernel
set_option maxHeartbeats 4000000 in
set_option maxRecDepth 100000 in
theorem c_X5_mostOfOneRing (l : Launch) (D : va_G) (T : Nat → ClassId) (a0 : Nat → Nat) (a1 : Nat → Nat) (S0 : Nat → Nat → Int32) (S1 : Nat → Nat → Int32)  (ex : Int32) (h : f_X5_mostOfOneRing S0 S1 = some ex) : zRI l yX5_mostOfOneRing wsX5_mostOfOneRing ({ frames := 2, cells := 0, slots := 0, locals := 45 } : Room) D T [.ref (a0 99), .ref (a1 99)] (wX5 T a0 S0 ++ wX1 T a1 S1) ex := by
  refine z_begin (cc := cX5_mostOfOneRing) (nL := 4) (own := RX5) (fr := 2) (lc := 45) (ret := some .int) (by decide) rfl (Nat.le_of_ble_eq_true rfl) (fun _ => False) rfl [(0, .ref (a0 99)), (1, .ref (a1 99))] rfl ⟨rfl, rfl⟩ rfl ?_
  intro p e s m args below meth c C hr hD
  unfold f_X5_mostOfOneRing at h
  refine z_iconst C 0 dX5_mostOfOneRing_0 (by decide) 1 rfl ?_
  refine z_istore_n C [(0, .ref (a0 99)), (1, .ref (a1 99)), (2, .int 0)] dX5_mostOfOneRing_1 rfl (Nat.le_of_ble_eq_true rfl) [1, 2, 0] rfl 2 rfl ?_
  refine z_iconst C 1 dX5_mostOfOneRing_2 (by decide) 3 rfl ?_
  refine z_istore_n C [(0, .ref (a0 99)), (1, .ref (a1 99)), (2, .int 0), (3, .int 1)] dX5_mostOfOneRing_3 rfl (Nat.le_of_ble_eq_true rfl) [1, 2, 3, 0] rfl 4 rfl ?_
  obtain ⟨y_3, hl_y_3, h⟩ := Option.bind_eq_some_iff.mp h
  refine z_locals (ks := [0, 1, 2, 3]) rfl (p_X5_mostOfOneRing_L4 C S0 S1  (hD.zaddr rfl) _ _ _ _ hl_y_3 ?_)
  refine z_iload_n C dX5_mostOfOneRing_29 rfl 0 rfl 30 rfl ?_
  exact z_iretR C hr dX5_mostOfOneRing_30 h

end
/-! StreamTree$Tree.bends ()I -/
section
variable {p : Program} {l : Launch} {e : Env} {R : Room} {s : State} {m : MethodId} {args : Array Value} {below : List Frame} {meth : Method} {c : Code} {Q : State → Prop} {A : Nat → Prop} {D : va_G} {T : Nat → ClassId} {a0 : Nat → Nat}
def f_X5_bends_J22 (rec : (Int32 × Int32) → Option (Int32)) (S0 : Nat → Nat → Int32) (x1 : Int32) (x2 : Int32)  : Option (Int32) := rec (x1, (x2 + 1))
set_option maxHeartbeats 4000000 in
set_option maxRecDepth 100000 in
theorem p_X5_bends_J22 (C : zC p R s m args meth c cX5_bends 3 RX5 wsX5_bends D T 1 21 0 0) (S0 : Nat → Nat → Int32)  (x1 : Int32) (x2 : Int32)  (hD : va_D (fun _ => True) (wX5 T a0 S0)) {rec : (Int32 × Int32) → Option (Int32)} (hrec : ∀ (c0 : Int32) (c1 : Int32) (b : Int32), rec (c0, c1) = some b → (zt p l e R s m args below meth c 3 A D 0 0 Q (wX5 T a0 S0) [(1, .int b)] 28 []) → zt p l e R s m args below meth c 3 A D 0 0 Q (wX5 T a0 S0) [(0, .ref (a0 99)), (1, .int c0), (2, .int c1)] 4 []) {b : Int32} (K : zt p l e R s m args below meth c 3 A D 0 0 Q (wX5 T a0 S0) [(1, .int b)] 28 []) (h : f_X5_bends_J22 rec S0 x1 x2 = some b) : zt p l e R s m args below meth c 3 A D 0 0 Q (wX5 T a0 S0) [(0, .ref (a0 99)), (1, .int x1), (2, .int x2)] 22 [] := by
  unfold f_X5_bends_J22 at h
  refine z_iinc C (x2 + 1) [(0, .ref (a0 99)), (1, .int x1), (2, .int (x2 + 1))] dX5_bends_22 2 rfl rfl (Nat.le_of_ble_eq_true rfl) [1, 2, 0] rfl 25 rfl ?_
  refine z_goto C 4 dX5_bends_25 (by decide) ?_
  exact z_locals (ks := [0, 1, 2]) rfl (hrec _ _ _ h K)

def f_X5_bends_L4b (S0 : Nat → Nat → Int32)  (rec : (Int32 × Int32) → Option (Int32)) (a : Int32 × Int32) : Option (Int32) := if 240 ≤ a.2 then (some a.1) else ((f_X5_bendsAt S0 a.2).bind fun r_1 => if r_1 = 0 then (f_X5_bends_J22 rec S0 a.1 a.2) else (f_X5_bends_J22 rec S0 (a.1 + 1) a.2))
def f_X5_bends_L4 (S0 : Nat → Nat → Int32)  : Nat → (Int32 × Int32) → Option (Int32) := zloop (fun rec a => f_X5_bends_L4b S0 rec a)
set_option maxHeartbeats 4000000 in
set_option maxRecDepth 100000 in
theorem p_X5_bends_L4 (C : zC p R s m args meth c cX5_bends 3 RX5 wsX5_bends D T 1 21 0 0) (S0 : Nat → Nat → Int32)  (hD : va_D (fun _ => True) (wX5 T a0 S0)) : ∀ (n : Nat) (c0 : Int32) (c1 : Int32) (b : Int32), f_X5_bends_L4 S0 n (c0, c1) = some b → (zt p l e R s m args below meth c 3 A D 0 0 Q (wX5 T a0 S0) [(1, .int b)] 28 []) → zt p l e R s m args below meth c 3 A D 0 0 Q (wX5 T a0 S0) [(0, .ref (a0 99)), (1, .int c0), (2, .int c1)] 4 [] := by
  intro n c0 c1 b h K
  refine zloop_ind (P := fun a b => (zt p l e R s m args below meth c 3 A D 0 0 Q (wX5 T a0 S0) [(1, .int b)] 28 []) → zt p l e R s m args below meth c 3 A D 0 0 Q (wX5 T a0 S0) [(0, .ref (a0 99)), (1, .int a.1), (2, .int a.2)] 4 []) ?_ n (c0, c1) b h K
  clear h K b c0 c1
  intro rec hrec a b h K
  have hrec : ∀ (c0 : Int32) (c1 : Int32) (b : Int32), rec (c0, c1) = some b → (zt p l e R s m args below meth c 3 A D 0 0 Q (wX5 T a0 S0) [(1, .int b)] 28 []) → zt p l e R s m args below meth c 3 A D 0 0 Q (wX5 T a0 S0) [(0, .ref (a0 99)), (1, .int c0), (2, .int c1)] 4 [] := fun c0 c1 b h K => hrec (c0, c1) b h K
  unfold f_X5_bends_L4b at h
  refine z_iload_n C dX5_bends_4 rfl 2 rfl 5 rfl ?_
  refine z_sipush C 240 dX5_bends_5 (by decide) 8 rfl ?_
  refine z_icmp_ge C 28 dX5_bends_8 (by decide) 11 rfl h (fun h => ?_) (fun h => ?_)
  · refine z_locals (ks := [1]) (lv' := [(1, .int a.1)]) rfl ?_
    exact zex1 (F := (fun e0 => zt p l e R s m args below meth c 3 A D 0 0 Q (wX5 T a0 S0) [(1, .int e0)] 28 [])) h K
  · refine z_aload_n C dX5_bends_11 rfl 0 rfl 12 rfl ?_
    refine z_iload_n C dX5_bends_12 rfl 2 rfl 13 rfl ?_
    refine z_callR C (wX5 T a0 S0) (fun v h => c_X5_bendsAt l D T a0  S0 a.2 v h) ⟨rfl, rfl⟩ (z_cwV C 1 gX5_bends_X5_bendsAt rfl rfl dd_X5_bendsAt ⟨(Nat.le_of_ble_eq_true rfl), (Nat.le_of_ble_eq_true rfl)⟩) (hD.zaddr rfl) [0, 1, 2] rfl rfl (fun _ => ⟨a0 99, [.int a.2], 4, 0, _, _, rfl, rfl, rfl, rfl, rfl⟩) (fun h => absurd rfl h) rfl (Nat.le_of_ble_eq_true rfl) dX5_bends_13 16 rfl h (fun r_1 h => ?_)
    refine z_if_eq C 22 dX5_bends_16 (by decide) 19 rfl h (fun h => ?_) (fun h => ?_)
    · exact z_locals (ks := [0, 1, 2]) rfl (p_X5_bends_J22 C S0 a.1 a.2 (hD.zaddr rfl) hrec K h)
    · refine z_iinc C (a.1 + 1) [(0, .ref (a0 99)), (1, .int (a.1 + 1)), (2, .int a.2)] dX5_bends_19 1 rfl rfl (Nat.le_of_ble_eq_true rfl) [1, 0, 2] rfl 22 rfl ?_
      exact z_locals (ks := [0, 1, 2]) rfl (p_X5_bends_J22 C S0 (a.1 + 1) a.2 (hD.zaddr rfl) hrec K h)

def f_X5_bends (S0 : Nat → Nat → Int32)  : Option (Int32) := (f_X5_bends_L4 S0 zfuel (0, 0)).bind fun y_2 => some y_2
theorem dd_X5_bends : RX5 ≠ "java/lang/invoke/MethodHandle" ∧ RX5 ≠ "java/lang/invoke/VarHandle" ∧ (parseMethodDescriptor yX5_bends.desc).map (fun d => d.parameters.length) = some 0 := by decide +kernel
set_option maxHeartbeats 4000000 in
set_option maxRecDepth 100000 in
theorem c_X5_bends (l : Launch) (D : va_G) (T : Nat → ClassId) (a0 : Nat → Nat) (S0 : Nat → Nat → Int32)  (ex : Int32) (h : f_X5_bends S0 = some ex) : zRI l yX5_bends wsX5_bends ({ frames := 1, cells := 0, slots := 0, locals := 21 } : Room) D T [.ref (a0 99)] (wX5 T a0 S0) ex := by
  refine z_begin (cc := cX5_bends) (nL := 3) (own := RX5) (fr := 1) (lc := 21) (ret := some .int) (by decide) rfl (Nat.le_of_ble_eq_true rfl) (fun _ => False) rfl [(0, .ref (a0 99))] rfl ⟨rfl, rfl⟩ rfl ?_
  intro p e s m args below meth c C hr hD
  unfold f_X5_bends at h
  refine z_iconst C 0 dX5_bends_0 (by decide) 1 rfl ?_
  refine z_istore_n C [(0, .ref (a0 99)), (1, .int 0)] dX5_bends_1 rfl (Nat.le_of_ble_eq_true rfl) [1, 0] rfl 2 rfl ?_
  refine z_iconst C 0 dX5_bends_2 (by decide) 3 rfl ?_
  refine z_istore_n C [(0, .ref (a0 99)), (1, .int 0), (2, .int 0)] dX5_bends_3 rfl (Nat.le_of_ble_eq_true rfl) [1, 2, 0] rfl 4 rfl ?_
  obtain ⟨y_2, hl_y_2, h⟩ := Option.bind_eq_some_iff.mp h
  refine z_locals (ks := [0, 1, 2]) rfl (p_X5_bends_L4 C S0  (hD.zaddr rfl) _ _ _ _ hl_y_2 ?_)
  refine z_iload_n C dX5_bends_28 rfl 0 rfl 29 rfl ?_
  exact z_iretR C hr dX5_bends_29 h

end
/-! StreamTree$Tree.couplesAcross (LStreamTree$Chart;)I -/
section
variable {p : Program} {l : Launch} {e : Env} {R : Room} {s : State} {m : MethodId} {args : Array Value} {below : List Frame} {meth : Method} {c : Code} {Q : State → Prop} {A : Nat → Prop} {D : va_G} {T : Nat → ClassId} {a0 : Nat → Nat} {a1 : Nat → Nat}
theorem in_X5_couplesAcross_X5 : ∀ w ∈ u_ws RX5 TX5 5, w ∈ wsX5_couplesAcross := fun _ h => (List.mem_cons_of_mem _ (List.mem_append_right _ h))
theorem in_X5_couplesAcross_X1 : ∀ w ∈ u_ws RX1 TX1 10, w ∈ wsX5_couplesAcross := fun _ h => (List.mem_cons_of_mem _ (List.mem_append_left _ (List.mem_append_right _ h)))
def f_X5_couplesAcross_J66 (rec : (Int32 × Int32) → Option (Int32)) (S0 : Nat → Nat → Int32) (S1 : Nat → Nat → Int32) (x2 : Int32) (v3 : Int32) (x4 : Int32)  : Option (Int32) := rec (x2, (x4 + 1))
set_option maxHeartbeats 4000000 in
set_option maxRecDepth 100000 in
theorem p_X5_couplesAcross_J66 (C : zC p R s m args meth c cX5_couplesAcross 6 RX5 wsX5_couplesAcross D T 1 22 0 0) (S0 : Nat → Nat → Int32) (S1 : Nat → Nat → Int32) {v3 : Int32} (x2 : Int32) (x4 : Int32)  (hD : va_D (fun _ => True) (wX5 T a0 S0 ++ wX1 T a1 S1)) {rec : (Int32 × Int32) → Option (Int32)} (hrec : ∀ (c0 : Int32) (c1 : Int32) (b : Int32), rec (c0, c1) = some b → (zt p l e R s m args below meth c 6 A D 0 0 Q (wX5 T a0 S0 ++ wX1 T a1 S1) [(0, .ref (a0 99)), (1, .ref (a1 99)), (2, .int b), (3, .int v3)] 72 []) → zt p l e R s m args below meth c 6 A D 0 0 Q (wX5 T a0 S0 ++ wX1 T a1 S1) [(0, .ref (a0 99)), (1, .ref (a1 99)), (2, .int c0), (3, .int v3), (4, .int c1)] 15 []) {b : Int32} (K : zt p l e R s m args below meth c 6 A D 0 0 Q (wX5 T a0 S0 ++ wX1 T a1 S1) [(0, .ref (a0 99)), (1, .ref (a1 99)), (2, .int b), (3, .int v3)] 72 []) (h : f_X5_couplesAcross_J66 rec S0 S1 x2 v3 x4 = some b) : zt p l e R s m args below meth c 6 A D 0 0 Q (wX5 T a0 S0 ++ wX1 T a1 S1) [(0, .ref (a0 99)), (1, .ref (a1 99)), (2, .int x2), (3, .int v3), (4, .int x4)] 66 [] := by
  unfold f_X5_couplesAcross_J66 at h
  refine z_iinc C (x4 + 1) [(0, .ref (a0 99)), (1, .ref (a1 99)), (2, .int x2), (3, .int v3), (4, .int (x4 + 1))] dX5_couplesAcross_66 4 rfl rfl (Nat.le_of_ble_eq_true rfl) [1, 2, 3, 4, 0] rfl 69 rfl ?_
  refine z_goto C 15 dX5_couplesAcross_69 (by decide) ?_
  exact z_locals (ks := [0, 1, 2, 3, 4]) rfl (hrec _ _ _ h K)

def f_X5_couplesAcross_L15b (S0 : Nat → Nat → Int32) (S1 : Nat → Nat → Int32) (v3 : Int32) (rec : (Int32 × Int32) → Option (Int32)) (a : Int32 × Int32) : Option (Int32) := if (S1 1 0) ≤ a.2 then (some a.1) else ((f_X1_turnBeside S1 a.2 2).bind fun r_1 => (f_X6_cellOf v3 r_1).bind fun r_2 => (f_X6_cellOf v3 a.2).bind fun r_3 => zix r_3 240 fun _ => if (S0 4 (Int32.toNatClampNeg r_3)) = 2 then (zix r_2 240 fun _ => if (S0 4 (Int32.toNatClampNeg r_2)) = 1 then (f_X5_couplesAcross_J66 rec S0 S1 (a.1 + 1) v3 a.2) else (f_X5_couplesAcross_J66 rec S0 S1 a.1 v3 a.2)) else (f_X5_couplesAcross_J66 rec S0 S1 a.1 v3 a.2))
def f_X5_couplesAcross_L15 (S0 : Nat → Nat → Int32) (S1 : Nat → Nat → Int32) (v3 : Int32) : Nat → (Int32 × Int32) → Option (Int32) := zloop (fun rec a => f_X5_couplesAcross_L15b S0 S1 v3 rec a)
set_option maxHeartbeats 4000000 in
set_option maxRecDepth 100000 in
theorem p_X5_couplesAcross_L15 (C : zC p R s m args meth c cX5_couplesAcross 6 RX5 wsX5_couplesAcross D T 1 22 0 0) (S0 : Nat → Nat → Int32) (S1 : Nat → Nat → Int32) (v3 : Int32) (hD : va_D (fun _ => True) (wX5 T a0 S0 ++ wX1 T a1 S1)) : ∀ (n : Nat) (c0 : Int32) (c1 : Int32) (b : Int32), f_X5_couplesAcross_L15 S0 S1 v3 n (c0, c1) = some b → (zt p l e R s m args below meth c 6 A D 0 0 Q (wX5 T a0 S0 ++ wX1 T a1 S1) [(0, .ref (a0 99)), (1, .ref (a1 99)), (2, .int b), (3, .int v3)] 72 []) → zt p l e R s m args below meth c 6 A D 0 0 Q (wX5 T a0 S0 ++ wX1 T a1 S1) [(0, .ref (a0 99)), (1, .ref (a1 99)), (2, .int c0), (3, .int v3), (4, .int c1)] 15 [] := by
  intro n c0 c1 b h K
  refine zloop_ind (P := fun a b => (zt p l e R s m args below meth c 6 A D 0 0 Q (wX5 T a0 S0 ++ wX1 T a1 S1) [(0, .ref (a0 99)), (1, .ref (a1 99)), (2, .int b), (3, .int v3)] 72 []) → zt p l e R s m args below meth c 6 A D 0 0 Q (wX5 T a0 S0 ++ wX1 T a1 S1) [(0, .ref (a0 99)), (1, .ref (a1 99)), (2, .int a.1), (3, .int v3), (4, .int a.2)] 15 []) ?_ n (c0, c1) b h K
  clear h K b c0 c1
  intro rec hrec a b h K
  have hrec : ∀ (c0 : Int32) (c1 : Int32) (b : Int32), rec (c0, c1) = some b → (zt p l e R s m args below meth c 6 A D 0 0 Q (wX5 T a0 S0 ++ wX1 T a1 S1) [(0, .ref (a0 99)), (1, .ref (a1 99)), (2, .int b), (3, .int v3)] 72 []) → zt p l e R s m args below meth c 6 A D 0 0 Q (wX5 T a0 S0 ++ wX1 T a1 S1) [(0, .ref (a0 99)), (1, .ref (a1 99)), (2, .int c0), (3, .int v3), (4, .int c1)] 15 [] := fun c0 c1 b h K => hrec (c0, c1) b h K
  unfold f_X5_couplesAcross_L15b at h
  refine z_iload C dX5_couplesAcross_15 4 rfl 17 rfl ?_
  refine z_aload_n C dX5_couplesAcross_17 rfl 1 rfl 18 rfl ?_
  refine z_get C (in_X5_couplesAcross_X1) 3 rfl rfl 1 (by decide) (List.mem_of_getElem? (i := 2) rfl) rfl rfl dX5_couplesAcross_18 21 rfl ?_
  refine z_icmp_ge C 72 dX5_couplesAcross_21 (by decide) 24 rfl h (fun h => ?_) (fun h => ?_)
  · refine z_locals (ks := [0, 1, 2, 3]) (lv' := [(0, .ref (a0 99)), (1, .ref (a1 99)), (2, .int a.1), (3, .int v3)]) rfl ?_
    exact zex1 (F := (fun e0 => zt p l e R s m args below meth c 6 A D 0 0 Q (wX5 T a0 S0 ++ wX1 T a1 S1) [(0, .ref (a0 99)), (1, .ref (a1 99)), (2, .int e0), (3, .int v3)] 72 [])) h K
  · refine z_iload_n C dX5_couplesAcross_24 rfl 3 rfl 25 rfl ?_
    refine z_aload_n C dX5_couplesAcross_25 rfl 1 rfl 26 rfl ?_
    refine z_iload C dX5_couplesAcross_26 4 rfl 28 rfl ?_
    refine z_iconst C 2 dX5_couplesAcross_28 (by decide) 29 rfl ?_
    refine z_callR C (wX1 T a1 S1) (fun v h => c_X1_turnBeside l D T a1  S1 a.2 2 v h) ⟨rfl, rfl⟩ (z_cwV C 2 gX5_couplesAcross_X1_turnBeside rfl rfl dd_X1_turnBeside ⟨(Nat.le_of_ble_eq_true rfl), (Nat.le_of_ble_eq_true rfl)⟩) (hD.zaddr rfl) [3, 4, 5, 6, 7] rfl rfl (fun _ => ⟨a1 99, [.int a.2, .int 2], 1, 0, _, _, rfl, rfl, rfl, rfl, rfl⟩) (fun h => absurd rfl h) rfl (Nat.le_of_ble_eq_true rfl) dX5_couplesAcross_29 32 rfl h (fun r_1 h => ?_)
    refine z_callR C ([]) (fun v h => c_X6_cellOf l D T    v3 r_1 v h) ⟨rfl, rfl⟩ (z_cwN C 2 gX5_couplesAcross_X6_cellOf_n39 rfl (List.mem_of_getElem? (i := 9) rfl) (List.mem_of_getElem? (i := 10) rfl) (List.mem_of_getElem? (i := 11) rfl) dd_X6_cellOf ⟨(Nat.le_of_ble_eq_true rfl), (Nat.le_of_ble_eq_true rfl)⟩) (hD.zaddr rfl) [] rfl rfl (fun h => absurd h (by decide)) (fun _ => rfl) rfl (Nat.le_of_ble_eq_true rfl) dX5_couplesAcross_32 35 rfl h (fun r_2 h => ?_)
    refine z_istore C [(0, .ref (a0 99)), (1, .ref (a1 99)), (2, .int a.1), (3, .int v3), (4, .int a.2), (5, .int r_2)] dX5_couplesAcross_35 (Nat.le_of_ble_eq_true rfl) [1, 2, 3, 4, 5, 0] rfl 37 rfl ?_
    refine z_aload_n C dX5_couplesAcross_37 rfl 0 rfl 38 rfl ?_
    refine z_get C (in_X5_couplesAcross_X5) 0 rfl rfl 4 (by decide) (List.mem_of_getElem? (i := 3) rfl) rfl rfl dX5_couplesAcross_38 41 rfl ?_
    refine z_iload_n C dX5_couplesAcross_41 rfl 3 rfl 42 rfl ?_
    refine z_iload C dX5_couplesAcross_42 4 rfl 44 rfl ?_
    refine z_callR C ([]) (fun v h => c_X6_cellOf l D T    v3 a.2 v h) ⟨rfl, rfl⟩ (z_cwN C 2 gX5_couplesAcross_X6_cellOf_n39 rfl (List.mem_of_getElem? (i := 9) rfl) (List.mem_of_getElem? (i := 10) rfl) (List.mem_of_getElem? (i := 11) rfl) dd_X6_cellOf ⟨(Nat.le_of_ble_eq_true rfl), (Nat.le_of_ble_eq_true rfl)⟩) (hD.zaddr rfl) [] rfl rfl (fun h => absurd h (by decide)) (fun _ => rfl) rfl (Nat.le_of_ble_eq_true rfl) dX5_couplesAcross_44 47 rfl h (fun r_3 h => ?_)
    refine z_iald C 2 rfl rfl dX5_couplesAcross_47 48 rfl h (fun h => ?_)
    refine z_iconst C 2 dX5_couplesAcross_48 (by decide) 49 rfl ?_
    refine z_icmp_ne C 66 dX5_couplesAcross_49 (by decide) 52 rfl h (fun h => ?_) (fun h => ?_)
    · exact z_locals (ks := [0, 1, 2, 3, 4]) rfl (p_X5_couplesAcross_J66 C S0 S1 a.1 a.2 (hD.zaddr rfl) hrec K h)
    · refine z_aload_n C dX5_couplesAcross_52 rfl 0 rfl 53 rfl ?_
      refine z_get C (in_X5_couplesAcross_X5) 0 rfl rfl 4 (by decide) (List.mem_of_getElem? (i := 3) rfl) rfl rfl dX5_couplesAcross_53 56 rfl ?_
      refine z_iload C dX5_couplesAcross_56 5 rfl 58 rfl ?_
      refine z_iald C 2 rfl rfl dX5_couplesAcross_58 59 rfl h (fun h => ?_)
      refine z_iconst C 1 dX5_couplesAcross_59 (by decide) 60 rfl ?_
      refine z_icmp_ne C 66 dX5_couplesAcross_60 (by decide) 63 rfl h (fun h => ?_) (fun h => ?_)
      · exact z_locals (ks := [0, 1, 2, 3, 4]) rfl (p_X5_couplesAcross_J66 C S0 S1 a.1 a.2 (hD.zaddr rfl) hrec K h)
      · refine z_iinc C (a.1 + 1) [(0, .ref (a0 99)), (1, .ref (a1 99)), (2, .int (a.1 + 1)), (3, .int v3), (4, .int a.2), (5, .int r_2)] dX5_couplesAcross_63 2 rfl rfl (Nat.le_of_ble_eq_true rfl) [1, 2, 0, 3, 4, 5] rfl 66 rfl ?_
        exact z_locals (ks := [0, 1, 2, 3, 4]) rfl (p_X5_couplesAcross_J66 C S0 S1 (a.1 + 1) a.2 (hD.zaddr rfl) hrec K h)

def f_X5_couplesAcross_L4b (S0 : Nat → Nat → Int32) (S1 : Nat → Nat → Int32)  (rec : (Int32 × Int32) → Option (Int32)) (a : Int32 × Int32) : Option (Int32) := if (S1 0 0) < a.2 then (some a.1) else ((f_X5_couplesAcross_L15 S0 S1 a.2 zfuel (a.1, 0)).bind fun y_4 => rec (y_4, (a.2 + 1)))
def f_X5_couplesAcross_L4 (S0 : Nat → Nat → Int32) (S1 : Nat → Nat → Int32)  : Nat → (Int32 × Int32) → Option (Int32) := zloop (fun rec a => f_X5_couplesAcross_L4b S0 S1 rec a)
set_option maxHeartbeats 4000000 in
set_option maxRecDepth 100000 in
theorem p_X5_couplesAcross_L4 (C : zC p R s m args meth c cX5_couplesAcross 6 RX5 wsX5_couplesAcross D T 1 22 0 0) (S0 : Nat → Nat → Int32) (S1 : Nat → Nat → Int32)  (hD : va_D (fun _ => True) (wX5 T a0 S0 ++ wX1 T a1 S1)) : ∀ (n : Nat) (c0 : Int32) (c1 : Int32) (b : Int32), f_X5_couplesAcross_L4 S0 S1 n (c0, c1) = some b → (zt p l e R s m args below meth c 6 A D 0 0 Q (wX5 T a0 S0 ++ wX1 T a1 S1) [(2, .int b)] 78 []) → zt p l e R s m args below meth c 6 A D 0 0 Q (wX5 T a0 S0 ++ wX1 T a1 S1) [(0, .ref (a0 99)), (1, .ref (a1 99)), (2, .int c0), (3, .int c1)] 4 [] := by
  intro n c0 c1 b h K
  refine zloop_ind (P := fun a b => (zt p l e R s m args below meth c 6 A D 0 0 Q (wX5 T a0 S0 ++ wX1 T a1 S1) [(2, .int b)] 78 []) → zt p l e R s m args below meth c 6 A D 0 0 Q (wX5 T a0 S0 ++ wX1 T a1 S1) [(0, .ref (a0 99)), (1, .ref (a1 99)), (2, .int a.1), (3, .int a.2)] 4 []) ?_ n (c0, c1) b h K
  clear h K b c0 c1
  intro rec hrec a b h K
  have hrec : ∀ (c0 : Int32) (c1 : Int32) (b : Int32), rec (c0, c1) = some b → (zt p l e R s m args below meth c 6 A D 0 0 Q (wX5 T a0 S0 ++ wX1 T a1 S1) [(2, .int b)] 78 []) → zt p l e R s m args below meth c 6 A D 0 0 Q (wX5 T a0 S0 ++ wX1 T a1 S1) [(0, .ref (a0 99)), (1, .ref (a1 99)), (2, .int c0), (3, .int c1)] 4 [] := fun c0 c1 b h K => hrec (c0, c1) b h K
  unfold f_X5_couplesAcross_L4b at h
  refine z_iload_n C dX5_couplesAcross_4 rfl 3 rfl 5 rfl ?_
  refine z_aload_n C dX5_couplesAcross_5 rfl 1 rfl 6 rfl ?_
  refine z_get C (in_X5_couplesAcross_X1) 3 rfl rfl 0 (by decide) (List.mem_of_getElem? (i := 1) rfl) rfl rfl dX5_couplesAcross_6 9 rfl ?_
  refine z_icmp_gt C 78 dX5_couplesAcross_9 (by decide) 12 rfl h (fun h => ?_) (fun h => ?_)
  · refine z_locals (ks := [2]) (lv' := [(2, .int a.1)]) rfl ?_
    exact zex1 (F := (fun e0 => zt p l e R s m args below meth c 6 A D 0 0 Q (wX5 T a0 S0 ++ wX1 T a1 S1) [(2, .int e0)] 78 [])) h K
  · refine z_iconst C 0 dX5_couplesAcross_12 (by decide) 13 rfl ?_
    refine z_istore C [(0, .ref (a0 99)), (1, .ref (a1 99)), (2, .int a.1), (3, .int a.2), (4, .int 0)] dX5_couplesAcross_13 (Nat.le_of_ble_eq_true rfl) [1, 2, 3, 4, 0] rfl 15 rfl ?_
    obtain ⟨y_4, hl_y_4, h⟩ := Option.bind_eq_some_iff.mp h
    refine z_locals (ks := [0, 1, 2, 3, 4]) rfl (p_X5_couplesAcross_L15 C S0 S1 a.2 (hD.zaddr rfl) _ _ _ _ hl_y_4 ?_)
    refine z_iinc C (a.2 + 1) [(0, .ref (a0 99)), (1, .ref (a1 99)), (2, .int y_4), (3, .int (a.2 + 1))] dX5_couplesAcross_72 3 rfl rfl (Nat.le_of_ble_eq_true rfl) [1, 2, 3, 0] rfl 75 rfl ?_
    refine z_goto C 4 dX5_couplesAcross_75 (by decide) ?_
    exact z_locals (ks := [0, 1, 2, 3]) rfl (hrec _ _ _ h K)

def f_X5_couplesAcross (S0 : Nat → Nat → Int32) (S1 : Nat → Nat → Int32)  : Option (Int32) := (f_X5_couplesAcross_L4 S0 S1 zfuel (0, 1)).bind fun y_5 => some y_5
theorem dd_X5_couplesAcross : RX5 ≠ "java/lang/invoke/MethodHandle" ∧ RX5 ≠ "java/lang/invoke/VarHandle" ∧ (parseMethodDescriptor yX5_couplesAcross.desc).map (fun d => d.parameters.length) = some 1 := by decide +kernel
set_option maxHeartbeats 4000000 in
set_option maxRecDepth 100000 in
theorem c_X5_couplesAcross (l : Launch) (D : va_G) (T : Nat → ClassId) (a0 : Nat → Nat) (a1 : Nat → Nat) (S0 : Nat → Nat → Int32) (S1 : Nat → Nat → Int32)  (ex : Int32) (h : f_X5_couplesAcross S0 S1 = some ex) : zRI l yX5_couplesAcross wsX5_couplesAcross ({ frames := 1, cells := 0, slots := 0, locals := 22 } : Room) D T [.ref (a0 99), .ref (a1 99)] (wX5 T a0 S0 ++ wX1 T a1 S1) ex := by
  refine z_begin (cc := cX5_couplesAcross) (nL := 6) (own := RX5) (fr := 1) (lc := 22) (ret := some .int) (by decide) rfl (Nat.le_of_ble_eq_true rfl) (fun _ => False) rfl [(0, .ref (a0 99)), (1, .ref (a1 99))] rfl ⟨rfl, rfl⟩ rfl ?_
  intro p e s m args below meth c C hr hD
  unfold f_X5_couplesAcross at h
  refine z_iconst C 0 dX5_couplesAcross_0 (by decide) 1 rfl ?_
  refine z_istore_n C [(0, .ref (a0 99)), (1, .ref (a1 99)), (2, .int 0)] dX5_couplesAcross_1 rfl (Nat.le_of_ble_eq_true rfl) [1, 2, 0] rfl 2 rfl ?_
  refine z_iconst C 1 dX5_couplesAcross_2 (by decide) 3 rfl ?_
  refine z_istore_n C [(0, .ref (a0 99)), (1, .ref (a1 99)), (2, .int 0), (3, .int 1)] dX5_couplesAcross_3 rfl (Nat.le_of_ble_eq_true rfl) [1, 2, 3, 0] rfl 4 rfl ?_
  obtain ⟨y_5, hl_y_5, h⟩ := Option.bind_eq_some_iff.mp h
  refine z_locals (ks := [0, 1, 2, 3]) rfl (p_X5_couplesAcross_L4 C S0 S1  (hD.zaddr rfl) _ _ _ _ hl_y_5 ?_)
  refine z_iload_n C dX5_couplesAcross_78 rfl 0 rfl 79 rfl ?_
  exact z_iretR C hr dX5_couplesAcross_79 h

end
/-! StreamTree$Tree.greatestWidth (LStreamTree$Chart;)I -/
section
variable {p : Program} {l : Launch} {e : Env} {R : Room} {s : State} {m : MethodId} {args : Array Value} {below : List Frame} {meth : Method} {c : Code} {Q : State → Prop} {A : Nat → Prop} {D : va_G} {T : Nat → ClassId} {a0 : Nat → Nat} {a1 : Nat → Nat}
theorem in_X5_greatestWidth_X5 : ∀ w ∈ u_ws RX5 TX5 5, w ∈ wsX5_greatestWidth := fun _ h => (List.mem_cons_of_mem _ (List.mem_append_right _ h))
theorem in_X5_greatestWidth_X1 : ∀ w ∈ u_ws RX1 TX1 10, w ∈ wsX5_greatestWidth := fun _ h => (List.mem_cons_of_mem _ (List.mem_append_left _ (List.mem_append_right _ h)))
def f_X5_greatestWidth_L15b (S0 : Nat → Nat → Int32) (S1 : Nat → Nat → Int32) (v3 : Int32) (rec : (Int32 × Int32) → Option (Int32)) (a : Int32 × Int32) : Option (Int32) := if (S1 1 0) ≤ a.2 then (some a.1) else ((f_X6_cellOf v3 a.2).bind fun r_1 => zix r_1 240 fun _ => (f_X1_amountOf S1 (S0 3 (Int32.toNatClampNeg r_1))).bind fun r_2 => zlet (if a.1 < r_2 then r_2 else a.1) fun u_3 => rec (u_3, (a.2 + 1)))
def f_X5_greatestWidth_L15 (S0 : Nat → Nat → Int32) (S1 : Nat → Nat → Int32) (v3 : Int32) : Nat → (Int32 × Int32) → Option (Int32) := zloop (fun rec a => f_X5_greatestWidth_L15b S0 S1 v3 rec a)
set_option maxHeartbeats 4000000 in
set_option maxRecDepth 100000 in
theorem p_X5_greatestWidth_L15 (C : zC p R s m args meth c cX5_greatestWidth 5 RX5 wsX5_greatestWidth D T 1 23 0 0) (S0 : Nat → Nat → Int32) (S1 : Nat → Nat → Int32) (v3 : Int32) (hD : va_D (fun _ => True) (wX5 T a0 S0 ++ wX1 T a1 S1)) : ∀ (n : Nat) (c0 : Int32) (c1 : Int32) (b : Int32), f_X5_greatestWidth_L15 S0 S1 v3 n (c0, c1) = some b → (zt p l e R s m args below meth c 5 A D 0 0 Q (wX5 T a0 S0 ++ wX1 T a1 S1) [(0, .ref (a0 99)), (1, .ref (a1 99)), (2, .int b), (3, .int v3)] 50 []) → zt p l e R s m args below meth c 5 A D 0 0 Q (wX5 T a0 S0 ++ wX1 T a1 S1) [(0, .ref (a0 99)), (1, .ref (a1 99)), (2, .int c0), (3, .int v3), (4, .int c1)] 15 [] := by
  intro n c0 c1 b h K
  refine zloop_ind (P := fun a b => (zt p l e R s m args below meth c 5 A D 0 0 Q (wX5 T a0 S0 ++ wX1 T a1 S1) [(0, .ref (a0 99)), (1, .ref (a1 99)), (2, .int b), (3, .int v3)] 50 []) → zt p l e R s m args below meth c 5 A D 0 0 Q (wX5 T a0 S0 ++ wX1 T a1 S1) [(0, .ref (a0 99)), (1, .ref (a1 99)), (2, .int a.1), (3, .int v3), (4, .int a.2)] 15 []) ?_ n (c0, c1) b h K
  clear h K b c0 c1
  intro rec hrec a b h K
  have hrec : ∀ (c0 : Int32) (c1 : Int32) (b : Int32), rec (c0, c1) = some b → (zt p l e R s m args below meth c 5 A D 0 0 Q (wX5 T a0 S0 ++ wX1 T a1 S1) [(0, .ref (a0 99)), (1, .ref (a1 99)), (2, .int b), (3, .int v3)] 50 []) → zt p l e R s m args below meth c 5 A D 0 0 Q (wX5 T a0 S0 ++ wX1 T a1 S1) [(0, .ref (a0 99)), (1, .ref (a1 99)), (2, .int c0), (3, .int v3), (4, .int c1)] 15 [] := fun c0 c1 b h K => hrec (c0, c1) b h K
  unfold f_X5_greatestWidth_L15b at h
  refine z_iload C dX5_greatestWidth_15 4 rfl 17 rfl ?_
  refine z_aload_n C dX5_greatestWidth_17 rfl 1 rfl 18 rfl ?_
  refine z_get C (in_X5_greatestWidth_X1) 3 rfl rfl 1 (by decide) (List.mem_of_getElem? (i := 2) rfl) rfl rfl dX5_greatestWidth_18 21 rfl ?_
  refine z_icmp_ge C 50 dX5_greatestWidth_21 (by decide) 24 rfl h (fun h => ?_) (fun h => ?_)
  · refine z_locals (ks := [0, 1, 2, 3]) (lv' := [(0, .ref (a0 99)), (1, .ref (a1 99)), (2, .int a.1), (3, .int v3)]) rfl ?_
    exact zex1 (F := (fun e0 => zt p l e R s m args below meth c 5 A D 0 0 Q (wX5 T a0 S0 ++ wX1 T a1 S1) [(0, .ref (a0 99)), (1, .ref (a1 99)), (2, .int e0), (3, .int v3)] 50 [])) h K
  · refine z_iload_n C dX5_greatestWidth_24 rfl 2 rfl 25 rfl ?_
    refine z_aload_n C dX5_greatestWidth_25 rfl 1 rfl 26 rfl ?_
    refine z_aload_n C dX5_greatestWidth_26 rfl 0 rfl 27 rfl ?_
    refine z_get C (in_X5_greatestWidth_X5) 0 rfl rfl 3 (by decide) (List.mem_of_getElem? (i := 3) rfl) rfl rfl dX5_greatestWidth_27 30 rfl ?_
    refine z_iload_n C dX5_greatestWidth_30 rfl 3 rfl 31 rfl ?_
    refine z_iload C dX5_greatestWidth_31 4 rfl 33 rfl ?_
    refine z_callR C ([]) (fun v h => c_X6_cellOf l D T    v3 a.2 v h) ⟨rfl, rfl⟩ (z_cwN C 2 gX5_greatestWidth_X6_cellOf_n39 rfl (List.mem_of_getElem? (i := 9) rfl) (List.mem_of_getElem? (i := 8) rfl) (List.mem_of_getElem? (i := 9) rfl) dd_X6_cellOf ⟨(Nat.le_of_ble_eq_true rfl), (Nat.le_of_ble_eq_true rfl)⟩) (hD.zaddr rfl) [] rfl rfl (fun h => absurd h (by decide)) (fun _ => rfl) rfl (Nat.le_of_ble_eq_true rfl) dX5_greatestWidth_33 36 rfl h (fun r_1 h => ?_)
    refine z_iald C 1 rfl rfl dX5_greatestWidth_36 37 rfl h (fun h => ?_)
    refine z_callR C (wX1 T a1 S1) (fun v h => c_X1_amountOf l D T a1  S1 (S0 3 (Int32.toNatClampNeg r_1)) v h) ⟨rfl, rfl⟩ (z_cwV C 1 gX5_greatestWidth_X1_amountOf rfl rfl dd_X1_amountOf ⟨(Nat.le_of_ble_eq_true rfl), (Nat.le_of_ble_eq_true rfl)⟩) (hD.zaddr rfl) [3, 4, 5, 6, 7] rfl rfl (fun _ => ⟨a1 99, [.int (S0 3 (Int32.toNatClampNeg r_1))], 1, 0, _, _, rfl, rfl, rfl, rfl, rfl⟩) (fun h => absurd rfl h) rfl (Nat.le_of_ble_eq_true rfl) dX5_greatestWidth_37 40 rfl h (fun r_2 h => ?_)
    refine z_mmax C (List.mem_of_getElem? (i := 4) rfl) (List.mem_of_getElem? (i := 5) rfl) (List.mem_of_getElem? (i := 6) rfl) (List.mem_of_getElem? (i := 7) rfl) (Nat.le_of_ble_eq_true rfl) (Nat.le_of_ble_eq_true rfl) (Nat.le_of_ble_eq_true rfl) dX5_greatestWidth_40 43 rfl ?_
    refine z_top h (fun u_3 h => ?_)
    refine z_istore_n C [(0, .ref (a0 99)), (1, .ref (a1 99)), (2, .int u_3), (3, .int v3), (4, .int a.2)] dX5_greatestWidth_43 rfl (Nat.le_of_ble_eq_true rfl) [1, 2, 0, 3, 4] rfl 44 rfl ?_
    refine z_iinc C (a.2 + 1) [(0, .ref (a0 99)), (1, .ref (a1 99)), (2, .int u_3), (3, .int v3), (4, .int (a.2 + 1))] dX5_greatestWidth_44 4 rfl rfl (Nat.le_of_ble_eq_true rfl) [1, 2, 3, 4, 0] rfl 47 rfl ?_
    refine z_goto C 15 dX5_greatestWidth_47 (by decide) ?_
    exact z_locals (ks := [0, 1, 2, 3, 4]) rfl (hrec _ _ _ h K)

def f_X5_greatestWidth_L4b (S0 : Nat → Nat → Int32) (S1 : Nat → Nat → Int32)  (rec : (Int32 × Int32) → Option (Int32)) (a : Int32 × Int32) : Option (Int32) := if (S1 0 0) < a.2 then (some a.1) else ((f_X5_greatestWidth_L15 S0 S1 a.2 zfuel (a.1, 0)).bind fun y_4 => rec (y_4, (a.2 + 1)))
def f_X5_greatestWidth_L4 (S0 : Nat → Nat → Int32) (S1 : Nat → Nat → Int32)  : Nat → (Int32 × Int32) → Option (Int32) := zloop (fun rec a => f_X5_greatestWidth_L4b S0 S1 rec a)
set_option maxHeartbeats 4000000 in
set_option maxRecDepth 100000 in
theorem p_X5_greatestWidth_L4 (C : zC p R s m args meth c cX5_greatestWidth 5 RX5 wsX5_greatestWidth D T 1 23 0 0) (S0 : Nat → Nat → Int32) (S1 : Nat → Nat → Int32)  (hD : va_D (fun _ => True) (wX5 T a0 S0 ++ wX1 T a1 S1)) : ∀ (n : Nat) (c0 : Int32) (c1 : Int32) (b : Int32), f_X5_greatestWidth_L4 S0 S1 n (c0, c1) = some b → (zt p l e R s m args below meth c 5 A D 0 0 Q (wX5 T a0 S0 ++ wX1 T a1 S1) [(2, .int b)] 56 []) → zt p l e R s m args below meth c 5 A D 0 0 Q (wX5 T a0 S0 ++ wX1 T a1 S1) [(0, .ref (a0 99)), (1, .ref (a1 99)), (2, .int c0), (3, .int c1)] 4 [] := by
  intro n c0 c1 b h K
  refine zloop_ind (P := fun a b => (zt p l e R s m args below meth c 5 A D 0 0 Q (wX5 T a0 S0 ++ wX1 T a1 S1) [(2, .int b)] 56 []) → zt p l e R s m args below meth c 5 A D 0 0 Q (wX5 T a0 S0 ++ wX1 T a1 S1) [(0, .ref (a0 99)), (1, .ref (a1 99)), (2, .int a.1), (3, .int a.2)] 4 []) ?_ n (c0, c1) b h K
  clear h K b c0 c1
  intro rec hrec a b h K
  have hrec : ∀ (c0 : Int32) (c1 : Int32) (b : Int32), rec (c0, c1) = some b → (zt p l e R s m args below meth c 5 A D 0 0 Q (wX5 T a0 S0 ++ wX1 T a1 S1) [(2, .int b)] 56 []) → zt p l e R s m args below meth c 5 A D 0 0 Q (wX5 T a0 S0 ++ wX1 T a1 S1) [(0, .ref (a0 99)), (1, .ref (a1 99)), (2, .int c0), (3, .int c1)] 4 [] := fun c0 c1 b h K => hrec (c0, c1) b h K
  unfold f_X5_greatestWidth_L4b at h
  refine z_iload_n C dX5_greatestWidth_4 rfl 3 rfl 5 rfl ?_
  refine z_aload_n C dX5_greatestWidth_5 rfl 1 rfl 6 rfl ?_
  refine z_get C (in_X5_greatestWidth_X1) 3 rfl rfl 0 (by decide) (List.mem_of_getElem? (i := 1) rfl) rfl rfl dX5_greatestWidth_6 9 rfl ?_
  refine z_icmp_gt C 56 dX5_greatestWidth_9 (by decide) 12 rfl h (fun h => ?_) (fun h => ?_)
  · refine z_locals (ks := [2]) (lv' := [(2, .int a.1)]) rfl ?_
    exact zex1 (F := (fun e0 => zt p l e R s m args below meth c 5 A D 0 0 Q (wX5 T a0 S0 ++ wX1 T a1 S1) [(2, .int e0)] 56 [])) h K
  · refine z_iconst C 0 dX5_greatestWidth_12 (by decide) 13 rfl ?_
    refine z_istore C [(0, .ref (a0 99)), (1, .ref (a1 99)), (2, .int a.1), (3, .int a.2), (4, .int 0)] dX5_greatestWidth_13 (Nat.le_of_ble_eq_true rfl) [1, 2, 3, 4, 0] rfl 15 rfl ?_
    obtain ⟨y_4, hl_y_4, h⟩ := Option.bind_eq_some_iff.mp h
    refine z_locals (ks := [0, 1, 2, 3, 4]) rfl (p_X5_greatestWidth_L15 C S0 S1 a.2 (hD.zaddr rfl) _ _ _ _ hl_y_4 ?_)
    refine z_iinc C (a.2 + 1) [(0, .ref (a0 99)), (1, .ref (a1 99)), (2, .int y_4), (3, .int (a.2 + 1))] dX5_greatestWidth_50 3 rfl rfl (Nat.le_of_ble_eq_true rfl) [1, 2, 3, 0] rfl 53 rfl ?_
    refine z_goto C 4 dX5_greatestWidth_53 (by decide) ?_
    exact z_locals (ks := [0, 1, 2, 3]) rfl (hrec _ _ _ h K)

def f_X5_greatestWidth (S0 : Nat → Nat → Int32) (S1 : Nat → Nat → Int32)  : Option (Int32) := (f_X5_greatestWidth_L4 S0 S1 zfuel (0, 1)).bind fun y_5 => some y_5
theorem dd_X5_greatestWidth : RX5 ≠ "java/lang/invoke/MethodHandle" ∧ RX5 ≠ "java/lang/invoke/VarHandle" ∧ (parseMethodDescriptor yX5_greatestWidth.desc).map (fun d => d.parameters.length) = some 1 := by decide +kernel
set_option maxHeartbeats 4000000 in
set_option maxRecDepth 100000 in
theorem c_X5_greatestWidth (l : Launch) (D : va_G) (T : Nat → ClassId) (a0 : Nat → Nat) (a1 : Nat → Nat) (S0 : Nat → Nat → Int32) (S1 : Nat → Nat → Int32)  (ex : Int32) (h : f_X5_greatestWidth S0 S1 = some ex) : zRI l yX5_greatestWidth wsX5_greatestWidth ({ frames := 1, cells := 0, slots := 0, locals := 23 } : Room) D T [.ref (a0 99), .ref (a1 99)] (wX5 T a0 S0 ++ wX1 T a1 S1) ex := by
  refine z_begin (cc := cX5_greatestWidth) (nL := 5) (own := RX5) (fr := 1) (lc := 23) (ret := some .int) (by decide) rfl (Nat.le_of_ble_eq_true rfl) (fun _ => False) rfl [(0, .ref (a0 99)), (1, .ref (a1 99))] rfl ⟨rfl, rfl⟩ rfl ?_
  intro p e s m args below meth c C hr hD
  unfold f_X5_greatestWidth at h
  refine z_iconst C 0 dX5_greatestWidth_0 (by decide) 1 rfl ?_
  refine z_istore_n C [(0, .ref (a0 99)), (1, .ref (a1 99)), (2, .int 0)] dX5_greatestWidth_1 rfl (Nat.le_of_ble_eq_true rfl) [1, 2, 0] rfl 2 rfl ?_
  refine z_iconst C 1 dX5_greatestWidth_2 (by decide) 3 rfl ?_
  refine z_istore_n C [(0, .ref (a0 99)), (1, .ref (a1 99)), (2, .int 0), (3, .int 1)] dX5_greatestWidth_3 rfl (Nat.le_of_ble_eq_true rfl) [1, 2, 3, 0] rfl 4 rfl ?_
  obtain ⟨y_5, hl_y_5, h⟩ := Option.bind_eq_some_iff.mp h
  refine z_locals (ks := [0, 1, 2, 3]) rfl (p_X5_greatestWidth_L4 C S0 S1  (hD.zaddr rfl) _ _ _ _ hl_y_5 ?_)
  refine z_iload_n C dX5_greatestWidth_56 rfl 0 rfl 57 rfl ?_
  exact z_iretR C hr dX5_greatestWidth_57 h

end
/-! StreamTree$Tree.turnOnWay (LStreamTree$Chart;II)I -/
section
variable {p : Program} {l : Launch} {e : Env} {R : Room} {s : State} {m : MethodId} {args : Array Value} {below : List Frame} {meth : Method} {c : Code} {Q : State → Prop} {A : Nat → Prop} {D : va_G} {T : Nat → ClassId} {a0 : Nat → Nat} {a1 : Nat → Nat}
theorem in_X5_turnOnWay_X5 : ∀ w ∈ u_ws RX5 TX5 5, w ∈ wsX5_turnOnWay := fun _ h => (List.mem_cons_of_mem _ (List.mem_append_right _ h))
theorem in_X5_turnOnWay_X1 : ∀ w ∈ u_ws RX1 TX1 10, w ∈ wsX5_turnOnWay := fun _ h => (List.mem_cons_of_mem _ (List.mem_append_left _ (List.mem_append_right _ h)))
def f_X5_turnOnWay_L22b (S0 : Nat → Nat → Int32) (S1 : Nat → Nat → Int32) (v3 : Int32) (rec : (Int32 × Int32) → Option (Int32)) (a : Int32 × Int32) : Option (Int32) := if a.2 ≤ v3 then (some a.1) else ((f_X6_cellOf a.2 a.1).bind fun r_3 => zix r_3 240 fun _ => (f_X1_turnBeside S1 a.1 (S0 4 (Int32.toNatClampNeg r_3))).bind fun r_4 => rec (r_4, (a.2 + (-1))))
def f_X5_turnOnWay_L22 (S0 : Nat → Nat → Int32) (S1 : Nat → Nat → Int32) (v3 : Int32) : Nat → (Int32 × Int32) → Option (Int32) := zloop (fun rec a => f_X5_turnOnWay_L22b S0 S1 v3 rec a)
set_option maxHeartbeats 4000000 in
set_option maxRecDepth 100000 in
theorem p_X5_turnOnWay_L22 (C : zC p R s m args meth c cX5_turnOnWay 6 RX5 wsX5_turnOnWay D T 1 22 0 0) (S0 : Nat → Nat → Int32) (S1 : Nat → Nat → Int32) (v3 : Int32) (hD : va_D (fun _ => True) (wX5 T a0 S0 ++ wX1 T a1 S1)) : ∀ (n : Nat) (c0 : Int32) (c1 : Int32) (b : Int32), f_X5_turnOnWay_L22 S0 S1 v3 n (c0, c1) = some b → (zt p l e R s m args below meth c 6 A D 0 0 Q (wX5 T a0 S0 ++ wX1 T a1 S1) [(4, .int b)] 54 []) → zt p l e R s m args below meth c 6 A D 0 0 Q (wX5 T a0 S0 ++ wX1 T a1 S1) [(0, .ref (a0 99)), (1, .ref (a1 99)), (3, .int v3), (4, .int c0), (5, .int c1)] 22 [] := by
  intro n c0 c1 b h K
  refine zloop_ind (P := fun a b => (zt p l e R s m args below meth c 6 A D 0 0 Q (wX5 T a0 S0 ++ wX1 T a1 S1) [(4, .int b)] 54 []) → zt p l e R s m args below meth c 6 A D 0 0 Q (wX5 T a0 S0 ++ wX1 T a1 S1) [(0, .ref (a0 99)), (1, .ref (a1 99)), (3, .int v3), (4, .int a.1), (5, .int a.2)] 22 []) ?_ n (c0, c1) b h K
  clear h K b c0 c1
  intro rec hrec a b h K
  have hrec : ∀ (c0 : Int32) (c1 : Int32) (b : Int32), rec (c0, c1) = some b → (zt p l e R s m args below meth c 6 A D 0 0 Q (wX5 T a0 S0 ++ wX1 T a1 S1) [(4, .int b)] 54 []) → zt p l e R s m args below meth c 6 A D 0 0 Q (wX5 T a0 S0 ++ wX1 T a1 S1) [(0, .ref (a0 99)), (1, .ref (a1 99)), (3, .int v3), (4, .int c0), (5, .int c1)] 22 [] := fun c0 c1 b h K => hrec (c0, c1) b h K
  unfold f_X5_turnOnWay_L22b at h
  refine z_iload C dX5_turnOnWay_22 4 rfl 24 rfl ?_
  refine z_iload_n C dX5_turnOnWay_24 rfl 2 rfl 25 rfl ?_
  refine z_icmp_le C 54 dX5_turnOnWay_25 (by decide) 28 rfl h (fun h => ?_) (fun h => ?_)
  · refine z_locals (ks := [3]) (lv' := [(4, .int a.1)]) rfl ?_
    exact zex1 (F := (fun e0 => zt p l e R s m args below meth c 6 A D 0 0 Q (wX5 T a0 S0 ++ wX1 T a1 S1) [(4, .int e0)] 54 [])) h K
  · refine z_aload_n C dX5_turnOnWay_28 rfl 1 rfl 29 rfl ?_
    refine z_iload C dX5_turnOnWay_29 3 rfl 31 rfl ?_
    refine z_aload_n C dX5_turnOnWay_31 rfl 0 rfl 32 rfl ?_
    refine z_get C (in_X5_turnOnWay_X5) 0 rfl rfl 4 (by decide) (List.mem_of_getElem? (i := 3) rfl) rfl rfl dX5_turnOnWay_32 35 rfl ?_
    refine z_iload C dX5_turnOnWay_35 4 rfl 37 rfl ?_
    refine z_iload C dX5_turnOnWay_37 3 rfl 39 rfl ?_
    refine z_callR C ([]) (fun v h => c_X6_cellOf l D T    a.2 a.1 v h) ⟨rfl, rfl⟩ (z_cwN C 2 gX5_turnOnWay_X6_cellOf_n39 rfl (List.mem_of_getElem? (i := 9) rfl) (List.mem_of_getElem? (i := 4) rfl) (List.mem_of_getElem? (i := 5) rfl) dd_X6_cellOf ⟨(Nat.le_of_ble_eq_true rfl), (Nat.le_of_ble_eq_true rfl)⟩) (hD.zaddr rfl) [] rfl rfl (fun h => absurd h (by decide)) (fun _ => rfl) rfl (Nat.le_of_ble_eq_true rfl) dX5_turnOnWay_39 42 rfl h (fun r_3 h => ?_)
    refine z_iald C 2 rfl rfl dX5_turnOnWay_42 43 rfl h (fun h => ?_)
    refine z_callR C (wX1 T a1 S1) (fun v h => c_X1_turnBeside l D T a1  S1 a.1 (S0 4 (Int32.toNatClampNeg r_3)) v h) ⟨rfl, rfl⟩ (z_cwV C 2 gX5_turnOnWay_X1_turnBeside rfl rfl dd_X1_turnBeside ⟨(Nat.le_of_ble_eq_true rfl), (Nat.le_of_ble_eq_true rfl)⟩) (hD.zaddr rfl) [3, 4, 5, 6, 7] rfl rfl (fun _ => ⟨a1 99, [.int a.1, .int (S0 4 (Int32.toNatClampNeg r_3))], 1, 0, _, _, rfl, rfl, rfl, rfl, rfl⟩) (fun h => absurd rfl h) rfl (Nat.le_of_ble_eq_true rfl) dX5_turnOnWay_43 46 rfl h (fun r_4 h => ?_)
    refine z_istore C [(0, .ref (a0 99)), (1, .ref (a1 99)), (3, .int v3), (4, .int r_4), (5, .int a.2)] dX5_turnOnWay_46 (Nat.le_of_ble_eq_true rfl) [1, 2, 3, 0, 4] rfl 48 rfl ?_
    refine z_iinc C (a.2 + (-1)) [(0, .ref (a0 99)), (1, .ref (a1 99)), (3, .int v3), (4, .int r_4), (5, .int (a.2 + (-1)))] dX5_turnOnWay_48 4 rfl rfl (Nat.le_of_ble_eq_true rfl) [1, 2, 3, 4, 0] rfl 51 rfl ?_
    refine z_goto C 22 dX5_turnOnWay_51 (by decide) ?_
    exact z_locals (ks := [0, 1, 2, 3, 4]) rfl (hrec _ _ _ h K)

def f_X5_turnOnWay (S0 : Nat → Nat → Int32) (S1 : Nat → Nat → Int32) (v2 : Int32) (v3 : Int32) : Option (Int32) := if v3 = 0 then (some 0) else (zix v2 7 fun _ => zlet (S1 7 (Int32.toNatClampNeg v2)) fun u_1 => zix v2 7 fun _ => zlet (S1 6 (Int32.toNatClampNeg v2)) fun u_2 => (f_X5_turnOnWay_L22 S0 S1 v3 zfuel (u_1, u_2)).bind fun y_5 => some y_5)
theorem dd_X5_turnOnWay : RX5 ≠ "java/lang/invoke/MethodHandle" ∧ RX5 ≠ "java/lang/invoke/VarHandle" ∧ (parseMethodDescriptor yX5_turnOnWay.desc).map (fun d => d.parameters.length) = some 3 := by decide +kernel
set_option maxHeartbeats 4000000 in
set_option maxRecDepth 100000 in
theorem c_X5_turnOnWay (l : Launch) (D : va_G) (T : Nat → ClassId) (a0 : Nat → Nat) (a1 : Nat → Nat) (S0 : Nat → Nat → Int32) (S1 : Nat → Nat → Int32) (v2 : Int32) (v3 : Int32) (ex : Int32) (h : f_X5_turnOnWay S0 S1 v2 v3 = some ex) : zRI l yX5_turnOnWay wsX5_turnOnWay ({ frames := 1, cells := 0, slots := 0, locals := 22 } : Room) D T [.ref (a0 99), .ref (a1 99), .int v2, .int v3] (wX5 T a0 S0 ++ wX1 T a1 S1) ex := by
  refine z_begin (cc := cX5_turnOnWay) (nL := 6) (own := RX5) (fr := 1) (lc := 22) (ret := some .int) (by decide) rfl (Nat.le_of_ble_eq_true rfl) (fun _ => False) rfl [(0, .ref (a0 99)), (1, .ref (a1 99)), (2, .int v2), (3, .int v3)] rfl ⟨rfl, rfl⟩ rfl ?_
  intro p e s m args below meth c C hr hD
  unfold f_X5_turnOnWay at h
  refine z_iload_n C dX5_turnOnWay_0 rfl 3 rfl 1 rfl ?_
  refine z_if_ne C 6 dX5_turnOnWay_1 (by decide) 4 rfl h (fun h => ?_) (fun h => ?_)
  · refine z_aload_n C dX5_turnOnWay_6 rfl 1 rfl 7 rfl ?_
    refine z_get C (in_X5_turnOnWay_X1) 3 rfl rfl 7 (by decide) (List.mem_of_getElem? (i := 1) rfl) rfl rfl dX5_turnOnWay_7 10 rfl ?_
    refine z_iload_n C dX5_turnOnWay_10 rfl 2 rfl 11 rfl ?_
    refine z_iald C 5 rfl rfl dX5_turnOnWay_11 12 rfl h (fun h => ?_)
    refine z_top h (fun u_1 h => ?_)
    refine z_istore C [(0, .ref (a0 99)), (1, .ref (a1 99)), (2, .int v2), (3, .int v3), (4, .int u_1)] dX5_turnOnWay_12 (Nat.le_of_ble_eq_true rfl) [1, 2, 3, 4, 0] rfl 14 rfl ?_
    refine z_aload_n C dX5_turnOnWay_14 rfl 1 rfl 15 rfl ?_
    refine z_get C (in_X5_turnOnWay_X1) 3 rfl rfl 6 (by decide) (List.mem_of_getElem? (i := 2) rfl) rfl rfl dX5_turnOnWay_15 18 rfl ?_
    refine z_iload_n C dX5_turnOnWay_18 rfl 2 rfl 19 rfl ?_
    refine z_iald C 4 rfl rfl dX5_turnOnWay_19 20 rfl h (fun h => ?_)
    refine z_top h (fun u_2 h => ?_)
    refine z_istore C [(0, .ref (a0 99)), (1, .ref (a1 99)), (2, .int v2), (3, .int v3), (4, .int u_1), (5, .int u_2)] dX5_turnOnWay_20 (Nat.le_of_ble_eq_true rfl) [1, 2, 3, 4, 5, 0] rfl 22 rfl ?_
    obtain ⟨y_5, hl_y_5, h⟩ := Option.bind_eq_some_iff.mp h
    refine z_locals (ks := [0, 1, 3, 4, 5]) rfl (p_X5_turnOnWay_L22 C S0 S1 v3 (hD.zaddr rfl) _ _ _ _ hl_y_5 ?_)
    refine z_iload C dX5_turnOnWay_54 0 rfl 56 rfl ?_
    exact z_iretR C hr dX5_turnOnWay_56 h
  · refine z_iconst C 0 dX5_turnOnWay_4 (by decide) 5 rfl ?_
    exact z_iretR C hr dX5_turnOnWay_5 h

end
/-! StreamTree$Tree.lengthFrom (LStreamTree$Chart;II)I -/
section
variable {p : Program} {l : Launch} {e : Env} {R : Room} {s : State} {m : MethodId} {args : Array Value} {below : List Frame} {meth : Method} {c : Code} {Q : State → Prop} {A : Nat → Prop} {D : va_G} {T : Nat → ClassId} {a0 : Nat → Nat} {a1 : Nat → Nat}
theorem in_X5_lengthFrom_X5 : ∀ w ∈ u_ws RX5 TX5 5, w ∈ wsX5_lengthFrom := fun _ h => (List.mem_cons_of_mem _ (List.mem_append_left _ (List.mem_append_right _ h)))
def f_X5_lengthFrom_L9b (S0 : Nat → Nat → Int32) (S1 : Nat → Nat → Int32)  (rec : (Int32 × Int32 × Int32) → Option (Int32)) (a : Int32 × Int32 × Int32) : Option (Int32) := if a.2.2 < 1 then (some a.2.1) else ((f_X6_cellOf a.2.2 a.1).bind fun r_1 => zix r_1 240 fun _ => zlet (S0 4 (Int32.toNatClampNeg r_1)) fun u_2 => (f_X1_lengthOf S1 u_2).bind fun r_3 => zlet (a.2.1 + r_3) fun u_4 => (f_X1_turnBeside S1 a.1 u_2).bind fun r_5 => rec (r_5, u_4, (a.2.2 + (-1))))
def f_X5_lengthFrom_L9 (S0 : Nat → Nat → Int32) (S1 : Nat → Nat → Int32)  : Nat → (Int32 × Int32 × Int32) → Option (Int32) := zloop (fun rec a => f_X5_lengthFrom_L9b S0 S1 rec a)
set_option maxHeartbeats 4000000 in
set_option maxRecDepth 100000 in
theorem p_X5_lengthFrom_L9 (C : zC p R s m args meth c cX5_lengthFrom 8 RX5 wsX5_lengthFrom D T 1 22 0 0) (S0 : Nat → Nat → Int32) (S1 : Nat → Nat → Int32)  (hD : va_D (fun _ => True) (wX5 T a0 S0 ++ wX1 T a1 S1)) : ∀ (n : Nat) (c0 : Int32) (c1 : Int32) (c2 : Int32) (b : Int32), f_X5_lengthFrom_L9 S0 S1 n (c0, c1, c2) = some b → (zt p l e R s m args below meth c 8 A D 0 0 Q (wX5 T a0 S0 ++ wX1 T a1 S1) [(5, .int b)] 56 []) → zt p l e R s m args below meth c 8 A D 0 0 Q (wX5 T a0 S0 ++ wX1 T a1 S1) [(0, .ref (a0 99)), (1, .ref (a1 99)), (4, .int c0), (5, .int c1), (6, .int c2)] 9 [] := by
  intro n c0 c1 c2 b h K
  refine zloop_ind (P := fun a b => (zt p l e R s m args below meth c 8 A D 0 0 Q (wX5 T a0 S0 ++ wX1 T a1 S1) [(5, .int b)] 56 []) → zt p l e R s m args below meth c 8 A D 0 0 Q (wX5 T a0 S0 ++ wX1 T a1 S1) [(0, .ref (a0 99)), (1, .ref (a1 99)), (4, .int a.1), (5, .int a.2.1), (6, .int a.2.2)] 9 []) ?_ n (c0, c1, c2) b h K
  clear h K b c0 c1 c2
  intro rec hrec a b h K
  have hrec : ∀ (c0 : Int32) (c1 : Int32) (c2 : Int32) (b : Int32), rec (c0, c1, c2) = some b → (zt p l e R s m args below meth c 8 A D 0 0 Q (wX5 T a0 S0 ++ wX1 T a1 S1) [(5, .int b)] 56 []) → zt p l e R s m args below meth c 8 A D 0 0 Q (wX5 T a0 S0 ++ wX1 T a1 S1) [(0, .ref (a0 99)), (1, .ref (a1 99)), (4, .int c0), (5, .int c1), (6, .int c2)] 9 [] := fun c0 c1 c2 b h K => hrec (c0, c1, c2) b h K
  unfold f_X5_lengthFrom_L9b at h
  refine z_iload C dX5_lengthFrom_9 4 rfl 11 rfl ?_
  refine z_iconst C 1 dX5_lengthFrom_11 (by decide) 12 rfl ?_
  refine z_icmp_lt C 56 dX5_lengthFrom_12 (by decide) 15 rfl h (fun h => ?_) (fun h => ?_)
  · refine z_locals (ks := [3]) (lv' := [(5, .int a.2.1)]) rfl ?_
    exact zex1 (F := (fun e0 => zt p l e R s m args below meth c 8 A D 0 0 Q (wX5 T a0 S0 ++ wX1 T a1 S1) [(5, .int e0)] 56 [])) h K
  · refine z_aload_n C dX5_lengthFrom_15 rfl 0 rfl 16 rfl ?_
    refine z_get C (in_X5_lengthFrom_X5) 0 rfl rfl 4 (by decide) (List.mem_of_getElem? (i := 1) rfl) rfl rfl dX5_lengthFrom_16 19 rfl ?_
    refine z_iload C dX5_lengthFrom_19 4 rfl 21 rfl ?_
    refine z_iload C dX5_lengthFrom_21 2 rfl 23 rfl ?_
    refine z_callR C ([]) (fun v h => c_X6_cellOf l D T    a.2.2 a.1 v h) ⟨rfl, rfl⟩ (z_cwN C 2 gX5_lengthFrom_X6_cellOf_n39 rfl (List.mem_of_getElem? (i := 9) rfl) (List.mem_of_getElem? (i := 2) rfl) (List.mem_of_getElem? (i := 3) rfl) dd_X6_cellOf ⟨(Nat.le_of_ble_eq_true rfl), (Nat.le_of_ble_eq_true rfl)⟩) (hD.zaddr rfl) [] rfl rfl (fun h => absurd h (by decide)) (fun _ => rfl) rfl (Nat.le_of_ble_eq_true rfl) dX5_lengthFrom_23 26 rfl h (fun r_1 h => ?_)
    refine z_iald C 2 rfl rfl dX5_lengthFrom_26 27 rfl h (fun h => ?_)
    refine z_top h (fun u_2 h => ?_)
    refine z_istore C [(0, .ref (a0 99)), (1, .ref (a1 99)), (4, .int a.1), (5, .int a.2.1), (6, .int a.2.2), (7, .int u_2)] dX5_lengthFrom_27 (Nat.le_of_ble_eq_true rfl) [1, 2, 3, 4, 5, 0] rfl 29 rfl ?_
    refine z_iload C dX5_lengthFrom_29 3 rfl 31 rfl ?_
    refine z_aload_n C dX5_lengthFrom_31 rfl 1 rfl 32 rfl ?_
    refine z_iload C dX5_lengthFrom_32 5 rfl 34 rfl ?_
    refine z_callR C (wX1 T a1 S1) (fun v h => c_X1_lengthOf l D T a1  S1 u_2 v h) ⟨rfl, rfl⟩ (z_cwV C 1 gX5_lengthFrom_X1_lengthOf rfl rfl dd_X1_lengthOf ⟨(Nat.le_of_ble_eq_true rfl), (Nat.le_of_ble_eq_true rfl)⟩) (hD.zaddr rfl) [3, 4, 5, 6, 7] rfl rfl (fun _ => ⟨a1 99, [.int u_2], 1, 0, _, _, rfl, rfl, rfl, rfl, rfl⟩) (fun h => absurd rfl h) rfl (Nat.le_of_ble_eq_true rfl) dX5_lengthFrom_34 37 rfl h (fun r_3 h => ?_)
    refine z_iadd C dX5_lengthFrom_37 38 rfl ?_
    refine z_top h (fun u_4 h => ?_)
    refine z_istore C [(0, .ref (a0 99)), (1, .ref (a1 99)), (4, .int a.1), (5, .int u_4), (6, .int a.2.2), (7, .int u_2)] dX5_lengthFrom_38 (Nat.le_of_ble_eq_true rfl) [1, 2, 3, 0, 4, 5] rfl 40 rfl ?_
    refine z_aload_n C dX5_lengthFrom_40 rfl 1 rfl 41 rfl ?_
    refine z_iload C dX5_lengthFrom_41 2 rfl 43 rfl ?_
    refine z_iload C dX5_lengthFrom_43 5 rfl 45 rfl ?_
    refine z_callR C (wX1 T a1 S1) (fun v h => c_X1_turnBeside l D T a1  S1 a.1 u_2 v h) ⟨rfl, rfl⟩ (z_cwV C 2 gX5_lengthFrom_X1_turnBeside rfl rfl dd_X1_turnBeside ⟨(Nat.le_of_ble_eq_true rfl), (Nat.le_of_ble_eq_true rfl)⟩) (hD.zaddr rfl) [3, 4, 5, 6, 7] rfl rfl (fun _ => ⟨a1 99, [.int a.1, .int u_2], 1, 0, _, _, rfl, rfl, rfl, rfl, rfl⟩) (fun h => absurd rfl h) rfl (Nat.le_of_ble_eq_true rfl) dX5_lengthFrom_45 48 rfl h (fun r_5 h => ?_)
    refine z_istore C [(0, .ref (a0 99)), (1, .ref (a1 99)), (4, .int r_5), (5, .int u_4), (6, .int a.2.2), (7, .int u_2)] dX5_lengthFrom_48 (Nat.le_of_ble_eq_true rfl) [1, 2, 0, 3, 4, 5] rfl 50 rfl ?_
    refine z_iinc C (a.2.2 + (-1)) [(0, .ref (a0 99)), (1, .ref (a1 99)), (4, .int r_5), (5, .int u_4), (6, .int (a.2.2 + (-1))), (7, .int u_2)] dX5_lengthFrom_50 4 rfl rfl (Nat.le_of_ble_eq_true rfl) [1, 2, 3, 4, 0, 5] rfl 53 rfl ?_
    refine z_goto C 9 dX5_lengthFrom_53 (by decide) ?_
    exact z_locals (ks := [0, 1, 2, 3, 4]) rfl (hrec _ _ _ _ h K)

def f_X5_lengthFrom (S0 : Nat → Nat → Int32) (S1 : Nat → Nat → Int32) (v2 : Int32) (v3 : Int32) : Option (Int32) := (f_X5_lengthFrom_L9 S0 S1 zfuel (v3, 0, v2)).bind fun y_6 => some y_6
theorem dd_X5_lengthFrom : RX5 ≠ "java/lang/invoke/MethodHandle" ∧ RX5 ≠ "java/lang/invoke/VarHandle" ∧ (parseMethodDescriptor yX5_lengthFrom.desc).map (fun d => d.parameters.length) = some 3 := by decide +kernel
set_option maxHeartbeats 4000000 in
set_option maxRecDepth 100000 in
theorem c_X5_lengthFrom (l : Launch) (D : va_G) (T : Nat → ClassId) (a0 : Nat → Nat) (a1 : Nat → Nat) (S0 : Nat → Nat → Int32) (S1 : Nat → Nat → Int32) (v2 : Int32) (v3 : Int32) (ex : Int32) (h : f_X5_lengthFrom S0 S1 v2 v3 = some ex) : zRI l yX5_lengthFrom wsX5_lengthFrom ({ frames := 1, cells := 0, slots := 0, locals := 22 } : Room) D T [.ref (a0 99), .ref (a1 99), .int v2, .int v3] (wX5 T a0 S0 ++ wX1 T a1 S1) ex := by
  refine z_begin (cc := cX5_lengthFrom) (nL := 8) (own := RX5) (fr := 1) (lc := 22) (ret := some .int) (by decide) rfl (Nat.le_of_ble_eq_true rfl) (fun _ => False) rfl [(0, .ref (a0 99)), (1, .ref (a1 99)), (2, .int v2), (3, .int v3)] rfl ⟨rfl, rfl⟩ rfl ?_
  intro p e s m args below meth c C hr hD
  unfold f_X5_lengthFrom at h
  refine z_iload_n C dX5_lengthFrom_0 rfl 3 rfl 1 rfl ?_
  refine z_istore C [(0, .ref (a0 99)), (1, .ref (a1 99)), (2, .int v2), (3, .int v3), (4, .int v3)] dX5_lengthFrom_1 (Nat.le_of_ble_eq_true rfl) [1, 2, 3, 4, 0] rfl 3 rfl ?_
  refine z_iconst C 0 dX5_lengthFrom_3 (by decide) 4 rfl ?_
  refine z_istore C [(0, .ref (a0 99)), (1, .ref (a1 99)), (2, .int v2), (3, .int v3), (4, .int v3), (5, .int 0)] dX5_lengthFrom_4 (Nat.le_of_ble_eq_true rfl) [1, 2, 3, 4, 5, 0] rfl 6 rfl ?_
  refine z_iload_n C dX5_lengthFrom_6 rfl 2 rfl 7 rfl ?_
  refine z_istore C [(0, .ref (a0 99)), (1, .ref (a1 99)), (2, .int v2), (3, .int v3), (4, .int v3), (5, .int 0), (6, .int v2)] dX5_lengthFrom_7 (Nat.le_of_ble_eq_true rfl) [1, 2, 3, 4, 5, 6, 0] rfl 9 rfl ?_
  obtain ⟨y_6, hl_y_6, h⟩ := Option.bind_eq_some_iff.mp h
  refine z_locals (ks := [0, 1, 4, 5, 6]) rfl (p_X5_lengthFrom_L9 C S0 S1  (hD.zaddr rfl) _ _ _ _ _ hl_y_6 ?_)
  refine z_iload C dX5_lengthFrom_56 0 rfl 58 rfl ?_
  exact z_iretR C hr dX5_lengthFrom_58 h

end
/-! StreamTree$Tree.sumOfInk (LStreamTree$Chart;)I -/
section
variable {p : Program} {l : Launch} {e : Env} {R : Room} {s : State} {m : MethodId} {args : Array Value} {below : List Frame} {meth : Method} {c : Code} {Q : State → Prop} {A : Nat → Prop} {D : va_G} {T : Nat → ClassId} {a0 : Nat → Nat} {a1 : Nat → Nat}
theorem in_X5_sumOfInk_X5 : ∀ w ∈ u_ws RX5 TX5 5, w ∈ wsX5_sumOfInk := fun _ h => (List.mem_cons_of_mem _ (List.mem_append_right _ h))
theorem in_X5_sumOfInk_X1 : ∀ w ∈ u_ws RX1 TX1 10, w ∈ wsX5_sumOfInk := fun _ h => (List.mem_cons_of_mem _ (List.mem_append_left _ (List.mem_append_right _ h)))
def f_X5_sumOfInk_J67 (rec : (Int32 × Int32) → Option (Int32)) (S0 : Nat → Nat → Int32) (S1 : Nat → Nat → Int32) (x2 : Int32) (v3 : Int32) (x4 : Int32)  : Option (Int32) := rec (x2, (x4 + 1))
set_option maxHeartbeats 4000000 in
set_option maxRecDepth 100000 in
theorem p_X5_sumOfInk_J67 (C : zC p R s m args meth c cX5_sumOfInk 6 RX5 wsX5_sumOfInk D T 2 43 0 0) (S0 : Nat → Nat → Int32) (S1 : Nat → Nat → Int32) {v3 : Int32} (x2 : Int32) (x4 : Int32)  (hD : va_D (fun _ => True) (wX5 T a0 S0 ++ wX1 T a1 S1)) {rec : (Int32 × Int32) → Option (Int32)} (hrec : ∀ (c0 : Int32) (c1 : Int32) (b : Int32), rec (c0, c1) = some b → (zt p l e R s m args below meth c 6 A D 0 0 Q (wX5 T a0 S0 ++ wX1 T a1 S1) [(0, .ref (a0 99)), (1, .ref (a1 99)), (2, .int b), (3, .int v3)] 73 []) → zt p l e R s m args below meth c 6 A D 0 0 Q (wX5 T a0 S0 ++ wX1 T a1 S1) [(0, .ref (a0 99)), (1, .ref (a1 99)), (2, .int c0), (3, .int v3), (4, .int c1)] 15 []) {b : Int32} (K : zt p l e R s m args below meth c 6 A D 0 0 Q (wX5 T a0 S0 ++ wX1 T a1 S1) [(0, .ref (a0 99)), (1, .ref (a1 99)), (2, .int b), (3, .int v3)] 73 []) (h : f_X5_sumOfInk_J67 rec S0 S1 x2 v3 x4 = some b) : zt p l e R s m args below meth c 6 A D 0 0 Q (wX5 T a0 S0 ++ wX1 T a1 S1) [(0, .ref (a0 99)), (1, .ref (a1 99)), (2, .int x2), (3, .int v3), (4, .int x4)] 67 [] := by
  unfold f_X5_sumOfInk_J67 at h
  refine z_iinc C (x4 + 1) [(0, .ref (a0 99)), (1, .ref (a1 99)), (2, .int x2), (3, .int v3), (4, .int (x4 + 1))] dX5_sumOfInk_67 4 rfl rfl (Nat.le_of_ble_eq_true rfl) [1, 2, 3, 4, 0] rfl 70 rfl ?_
  refine z_goto C 15 dX5_sumOfInk_70 (by decide) ?_
  exact z_locals (ks := [0, 1, 2, 3, 4]) rfl (hrec _ _ _ h K)

def f_X5_sumOfInk_L15b (S0 : Nat → Nat → Int32) (S1 : Nat → Nat → Int32) (v3 : Int32) (rec : (Int32 × Int32) → Option (Int32)) (a : Int32 × Int32) : Option (Int32) := if (S1 1 0) ≤ a.2 then (some a.1) else ((f_X6_cellOf v3 a.2).bind fun r_1 => zix r_1 240 fun _ => if (S0 3 (Int32.toNatClampNeg r_1)) = 0 then (f_X5_sumOfInk_J67 rec S0 S1 a.1 v3 a.2) else (zix r_1 240 fun _ => zix r_1 240 fun _ => (f_X1_amountOf S1 (S0 3 (Int32.toNatClampNeg r_1))).bind fun r_2 => (f_X1_inkOfStep S1 (S0 4 (Int32.toNatClampNeg r_1)) r_2).bind fun r_3 => zlet (a.1 + r_3) fun u_4 => f_X5_sumOfInk_J67 rec S0 S1 u_4 v3 a.2))
def f_X5_sumOfInk_L15 (S0 : Nat → Nat → Int32) (S1 : Nat → Nat → Int32) (v3 : Int32) : Nat → (Int32 × Int32) → Option (Int32) := zloop (fun rec a => f_X5_sumOfInk_L15b S0 S1 v3 rec a)
set_option maxHeartbeats 4000000 in
set_option maxRecDepth 100000 in
theorem p_X5_sumOfInk_L15 (C : zC p R s m args meth c cX5_sumOfInk 6 RX5 wsX5_sumOfInk D T 2 43 0 0) (S0 : Nat → Nat → Int32) (S1 : Nat → Nat → Int32) (v3 : Int32) (hD : va_D (fun _ => True) (wX5 T a0 S0 ++ wX1 T a1 S1)) : ∀ (n : Nat) (c0 : Int32) (c1 : Int32) (b : Int32), f_X5_sumOfInk_L15 S0 S1 v3 n (c0, c1) = some b → (zt p l e R s m args below meth c 6 A D 0 0 Q (wX5 T a0 S0 ++ wX1 T a1 S1) [(0, .ref (a0 99)), (1, .ref (a1 99)), (2, .int b), (3, .int v3)] 73 []) → zt p l e R s m args below meth c 6 A D 0 0 Q (wX5 T a0 S0 ++ wX1 T a1 S1) [(0, .ref (a0 99)), (1, .ref (a1 99)), (2, .int c0), (3, .int v3), (4, .int c1)] 15 [] := by
  intro n c0 c1 b h K
  refine zloop_ind (P := fun a b => (zt p l e R s m args below meth c 6 A D 0 0 Q (wX5 T a0 S0 ++ wX1 T a1 S1) [(0, .ref (a0 99)), (1, .ref (a1 99)), (2, .int b), (3, .int v3)] 73 []) → zt p l e R s m args below meth c 6 A D 0 0 Q (wX5 T a0 S0 ++ wX1 T a1 S1) [(0, .ref (a0 99)), (1, .ref (a1 99)), (2, .int a.1), (3, .int v3), (4, .int a.2)] 15 []) ?_ n (c0, c1) b h K
  clear h K b c0 c1
  intro rec hrec a b h K
  have hrec : ∀ (c0 : Int32) (c1 : Int32) (b : Int32), rec (c0, c1) = some b → (zt p l e R s m args below meth c 6 A D 0 0 Q (wX5 T a0 S0 ++ wX1 T a1 S1) [(0, .ref (a0 99)), (1, .ref (a1 99)), (2, .int b), (3, .int v3)] 73 []) → zt p l e R s m args below meth c 6 A D 0 0 Q (wX5 T a0 S0 ++ wX1 T a1 S1) [(0, .ref (a0 99)), (1, .ref (a1 99)), (2, .int c0), (3, .int v3), (4, .int c1)] 15 [] := fun c0 c1 b h K => hrec (c0, c1) b h K
  unfold f_X5_sumOfInk_L15b at h
  refine z_iload C dX5_sumOfInk_15 4 rfl 17 rfl ?_
  refine z_aload_n C dX5_sumOfInk_17 rfl 1 rfl 18 rfl ?_
  refine z_get C (in_X5_sumOfInk_X1) 3 rfl rfl 1 (by decide) (List.mem_of_getElem? (i := 2) rfl) rfl rfl dX5_sumOfInk_18 21 rfl ?_
  refine z_icmp_ge C 73 dX5_sumOfInk_21 (by decide) 24 rfl h (fun h => ?_) (fun h => ?_)
  · refine z_locals (ks := [0, 1, 2, 3]) (lv' := [(0, .ref (a0 99)), (1, .ref (a1 99)), (2, .int a.1), (3, .int v3)]) rfl ?_
    exact zex1 (F := (fun e0 => zt p l e R s m args below meth c 6 A D 0 0 Q (wX5 T a0 S0 ++ wX1 T a1 S1) [(0, .ref (a0 99)), (1, .ref (a1 99)), (2, .int e0), (3, .int v3)] 73 [])) h K
  · refine z_iload_n C dX5_sumOfInk_24 rfl 3 rfl 25 rfl ?_
    refine z_iload C dX5_sumOfInk_25 4 rfl 27 rfl ?_
    refine z_callR C ([]) (fun v h => c_X6_cellOf l D T    v3 a.2 v h) ⟨rfl, rfl⟩ (z_cwN C 2 gX5_sumOfInk_X6_cellOf_n39 rfl (List.mem_of_getElem? (i := 9) rfl) (List.mem_of_getElem? (i := 5) rfl) (List.mem_of_getElem? (i := 6) rfl) dd_X6_cellOf ⟨(Nat.le_of_ble_eq_true rfl), (Nat.le_of_ble_eq_true rfl)⟩) (hD.zaddr rfl) [] rfl rfl (fun h => absurd h (by decide)) (fun _ => rfl) rfl (Nat.le_of_ble_eq_true rfl) dX5_sumOfInk_27 30 rfl h (fun r_1 h => ?_)
    refine z_istore C [(0, .ref (a0 99)), (1, .ref (a1 99)), (2, .int a.1), (3, .int v3), (4, .int a.2), (5, .int r_1)] dX5_sumOfInk_30 (Nat.le_of_ble_eq_true rfl) [1, 2, 3, 4, 5, 0] rfl 32 rfl ?_
    refine z_aload_n C dX5_sumOfInk_32 rfl 0 rfl 33 rfl ?_
    refine z_get C (in_X5_sumOfInk_X5) 0 rfl rfl 3 (by decide) (List.mem_of_getElem? (i := 3) rfl) rfl rfl dX5_sumOfInk_33 36 rfl ?_
    refine z_iload C dX5_sumOfInk_36 5 rfl 38 rfl ?_
    refine z_iald C 1 rfl rfl dX5_sumOfInk_38 39 rfl h (fun h => ?_)
    refine z_if_eq C 67 dX5_sumOfInk_39 (by decide) 42 rfl h (fun h => ?_) (fun h => ?_)
    · exact z_locals (ks := [0, 1, 2, 3, 4]) rfl (p_X5_sumOfInk_J67 C S0 S1 a.1 a.2 (hD.zaddr rfl) hrec K h)
    · refine z_iload_n C dX5_sumOfInk_42 rfl 2 rfl 43 rfl ?_
      refine z_aload_n C dX5_sumOfInk_43 rfl 1 rfl 44 rfl ?_
      refine z_aload_n C dX5_sumOfInk_44 rfl 0 rfl 45 rfl ?_
      refine z_get C (in_X5_sumOfInk_X5) 0 rfl rfl 4 (by decide) (List.mem_of_getElem? (i := 4) rfl) rfl rfl dX5_sumOfInk_45 48 rfl ?_
      refine z_iload C dX5_sumOfInk_48 5 rfl 50 rfl ?_
      refine z_iald C 2 rfl rfl dX5_sumOfInk_50 51 rfl h (fun h => ?_)
      refine z_aload_n C dX5_sumOfInk_51 rfl 1 rfl 52 rfl ?_
      refine z_aload_n C dX5_sumOfInk_52 rfl 0 rfl 53 rfl ?_
      refine z_get C (in_X5_sumOfInk_X5) 0 rfl rfl 3 (by decide) (List.mem_of_getElem? (i := 3) rfl) rfl rfl dX5_sumOfInk_53 56 rfl ?_
      refine z_iload C dX5_sumOfInk_56 5 rfl 58 rfl ?_
      refine z_iald C 1 rfl rfl dX5_sumOfInk_58 59 rfl h (fun h => ?_)
      refine z_callR C (wX1 T a1 S1) (fun v h => c_X1_amountOf l D T a1  S1 (S0 3 (Int32.toNatClampNeg r_1)) v h) ⟨rfl, rfl⟩ (z_cwV C 1 gX5_sumOfInk_X1_amountOf rfl rfl dd_X1_amountOf ⟨(Nat.le_of_ble_eq_true rfl), (Nat.le_of_ble_eq_true rfl)⟩) (hD.zaddr rfl) [3, 4, 5, 6, 7] rfl rfl (fun _ => ⟨a1 99, [.int (S0 3 (Int32.toNatClampNeg r_1))], 1, 0, _, _, rfl, rfl, rfl, rfl, rfl⟩) (fun h => absurd rfl h) rfl (Nat.le_of_ble_eq_true rfl) dX5_sumOfInk_59 62 rfl h (fun r_2 h => ?_)
      refine z_callR C (wX1 T a1 S1) (fun v h => c_X1_inkOfStep l D T a1  S1 (S0 4 (Int32.toNatClampNeg r_1)) r_2 v h) ⟨rfl, rfl⟩ (z_cwV C 2 gX5_sumOfInk_X1_inkOfStep rfl rfl dd_X1_inkOfStep ⟨(Nat.le_of_ble_eq_true rfl), (Nat.le_of_ble_eq_true rfl)⟩) (hD.zaddr rfl) [3, 4, 5, 6, 7] rfl rfl (fun _ => ⟨a1 99, [.int (S0 4 (Int32.toNatClampNeg r_1)), .int r_2], 1, 0, _, _, rfl, rfl, rfl, rfl, rfl⟩) (fun h => absurd rfl h) rfl (Nat.le_of_ble_eq_true rfl) dX5_sumOfInk_62 65 rfl h (fun r_3 h => ?_)
      refine z_iadd C dX5_sumOfInk_65 66 rfl ?_
      refine z_top h (fun u_4 h => ?_)
      refine z_istore_n C [(0, .ref (a0 99)), (1, .ref (a1 99)), (2, .int u_4), (3, .int v3), (4, .int a.2), (5, .int r_1)] dX5_sumOfInk_66 rfl (Nat.le_of_ble_eq_true rfl) [1, 2, 0, 3, 4, 5] rfl 67 rfl ?_
      exact z_locals (ks := [0, 1, 2, 3, 4]) rfl (p_X5_sumOfInk_J67 C S0 S1 u_4 a.2 (hD.zaddr rfl) hrec K h)

def f_X5_sumOfInk_L4b (S0 : Nat → Nat → Int32) (S1 : Nat → Nat → Int32)  (rec : (Int32 × Int32) → Option (Int32)) (a : Int32 × Int32) : Option (Int32) := if (S1 0 0) < a.2 then (some a.1) else ((f_X5_sumOfInk_L15 S0 S1 a.2 zfuel (a.1, 0)).bind fun y_5 => rec (y_5, (a.2 + 1)))
def f_X5_sumOfInk_L4 (S0 : Nat → Nat → Int32) (S1 : Nat → Nat → Int32)  : Nat → (Int32 × Int32) → Option (Int32) := zloop (fun rec a => f_X5_sumOfInk_L4b S0 S1 rec a)
set_option maxHeartbeats 4000000 in
set_option maxRecDepth 100000 in
theorem p_X5_sumOfInk_L4 (C : zC p R s m args meth c cX5_sumOfInk 6 RX5 wsX5_sumOfInk D T 2 43 0 0) (S0 : Nat → Nat → Int32) (S1 : Nat → Nat → Int32)  (hD : va_D (fun _ => True) (wX5 T a0 S0 ++ wX1 T a1 S1)) : ∀ (n : Nat) (c0 : Int32) (c1 : Int32) (b : Int32), f_X5_sumOfInk_L4 S0 S1 n (c0, c1) = some b → (zt p l e R s m args below meth c 6 A D 0 0 Q (wX5 T a0 S0 ++ wX1 T a1 S1) [(2, .int b)] 79 []) → zt p l e R s m args below meth c 6 A D 0 0 Q (wX5 T a0 S0 ++ wX1 T a1 S1) [(0, .ref (a0 99)), (1, .ref (a1 99)), (2, .int c0), (3, .int c1)] 4 [] := by
  intro n c0 c1 b h K
  refine zloop_ind (P := fun a b => (zt p l e R s m args below meth c 6 A D 0 0 Q (wX5 T a0 S0 ++ wX1 T a1 S1) [(2, .int b)] 79 []) → zt p l e R s m args below meth c 6 A D 0 0 Q (wX5 T a0 S0 ++ wX1 T a1 S1) [(0, .ref (a0 99)), (1, .ref (a1 99)), (2, .int a.1), (3, .int a.2)] 4 []) ?_ n (c0, c1) b h K
  clear h K b c0 c1
  intro rec hrec a b h K
  have hrec : ∀ (c0 : Int32) (c1 : Int32) (b : Int32), rec (c0, c1) = some b → (zt p l e R s m args below meth c 6 A D 0 0 Q (wX5 T a0 S0 ++ wX1 T a1 S1) [(2, .int b)] 79 []) → zt p l e R s m args below meth c 6 A D 0 0 Q (wX5 T a0 S0 ++ wX1 T a1 S1) [(0, .ref (a0 99)), (1, .ref (a1 99)), (2, .int c0), (3, .int c1)] 4 [] := fun c0 c1 b h K => hrec (c0, c1) b h K
  unfold f_X5_sumOfInk_L4b at h
  refine z_iload_n C dX5_sumOfInk_4 rfl 3 rfl 5 rfl ?_
  refine z_aload_n C dX5_sumOfInk_5 rfl 1 rfl 6 rfl ?_
  refine z_get C (in_X5_sumOfInk_X1) 3 rfl rfl 0 (by decide) (List.mem_of_getElem? (i := 1) rfl) rfl rfl dX5_sumOfInk_6 9 rfl ?_
  refine z_icmp_gt C 79 dX5_sumOfInk_9 (by decide) 12 rfl h (fun h => ?_) (fun h => ?_)
  · refine z_locals (ks := [2]) (lv' := [(2, .int a.1)]) rfl ?_
    exact zex1 (F := (fun e0 => zt p l e R s m args below meth c 6 A D 0 0 Q (wX5 T a0 S0 ++ wX1 T a1 S1) [(2, .int e0)] 79 [])) h K
  · refine z_iconst C 0 dX5_sumOfInk_12 (by decide) 13 rfl ?_
    refine z_istore C [(0, .ref (a0 99)), (1, .ref (a1 99)), (2, .int a.1), (3, .int a.2), (4, .int 0)] dX5_sumOfInk_13 (Nat.le_of_ble_eq_true rfl) [1, 2, 3, 4, 0] rfl 15 rfl ?_
    obtain ⟨y_5, hl_y_5, h⟩ := Option.bind_eq_some_iff.mp h
    refine z_locals (ks := [0, 1, 2, 3, 4]) rfl (p_X5_sumOfInk_L15 C S0 S1 a.2 (hD.zaddr rfl) _ _ _ _ hl_y_5 ?_)
    refine z_iinc C (a.2 + 1) [(0, .ref (a0 99)), (1, .ref (a1 99)), (2, .int y_5), (3, .int (a.2 + 1))] dX5_sumOfInk_73 3 rfl rfl (Nat.le_of_ble_eq_true rfl) [1, 2, 3, 0] rfl 76 rfl ?_
    refine z_goto C 4 dX5_sumOfInk_76 (by decide) ?_
    exact z_locals (ks := [0, 1, 2, 3]) rfl (hrec _ _ _ h K)

def f_X5_sumOfInk (S0 : Nat → Nat → Int32) (S1 : Nat → Nat → Int32)  : Option (Int32) := (f_X5_sumOfInk_L4 S0 S1 zfuel (0, 1)).bind fun y_6 => some y_6
theorem dd_X5_sumOfInk : RX5 ≠ "java/lang/invoke/MethodHandle" ∧ RX5 ≠ "java/lang/invoke/VarHandle" ∧ (parseMethodDescriptor yX5_sumOfInk.desc).map (fun d => d.parameters.length) = some 1 := by decide +kernel
set_option maxHeartbeats 4000000 in
set_option maxRecDepth 100000 in
theorem c_X5_sumOfInk (l : Launch) (D : va_G) (T : Nat → ClassId) (a0 : Nat → Nat) (a1 : Nat → Nat) (S0 : Nat → Nat → Int32) (S1 : Nat → Nat → Int32)  (ex : Int32) (h : f_X5_sumOfInk S0 S1 = some ex) : zRI l yX5_sumOfInk wsX5_sumOfInk ({ frames := 2, cells := 0, slots := 0, locals := 43 } : Room) D T [.ref (a0 99), .ref (a1 99)] (wX5 T a0 S0 ++ wX1 T a1 S1) ex := by
  refine z_begin (cc := cX5_sumOfInk) (nL := 6) (own := RX5) (fr := 2) (lc := 43) (ret := some .int) (by decide) rfl (Nat.le_of_ble_eq_true rfl) (fun _ => False) rfl [(0, .ref (a0 99)), (1, .ref (a1 99))] rfl ⟨rfl, rfl⟩ rfl ?_
  intro p e s m args below meth c C hr hD
  unfold f_X5_sumOfInk at h
  refine z_iconst C 0 dX5_sumOfInk_0 (by decide) 1 rfl ?_
  refine z_istore_n C [(0, .ref (a0 99)), (1, .ref (a1 99)), (2, .int 0)] dX5_sumOfInk_1 rfl (Nat.le_of_ble_eq_true rfl) [1, 2, 0] rfl 2 rfl ?_
  refine z_iconst C 1 dX5_sumOfInk_2 (by decide) 3 rfl ?_
  refine z_istore_n C [(0, .ref (a0 99)), (1, .ref (a1 99)), (2, .int 0), (3, .int 1)] dX5_sumOfInk_3 rfl (Nat.le_of_ble_eq_true rfl) [1, 2, 3, 0] rfl 4 rfl ?_
  obtain ⟨y_6, hl_y_6, h⟩ := Option.bind_eq_some_iff.mp h
  refine z_locals (ks := [0, 1, 2, 3]) rfl (p_X5_sumOfInk_L4 C S0 S1  (hD.zaddr rfl) _ _ _ _ hl_y_6 ?_)
  refine z_iload_n C dX5_sumOfInk_79 rfl 0 rfl 80 rfl ?_
  exact z_iretR C hr dX5_sumOfInk_80 h

end
/-! StreamTree$Tree.finish (LStreamTree$Chart;Z)V -/
section
variable {p : Program} {l : Launch} {e : Env} {R : Room} {s : State} {m : MethodId} {args : Array Value} {below : List Frame} {meth : Method} {c : Code} {Q : State → Prop} {A : Nat → Prop} {D : va_G} {T : Nat → ClassId} {a0 : Nat → Nat} {a1 : Nat → Nat}
theorem in_X5_finish_X5 : ∀ w ∈ u_ws RX5 TX5 5, w ∈ wsX5_finish := fun _ h => (List.mem_cons_of_mem _ (List.mem_append_left _ (List.mem_append_right _ h)))
def f_X5_finish_J24 (S0 : Nat → Nat → Int32) (S1 : Nat → Nat → Int32)  (k1 : Int32) : Option ((Nat → Nat → Int32)) := zlet (zst S0 2 0 k1) fun S0_3 => some S0_3
set_option maxHeartbeats 4000000 in
set_option maxRecDepth 100000 in
theorem p_X5_finish_J24 {w0 : va_W} (C : zC p R s m args meth c cX5_finish 3 RX5 wsX5_finish D T 3 68 0 0) (hr : meth.sig.returnType = none) (S0 : Nat → Nat → Int32) (S1 : Nat → Nat → Int32)  (k1 : Int32) (hD : va_D (zA w0) (wX5 T a0 S0 ++ wX1 T a1 S1)) {ex : (Nat → Nat → Int32)} (h : f_X5_finish_J24 S0 S1 k1 = some ex) : zt p l e R s m args below meth c 3 (zA w0) D 0 0 (MQ below (zQV D w0 (wX5 T a0 ex ++ wX1 T a1 S1)) args s 0 0 (zA w0)) (wX5 T a0 S0 ++ wX1 T a1 S1) [] 24 [.int k1, .ref (a0 99)] := by
  unfold f_X5_finish_J24 at h
  refine z_put (ty := .int) C (fun z => wX5 T a0 z ++ wX1 T a1 S1) S0 (hD.zaddr rfl) (in_X5_finish_X5) tyX5 tyX5_ok nmX5 0 rfl rfl 2 (by decide) (List.mem_of_getElem? (i := 3) rfl) rfl rfl (by decide +kernel) rfl rfl (Nat.le_of_ble_eq_true rfl) rfl dX5_finish_24 27 rfl h (fun S0_3 h => ?_)
  exact z_vretW (x := S0_3) (ex := ex) (fun z => wX5 T a0 z ++ wX1 T a1 S1) C hr dX5_finish_27 h rfl

def f_X5_finish (S0 : Nat → Nat → Int32) (S1 : Nat → Nat → Int32) (v2 : Int32) : Option ((Nat → Nat → Int32)) := zlet (zst S0 0 0 1) fun S0_1 => zbo v2 (zlet (zst S0_1 1 0 v2) fun S0_2 => if v2 = 0 then (f_X5_finish_J24 S0_2 S1 0) else ((f_X5_sumOfInk S0_2 S1).bind fun r_4 => f_X5_finish_J24 S0_2 S1 r_4))
theorem dd_X5_finish : RX5 ≠ "java/lang/invoke/MethodHandle" ∧ RX5 ≠ "java/lang/invoke/VarHandle" ∧ (parseMethodDescriptor yX5_finish.desc).map (fun d => d.parameters.length) = some 2 := by decide +kernel
set_option maxHeartbeats 4000000 in
set_option maxRecDepth 100000 in
theorem c_X5_finish (l : Launch) (D : va_G) (T : Nat → ClassId) (a0 : Nat → Nat) (a1 : Nat → Nat) (S0 : Nat → Nat → Int32) (S1 : Nat → Nat → Int32) (v2 : Int32) (ex : (Nat → Nat → Int32)) (h : f_X5_finish S0 S1 v2 = some ex) : zWV l yX5_finish wsX5_finish ({ frames := 3, cells := 0, slots := 0, locals := 68 } : Room) D T [.ref (a0 99), .ref (a1 99), .int v2] (wX5 T a0 S0 ++ wX1 T a1 S1) (wX5 T a0 ex ++ wX1 T a1 S1) := by
  refine z_begin (cc := cX5_finish) (nL := 3) (own := RX5) (fr := 3) (lc := 68) (ret := none) (by decide) rfl (Nat.le_of_ble_eq_true rfl) (zA (wX5 T a0 S0 ++ wX1 T a1 S1)) rfl [(0, .ref (a0 99)), (1, .ref (a1 99)), (2, .int v2)] rfl ⟨rfl, rfl⟩ rfl ?_
  intro p e s m args below meth c C hr hD
  have hD := hD.zself
  unfold f_X5_finish at h
  refine z_aload_n C dX5_finish_0 rfl 0 rfl 1 rfl ?_
  refine z_iconst C 1 dX5_finish_1 (by decide) 2 rfl ?_
  refine z_put (ty := .boolean) C (fun z => wX5 T a0 z ++ wX1 T a1 S1) S0 (hD.zaddr rfl) (in_X5_finish_X5) tyX5 tyX5_ok nmX5 0 rfl rfl 0 (by decide) (List.mem_of_getElem? (i := 1) rfl) rfl rfl (by decide +kernel) rfl rfl (Nat.le_of_ble_eq_true rfl) rfl dX5_finish_2 5 rfl h (fun S0_1 h => ?_)
  refine z_aload_n C dX5_finish_5 rfl 0 rfl 6 rfl ?_
  refine z_iload_n C dX5_finish_6 rfl 2 rfl 7 rfl ?_
  refine z_putZ C (fun z => wX5 T a0 z ++ wX1 T a1 S1) S0_1 (hD.zaddr rfl) (in_X5_finish_X5) tyX5 tyX5_ok nmX5 0 rfl rfl 1 (by decide) (List.mem_of_getElem? (i := 2) rfl) rfl rfl (by decide +kernel) (Nat.le_of_ble_eq_true rfl) rfl dX5_finish_7 10 rfl h (fun S0_2 h => ?_)
  refine z_aload_n C dX5_finish_10 rfl 0 rfl 11 rfl ?_
  refine z_iload_n C dX5_finish_11 rfl 2 rfl 12 rfl ?_
  refine z_if_eq C 23 dX5_finish_12 (by decide) 15 rfl h (fun h => ?_) (fun h => ?_)
  · refine z_iconst C 0 dX5_finish_23 (by decide) 24 rfl ?_
    exact z_locals (ks := []) rfl (p_X5_finish_J24 C hr S0_2 S1 0 (hD.zaddr rfl) h)
  · refine z_aload_n C dX5_finish_15 rfl 0 rfl 16 rfl ?_
    refine z_aload_n C dX5_finish_16 rfl 1 rfl 17 rfl ?_
    refine z_callR C (wX5 T a0 S0_2 ++ wX1 T a1 S1) (fun v h => c_X5_sumOfInk l D T a0 a1  S0_2 S1  v h) ⟨rfl, rfl⟩ (z_cwV C 1 gX5_finish_X5_sumOfInk rfl rfl dd_X5_sumOfInk ⟨(Nat.le_of_ble_eq_true rfl), (Nat.le_of_ble_eq_true rfl)⟩) (hD.zaddr rfl) [0, 1, 2, 3, 4, 5, 6, 7] rfl rfl (fun _ => ⟨a0 99, [.ref (a1 99)], 4, 0, _, _, rfl, rfl, rfl, rfl, rfl⟩) (fun h => absurd rfl h) rfl (Nat.le_of_ble_eq_true rfl) dX5_finish_17 20 rfl h (fun r_4 h => ?_)
    refine z_goto C 24 dX5_finish_20 (by decide) ?_
    exact z_locals (ks := []) rfl (p_X5_finish_J24 C hr S0_2 S1 r_4 (hD.zaddr rfl) h)

end
/-! StreamTree$Tree.comers (LStreamTree$Chart;II)I -/
section
variable {p : Program} {l : Launch} {e : Env} {R : Room} {s : State} {m : MethodId} {args : Array Value} {below : List Frame} {meth : Method} {c : Code} {Q : State → Prop} {A : Nat → Prop} {D : va_G} {T : Nat → ClassId} {a0 : Nat → Nat} {a1 : Nat → Nat}
def f_X5_comers (S0 : Nat → Nat → Int32) (S1 : Nat → Nat → Int32) (v2 : Int32) (v3 : Int32) : Option (Int32) := if v2 = 0 then ((f_X5_branchesOf S0 S1 1).bind fun r_2 => some r_2) else ((f_X5_comersToCell S0 S1 v2 v3).bind fun r_1 => some r_1)
theorem dd_X5_comers : RX5 ≠ "java/lang/invoke/MethodHandle" ∧ RX5 ≠ "java/lang/invoke/VarHandle" ∧ (parseMethodDescriptor yX5_comers.desc).map (fun d => d.parameters.length) = some 3 := by decide +kernel
set_option maxHeartbeats 4000000 in
set_option maxRecDepth 100000 in
theorem c_X5_comers (l : Launch) (D : va_G) (T : Nat → ClassId) (a0 : Nat → Nat) (a1 : Nat → Nat) (S0 : Nat → Nat → Int32) (S1 : Nat → Nat → Int32) (v2 : Int32) (v3 : Int32) (ex : Int32) (h : f_X5_comers S0 S1 v2 v3 = some ex) : zRI l yX5_comers wsX5_comers ({ frames := 2, cells := 0, slots := 0, locals := 47 } : Room) D T [.ref (a0 99), .ref (a1 99), .int v2, .int v3] (wX5 T a0 S0 ++ wX1 T a1 S1) ex := by
  refine z_begin (cc := cX5_comers) (nL := 4) (own := RX5) (fr := 2) (lc := 47) (ret := some .int) (by decide) rfl (Nat.le_of_ble_eq_true rfl) (fun _ => False) rfl [(0, .ref (a0 99)), (1, .ref (a1 99)), (2, .int v2), (3, .int v3)] rfl ⟨rfl, rfl⟩ rfl ?_
  intro p e s m args below meth c C hr hD
  unfold f_X5_comers at h
  refine z_iload_n C dX5_comers_0 rfl 2 rfl 1 rfl ?_
  refine z_if_ne C 13 dX5_comers_1 (by decide) 4 rfl h (fun h => ?_) (fun h => ?_)
  · refine z_aload_n C dX5_comers_13 rfl 0 rfl 14 rfl ?_
    refine z_aload_n C dX5_comers_14 rfl 1 rfl 15 rfl ?_
    refine z_iload_n C dX5_comers_15 rfl 2 rfl 16 rfl ?_
    refine z_iload_n C dX5_comers_16 rfl 3 rfl 17 rfl ?_
    refine z_callR C (wX5 T a0 S0 ++ wX1 T a1 S1) (fun v h => c_X5_comersToCell l D T a0 a1  S0 S1 v2 v3 v h) ⟨rfl, rfl⟩ (z_cwV C 3 gX5_comers_X5_comersToCell rfl rfl dd_X5_comersToCell ⟨(Nat.le_of_ble_eq_true rfl), (Nat.le_of_ble_eq_true rfl)⟩) (hD.zaddr rfl) [0, 1, 2, 3, 4, 5, 6, 7] rfl rfl (fun _ => ⟨a0 99, [.ref (a1 99), .int v2, .int v3], 4, 0, _, _, rfl, rfl, rfl, rfl, rfl⟩) (fun h => absurd rfl h) rfl (Nat.le_of_ble_eq_true rfl) dX5_comers_17 20 rfl h (fun r_1 h => ?_)
    exact z_iretR C hr dX5_comers_20 h
  · refine z_aload_n C dX5_comers_4 rfl 0 rfl 5 rfl ?_
    refine z_aload_n C dX5_comers_5 rfl 1 rfl 6 rfl ?_
    refine z_iconst C 1 dX5_comers_6 (by decide) 7 rfl ?_
    refine z_callR C (wX5 T a0 S0 ++ wX1 T a1 S1) (fun v h => c_X5_branchesOf l D T a0 a1  S0 S1 1 v h) ⟨rfl, rfl⟩ (z_cwV C 2 gX5_comers_X5_branchesOf rfl rfl dd_X5_branchesOf ⟨(Nat.le_of_ble_eq_true rfl), (Nat.le_of_ble_eq_true rfl)⟩) (hD.zaddr rfl) [0, 1, 2, 3, 4, 5, 6, 7] rfl rfl (fun _ => ⟨a0 99, [.ref (a1 99), .int 1], 4, 0, _, _, rfl, rfl, rfl, rfl, rfl⟩) (fun h => absurd rfl h) rfl (Nat.le_of_ble_eq_true rfl) dX5_comers_7 10 rfl h (fun r_2 h => ?_)
    refine z_goto C 20 dX5_comers_10 (by decide) ?_
    exact z_iretR C hr dX5_comers_20 h

end
/-! StreamTree$Tree.joins (LStreamTree$Chart;)I -/
section
variable {p : Program} {l : Launch} {e : Env} {R : Room} {s : State} {m : MethodId} {args : Array Value} {below : List Frame} {meth : Method} {c : Code} {Q : State → Prop} {A : Nat → Prop} {D : va_G} {T : Nat → ClassId} {a0 : Nat → Nat} {a1 : Nat → Nat}
theorem in_X5_joins_X1 : ∀ w ∈ u_ws RX1 TX1 10, w ∈ wsX5_joins := fun _ h => (List.mem_cons_of_mem _ (List.mem_append_left _ (List.mem_append_right _ h)))
def f_X5_joins_J39 (rec : (Int32 × Int32) → Option (Int32)) (S0 : Nat → Nat → Int32) (S1 : Nat → Nat → Int32) (x2 : Int32) (v3 : Int32) (x4 : Int32)  : Option (Int32) := rec (x2, (x4 + 1))
set_option maxHeartbeats 4000000 in
set_option maxRecDepth 100000 in
theorem p_X5_joins_J39 (C : zC p R s m args meth c cX5_joins 5 RX5 wsX5_joins D T 3 70 0 0) (S0 : Nat → Nat → Int32) (S1 : Nat → Nat → Int32) {v3 : Int32} (x2 : Int32) (x4 : Int32)  (hD : va_D (fun _ => True) (wX5 T a0 S0 ++ wX1 T a1 S1)) {rec : (Int32 × Int32) → Option (Int32)} (hrec : ∀ (c0 : Int32) (c1 : Int32) (b : Int32), rec (c0, c1) = some b → (zt p l e R s m args below meth c 5 A D 0 0 Q (wX5 T a0 S0 ++ wX1 T a1 S1) [(0, .ref (a0 99)), (1, .ref (a1 99)), (2, .int b), (3, .int v3)] 45 []) → zt p l e R s m args below meth c 5 A D 0 0 Q (wX5 T a0 S0 ++ wX1 T a1 S1) [(0, .ref (a0 99)), (1, .ref (a1 99)), (2, .int c0), (3, .int v3), (4, .int c1)] 14 []) {b : Int32} (K : zt p l e R s m args below meth c 5 A D 0 0 Q (wX5 T a0 S0 ++ wX1 T a1 S1) [(0, .ref (a0 99)), (1, .ref (a1 99)), (2, .int b), (3, .int v3)] 45 []) (h : f_X5_joins_J39 rec S0 S1 x2 v3 x4 = some b) : zt p l e R s m args below meth c 5 A D 0 0 Q (wX5 T a0 S0 ++ wX1 T a1 S1) [(0, .ref (a0 99)), (1, .ref (a1 99)), (2, .int x2), (3, .int v3), (4, .int x4)] 39 [] := by
  unfold f_X5_joins_J39 at h
  refine z_iinc C (x4 + 1) [(0, .ref (a0 99)), (1, .ref (a1 99)), (2, .int x2), (3, .int v3), (4, .int (x4 + 1))] dX5_joins_39 4 rfl rfl (Nat.le_of_ble_eq_true rfl) [1, 2, 3, 4, 0] rfl 42 rfl ?_
  refine z_goto C 14 dX5_joins_42 (by decide) ?_
  exact z_locals (ks := [0, 1, 2, 3, 4]) rfl (hrec _ _ _ h K)

def f_X5_joins_L14b (S0 : Nat → Nat → Int32) (S1 : Nat → Nat → Int32) (v3 : Int32) (rec : (Int32 × Int32) → Option (Int32)) (a : Int32 × Int32) : Option (Int32) := (f_X1_turnsOf S1 v3).bind fun r_2 => if r_2 ≤ a.2 then (some a.1) else ((f_X5_comers S0 S1 v3 a.2).bind fun r_3 => if r_3 < 2 then (f_X5_joins_J39 rec S0 S1 a.1 v3 a.2) else (f_X5_joins_J39 rec S0 S1 (a.1 + 1) v3 a.2))
def f_X5_joins_L14 (S0 : Nat → Nat → Int32) (S1 : Nat → Nat → Int32) (v3 : Int32) : Nat → (Int32 × Int32) → Option (Int32) := zloop (fun rec a => f_X5_joins_L14b S0 S1 v3 rec a)
set_option maxHeartbeats 4000000 in
set_option maxRecDepth 100000 in
theorem p_X5_joins_L14 (C : zC p R s m args meth c cX5_joins 5 RX5 wsX5_joins D T 3 70 0 0) (S0 : Nat → Nat → Int32) (S1 : Nat → Nat → Int32) (v3 : Int32) (hD : va_D (fun _ => True) (wX5 T a0 S0 ++ wX1 T a1 S1)) : ∀ (n : Nat) (c0 : Int32) (c1 : Int32) (b : Int32), f_X5_joins_L14 S0 S1 v3 n (c0, c1) = some b → (zt p l e R s m args below meth c 5 A D 0 0 Q (wX5 T a0 S0 ++ wX1 T a1 S1) [(0, .ref (a0 99)), (1, .ref (a1 99)), (2, .int b), (3, .int v3)] 45 []) → zt p l e R s m args below meth c 5 A D 0 0 Q (wX5 T a0 S0 ++ wX1 T a1 S1) [(0, .ref (a0 99)), (1, .ref (a1 99)), (2, .int c0), (3, .int v3), (4, .int c1)] 14 [] := by
  intro n c0 c1 b h K
  refine zloop_ind (P := fun a b => (zt p l e R s m args below meth c 5 A D 0 0 Q (wX5 T a0 S0 ++ wX1 T a1 S1) [(0, .ref (a0 99)), (1, .ref (a1 99)), (2, .int b), (3, .int v3)] 45 []) → zt p l e R s m args below meth c 5 A D 0 0 Q (wX5 T a0 S0 ++ wX1 T a1 S1) [(0, .ref (a0 99)), (1, .ref (a1 99)), (2, .int a.1), (3, .int v3), (4, .int a.2)] 14 []) ?_ n (c0, c1) b h K
  clear h K b c0 c1
  intro rec hrec a b h K
  have hrec : ∀ (c0 : Int32) (c1 : Int32) (b : Int32), rec (c0, c1) = some b → (zt p l e R s m args below meth c 5 A D 0 0 Q (wX5 T a0 S0 ++ wX1 T a1 S1) [(0, .ref (a0 99)), (1, .ref (a1 99)), (2, .int b), (3, .int v3)] 45 []) → zt p l e R s m args below meth c 5 A D 0 0 Q (wX5 T a0 S0 ++ wX1 T a1 S1) [(0, .ref (a0 99)), (1, .ref (a1 99)), (2, .int c0), (3, .int v3), (4, .int c1)] 14 [] := fun c0 c1 b h K => hrec (c0, c1) b h K
  unfold f_X5_joins_L14b at h
  refine z_iload C dX5_joins_14 4 rfl 16 rfl ?_
  refine z_aload_n C dX5_joins_16 rfl 1 rfl 17 rfl ?_
  refine z_iload_n C dX5_joins_17 rfl 3 rfl 18 rfl ?_
  refine z_callR C (wX1 T a1 S1) (fun v h => c_X1_turnsOf l D T a1  S1 v3 v h) ⟨rfl, rfl⟩ (z_cwV C 1 gX5_joins_X1_turnsOf rfl rfl dd_X1_turnsOf ⟨(Nat.le_of_ble_eq_true rfl), (Nat.le_of_ble_eq_true rfl)⟩) (hD.zaddr rfl) [3, 4, 5, 6, 7] rfl rfl (fun _ => ⟨a1 99, [.int v3], 1, 0, _, _, rfl, rfl, rfl, rfl, rfl⟩) (fun h => absurd rfl h) rfl (Nat.le_of_ble_eq_true rfl) dX5_joins_18 21 rfl h (fun r_2 h => ?_)
  refine z_icmp_ge C 45 dX5_joins_21 (by decide) 24 rfl h (fun h => ?_) (fun h => ?_)
  · refine z_locals (ks := [0, 1, 2, 3]) (lv' := [(0, .ref (a0 99)), (1, .ref (a1 99)), (2, .int a.1), (3, .int v3)]) rfl ?_
    exact zex1 (F := (fun e0 => zt p l e R s m args below meth c 5 A D 0 0 Q (wX5 T a0 S0 ++ wX1 T a1 S1) [(0, .ref (a0 99)), (1, .ref (a1 99)), (2, .int e0), (3, .int v3)] 45 [])) h K
  · refine z_aload_n C dX5_joins_24 rfl 0 rfl 25 rfl ?_
    refine z_aload_n C dX5_joins_25 rfl 1 rfl 26 rfl ?_
    refine z_iload_n C dX5_joins_26 rfl 3 rfl 27 rfl ?_
    refine z_iload C dX5_joins_27 4 rfl 29 rfl ?_
    refine z_callR C (wX5 T a0 S0 ++ wX1 T a1 S1) (fun v h => c_X5_comers l D T a0 a1  S0 S1 v3 a.2 v h) ⟨rfl, rfl⟩ (z_cwV C 3 gX5_joins_X5_comers rfl rfl dd_X5_comers ⟨(Nat.le_of_ble_eq_true rfl), (Nat.le_of_ble_eq_true rfl)⟩) (hD.zaddr rfl) [0, 1, 2, 3, 4, 5, 6, 7] rfl rfl (fun _ => ⟨a0 99, [.ref (a1 99), .int v3, .int a.2], 4, 0, _, _, rfl, rfl, rfl, rfl, rfl⟩) (fun h => absurd rfl h) rfl (Nat.le_of_ble_eq_true rfl) dX5_joins_29 32 rfl h (fun r_3 h => ?_)
    refine z_iconst C 2 dX5_joins_32 (by decide) 33 rfl ?_
    refine z_icmp_lt C 39 dX5_joins_33 (by decide) 36 rfl h (fun h => ?_) (fun h => ?_)
    · exact z_locals (ks := [0, 1, 2, 3, 4]) rfl (p_X5_joins_J39 C S0 S1 a.1 a.2 (hD.zaddr rfl) hrec K h)
    · refine z_iinc C (a.1 + 1) [(0, .ref (a0 99)), (1, .ref (a1 99)), (2, .int (a.1 + 1)), (3, .int v3), (4, .int a.2)] dX5_joins_36 2 rfl rfl (Nat.le_of_ble_eq_true rfl) [1, 2, 0, 3, 4] rfl 39 rfl ?_
      exact z_locals (ks := [0, 1, 2, 3, 4]) rfl (p_X5_joins_J39 C S0 S1 (a.1 + 1) a.2 (hD.zaddr rfl) hrec K h)

def f_X5_joins_L7b (S0 : Nat → Nat → Int32) (S1 : Nat → Nat → Int32)  (rec : (Int32 × Int32) → Option (Int32)) (a : Int32 × Int32) : Option (Int32) := if a.2 < 0 then (some a.1) else ((f_X5_joins_L14 S0 S1 a.2 zfuel (a.1, 0)).bind fun y_4 => rec (y_4, (a.2 + (-1))))
def f_X5_joins_L7 (S0 : Nat → Nat → Int32) (S1 : Nat → Nat → Int32)  : Nat → (Int32 × Int32) → Option (Int32) := zloop (fun rec a => f_X5_joins_L7b S0 S1 rec a)
set_option maxHeartbeats 4000000 in
set_option maxRecDepth 100000 in
theorem p_X5_joins_L7 (C : zC p R s m args meth c cX5_joins 5 RX5 wsX5_joins D T 3 70 0 0) (S0 : Nat → Nat → Int32) (S1 : Nat → Nat → Int32)  (hD : va_D (fun _ => True) (wX5 T a0 S0 ++ wX1 T a1 S1)) : ∀ (n : Nat) (c0 : Int32) (c1 : Int32) (b : Int32), f_X5_joins_L7 S0 S1 n (c0, c1) = some b → (zt p l e R s m args below meth c 5 A D 0 0 Q (wX5 T a0 S0 ++ wX1 T a1 S1) [(2, .int b)] 51 []) → zt p l e R s m args below meth c 5 A D 0 0 Q (wX5 T a0 S0 ++ wX1 T a1 S1) [(0, .ref (a0 99)), (1, .ref (a1 99)), (2, .int c0), (3, .int c1)] 7 [] := by
  intro n c0 c1 b h K
  refine zloop_ind (P := fun a b => (zt p l e R s m args below meth c 5 A D 0 0 Q (wX5 T a0 S0 ++ wX1 T a1 S1) [(2, .int b)] 51 []) → zt p l e R s m args below meth c 5 A D 0 0 Q (wX5 T a0 S0 ++ wX1 T a1 S1) [(0, .ref (a0 99)), (1, .ref (a1 99)), (2, .int a.1), (3, .int a.2)] 7 []) ?_ n (c0, c1) b h K
  clear h K b c0 c1
  intro rec hrec a b h K
  have hrec : ∀ (c0 : Int32) (c1 : Int32) (b : Int32), rec (c0, c1) = some b → (zt p l e R s m args below meth c 5 A D 0 0 Q (wX5 T a0 S0 ++ wX1 T a1 S1) [(2, .int b)] 51 []) → zt p l e R s m args below meth c 5 A D 0 0 Q (wX5 T a0 S0 ++ wX1 T a1 S1) [(0, .ref (a0 99)), (1, .ref (a1 99)), (2, .int c0), (3, .int c1)] 7 [] := fun c0 c1 b h K => hrec (c0, c1) b h K
  unfold f_X5_joins_L7b at h
  refine z_iload_n C dX5_joins_7 rfl 3 rfl 8 rfl ?_
  refine z_if_lt C 51 dX5_joins_8 (by decide) 11 rfl h (fun h => ?_) (fun h => ?_)
  · refine z_locals (ks := [2]) (lv' := [(2, .int a.1)]) rfl ?_
    exact zex1 (F := (fun e0 => zt p l e R s m args below meth c 5 A D 0 0 Q (wX5 T a0 S0 ++ wX1 T a1 S1) [(2, .int e0)] 51 [])) h K
  · refine z_iconst C 0 dX5_joins_11 (by decide) 12 rfl ?_
    refine z_istore C [(0, .ref (a0 99)), (1, .ref (a1 99)), (2, .int a.1), (3, .int a.2), (4, .int 0)] dX5_joins_12 (Nat.le_of_ble_eq_true rfl) [1, 2, 3, 4, 0] rfl 14 rfl ?_
    obtain ⟨y_4, hl_y_4, h⟩ := Option.bind_eq_some_iff.mp h
    refine z_locals (ks := [0, 1, 2, 3, 4]) rfl (p_X5_joins_L14 C S0 S1 a.2 (hD.zaddr rfl) _ _ _ _ hl_y_4 ?_)
    refine z_iinc C (a.2 + (-1)) [(0, .ref (a0 99)), (1, .ref (a1 99)), (2, .int y_4), (3, .int (a.2 + (-1)))] dX5_joins_45 3 rfl rfl (Nat.le_of_ble_eq_true rfl) [1, 2, 3, 0] rfl 48 rfl ?_
    refine z_goto C 7 dX5_joins_48 (by decide) ?_
    exact z_locals (ks := [0, 1, 2, 3]) rfl (hrec _ _ _ h K)

def f_X5_joins (S0 : Nat → Nat → Int32) (S1 : Nat → Nat → Int32)  : Option (Int32) := zlet (S1 0 0) fun u_1 => (f_X5_joins_L7 S0 S1 zfuel (0, u_1)).bind fun y_5 => some y_5
theorem dd_X5_joins : RX5 ≠ "java/lang/invoke/MethodHandle" ∧ RX5 ≠ "java/lang/invoke/VarHandle" ∧ (parseMethodDescriptor yX5_joins.desc).map (fun d => d.parameters.length) = some 1 := by decide +kernel
set_option maxHeartbeats 4000000 in
set_option maxRecDepth 100000 in
theorem c_X5_joins (l : Launch) (D : va_G) (T : Nat → ClassId) (a0 : Nat → Nat) (a1 : Nat → Nat) (S0 : Nat → Nat → Int32) (S1 : Nat → Nat → Int32)  (ex : Int32) (h : f_X5_joins S0 S1 = some ex) : zRI l yX5_joins wsX5_joins ({ frames := 3, cells := 0, slots := 0, locals := 70 } : Room) D T [.ref (a0 99), .ref (a1 99)] (wX5 T a0 S0 ++ wX1 T a1 S1) ex := by
  refine z_begin (cc := cX5_joins) (nL := 5) (own := RX5) (fr := 3) (lc := 70) (ret := some .int) (by decide) rfl (Nat.le_of_ble_eq_true rfl) (fun _ => False) rfl [(0, .ref (a0 99)), (1, .ref (a1 99))] rfl ⟨rfl, rfl⟩ rfl ?_
  intro p e s m args below meth c C hr hD
  unfold f_X5_joins at h
  refine z_iconst C 0 dX5_joins_0 (by decide) 1 rfl ?_
  refine z_istore_n C [(0, .ref (a0 99)), (1, .ref (a1 99)), (2, .int 0)] dX5_joins_1 rfl (Nat.le_of_ble_eq_true rfl) [1, 2, 0] rfl 2 rfl ?_
  refine z_aload_n C dX5_joins_2 rfl 1 rfl 3 rfl ?_
  refine z_get C (in_X5_joins_X1) 3 rfl rfl 0 (by decide) (List.mem_of_getElem? (i := 1) rfl) rfl rfl dX5_joins_3 6 rfl ?_
  refine z_top h (fun u_1 h => ?_)
  refine z_istore_n C [(0, .ref (a0 99)), (1, .ref (a1 99)), (2, .int 0), (3, .int u_1)] dX5_joins_6 rfl (Nat.le_of_ble_eq_true rfl) [1, 2, 3, 0] rfl 7 rfl ?_
  obtain ⟨y_5, hl_y_5, h⟩ := Option.bind_eq_some_iff.mp h
  refine z_locals (ks := [0, 1, 2, 3]) rfl (p_X5_joins_L7 C S0 S1  (hD.zaddr rfl) _ _ _ _ hl_y_5 ?_)
  refine z_iload_n C dX5_joins_51 rfl 0 rfl 52 rfl ?_
  exact z_iretR C hr dX5_joins_52 h

end
/-! StreamTree$Tree.tellJoin (LStreamTree$Chart;II)I -/
section
variable {p : Program} {l : Launch} {e : Env} {R : Room} {s : State} {m : MethodId} {args : Array Value} {below : List Frame} {meth : Method} {c : Code} {Q : State → Prop} {A : Nat → Prop} {D : va_G} {T : Nat → ClassId} {a0 : Nat → Nat} {a1 : Nat → Nat}
theorem in_X5_tellJoin_X1 : ∀ w ∈ u_ws RX1 TX1 10, w ∈ wsX5_tellJoin := fun _ h => (List.mem_cons_of_mem _ (List.mem_append_left _ (List.mem_append_right _ h)))
def f_X5_tellJoin_J85 (rec : (Int32 × Int32) → Option (Nat × Int32 × Int32 × Int32)) (S0 : Nat → Nat → Int32) (S1 : Nat → Nat → Int32) (v3 : Int32) (v5 : Int32) (x6 : Int32) (k0 : Int32) (k1 : Int32) : Option (Nat × Int32 × Int32 × Int32) := zlet (k0 - k1) fun u_4 => rec (u_4, (x6 + 1))
set_option maxHeartbeats 4000000 in
set_option maxRecDepth 100000 in
theorem p_X5_tellJoin_J85 (C : zC p R s m args meth c cX5_tellJoin 8 RX5 wsX5_tellJoin D T 3 70 0 0) (S0 : Nat → Nat → Int32) (S1 : Nat → Nat → Int32) {v3 : Int32} {v5 : Int32} (x6 : Int32) (k0 : Int32) (k1 : Int32) (hD : va_D (fun _ => True) (wX5 T a0 S0 ++ wX1 T a1 S1)) {rec : (Int32 × Int32) → Option (Nat × Int32 × Int32 × Int32)} (hrec : ∀ (c0 : Int32) (c1 : Int32) (b : Nat × Int32 × Int32 × Int32), rec (c0, c1) = some b → ((b.1 = 0 → zt p l e R s m args below meth c 8 A D 0 0 Q (wX5 T a0 S0 ++ wX1 T a1 S1) [(3, .int v3), (5, .int v5), (6, .int b.2.2.1), (7, .int b.2.2.2)] 50 []) ∧ (b.1 = 1 → zt p l e R s m args below meth c 8 A D 0 0 Q (wX5 T a0 S0 ++ wX1 T a1 S1) [(0, .ref (a0 99)), (1, .ref (a1 99)), (3, .int v3), (4, .int b.2.1), (5, .int v5)] 94 [])) → zt p l e R s m args below meth c 8 A D 0 0 Q (wX5 T a0 S0 ++ wX1 T a1 S1) [(0, .ref (a0 99)), (1, .ref (a1 99)), (3, .int v3), (4, .int c0), (5, .int v5), (6, .int c1)] 17 []) {b : Nat × Int32 × Int32 × Int32} (K : (b.1 = 0 → zt p l e R s m args below meth c 8 A D 0 0 Q (wX5 T a0 S0 ++ wX1 T a1 S1) [(3, .int v3), (5, .int v5), (6, .int b.2.2.1), (7, .int b.2.2.2)] 50 []) ∧ (b.1 = 1 → zt p l e R s m args below meth c 8 A D 0 0 Q (wX5 T a0 S0 ++ wX1 T a1 S1) [(0, .ref (a0 99)), (1, .ref (a1 99)), (3, .int v3), (4, .int b.2.1), (5, .int v5)] 94 [])) (h : f_X5_tellJoin_J85 rec S0 S1 v3 v5 x6 k0 k1 = some b) : zt p l e R s m args below meth c 8 A D 0 0 Q (wX5 T a0 S0 ++ wX1 T a1 S1) [(0, .ref (a0 99)), (1, .ref (a1 99)), (3, .int v3), (5, .int v5), (6, .int x6)] 85 [.int k1, .int k0] := by
  unfold f_X5_tellJoin_J85 at h
  refine z_isub C dX5_tellJoin_85 86 rfl ?_
  refine z_top h (fun u_4 h => ?_)
  refine z_istore C [(0, .ref (a0 99)), (1, .ref (a1 99)), (3, .int v3), (4, .int u_4), (5, .int v5), (6, .int x6)] dX5_tellJoin_86 (Nat.le_of_ble_eq_true rfl) [1, 2, 3, 0, 4, 5] rfl 88 rfl ?_
  refine z_iinc C (x6 + 1) [(0, .ref (a0 99)), (1, .ref (a1 99)), (3, .int v3), (4, .int u_4), (5, .int v5), (6, .int (x6 + 1))] dX5_tellJoin_88 5 rfl rfl (Nat.le_of_ble_eq_true rfl) [1, 2, 3, 4, 5, 0] rfl 91 rfl ?_
  refine z_goto C 17 dX5_tellJoin_91 (by decide) ?_
  exact z_locals (ks := [0, 1, 2, 3, 4, 5]) rfl (hrec _ _ _ h K)

def f_X5_tellJoin_J72 (rec : (Int32 × Int32) → Option (Nat × Int32 × Int32 × Int32)) (S0 : Nat → Nat → Int32) (S1 : Nat → Nat → Int32) (v3 : Int32) (x4 : Int32) (v5 : Int32) (x6 : Int32) (x7 : Int32)  : Option (Nat × Int32 × Int32 × Int32) := if x7 < 2 then (f_X5_tellJoin_J85 rec S0 S1 v3 v5 x6 x4 0) else (f_X5_tellJoin_J85 rec S0 S1 v3 v5 x6 x4 1)
set_option maxHeartbeats 4000000 in
set_option maxRecDepth 100000 in
theorem p_X5_tellJoin_J72 (C : zC p R s m args meth c cX5_tellJoin 8 RX5 wsX5_tellJoin D T 3 70 0 0) (S0 : Nat → Nat → Int32) (S1 : Nat → Nat → Int32) {v3 : Int32} {v5 : Int32} (x4 : Int32) (x6 : Int32) (x7 : Int32)  (hD : va_D (fun _ => True) (wX5 T a0 S0 ++ wX1 T a1 S1)) {rec : (Int32 × Int32) → Option (Nat × Int32 × Int32 × Int32)} (hrec : ∀ (c0 : Int32) (c1 : Int32) (b : Nat × Int32 × Int32 × Int32), rec (c0, c1) = some b → ((b.1 = 0 → zt p l e R s m args below meth c 8 A D 0 0 Q (wX5 T a0 S0 ++ wX1 T a1 S1) [(3, .int v3), (5, .int v5), (6, .int b.2.2.1), (7, .int b.2.2.2)] 50 []) ∧ (b.1 = 1 → zt p l e R s m args below meth c 8 A D 0 0 Q (wX5 T a0 S0 ++ wX1 T a1 S1) [(0, .ref (a0 99)), (1, .ref (a1 99)), (3, .int v3), (4, .int b.2.1), (5, .int v5)] 94 [])) → zt p l e R s m args below meth c 8 A D 0 0 Q (wX5 T a0 S0 ++ wX1 T a1 S1) [(0, .ref (a0 99)), (1, .ref (a1 99)), (3, .int v3), (4, .int c0), (5, .int v5), (6, .int c1)] 17 []) {b : Nat × Int32 × Int32 × Int32} (K : (b.1 = 0 → zt p l e R s m args below meth c 8 A D 0 0 Q (wX5 T a0 S0 ++ wX1 T a1 S1) [(3, .int v3), (5, .int v5), (6, .int b.2.2.1), (7, .int b.2.2.2)] 50 []) ∧ (b.1 = 1 → zt p l e R s m args below meth c 8 A D 0 0 Q (wX5 T a0 S0 ++ wX1 T a1 S1) [(0, .ref (a0 99)), (1, .ref (a1 99)), (3, .int v3), (4, .int b.2.1), (5, .int v5)] 94 [])) (h : f_X5_tellJoin_J72 rec S0 S1 v3 x4 v5 x6 x7 = some b) : zt p l e R s m args below meth c 8 A D 0 0 Q (wX5 T a0 S0 ++ wX1 T a1 S1) [(0, .ref (a0 99)), (1, .ref (a1 99)), (3, .int v3), (4, .int x4), (5, .int v5), (6, .int x6), (7, .int x7)] 72 [] := by
  unfold f_X5_tellJoin_J72 at h
  refine z_iload C dX5_tellJoin_72 3 rfl 74 rfl ?_
  refine z_iload C dX5_tellJoin_74 6 rfl 76 rfl ?_
  refine z_iconst C 2 dX5_tellJoin_76 (by decide) 77 rfl ?_
  refine z_icmp_lt C 84 dX5_tellJoin_77 (by decide) 80 rfl h (fun h => ?_) (fun h => ?_)
  · refine z_iconst C 0 dX5_tellJoin_84 (by decide) 85 rfl ?_
    exact z_locals (ks := [0, 1, 2, 4, 5]) rfl (p_X5_tellJoin_J85 C S0 S1 x6 x4 0 (hD.zaddr rfl) hrec K h)
  · refine z_iconst C 1 dX5_tellJoin_80 (by decide) 81 rfl ?_
    refine z_goto C 85 dX5_tellJoin_81 (by decide) ?_
    exact z_locals (ks := [0, 1, 2, 4, 5]) rfl (p_X5_tellJoin_J85 C S0 S1 x6 x4 1 (hD.zaddr rfl) hrec K h)

def f_X5_tellJoin_L17b (S0 : Nat → Nat → Int32) (S1 : Nat → Nat → Int32) (v3 : Int32) (v5 : Int32) (rec : (Int32 × Int32) → Option (Nat × Int32 × Int32 × Int32)) (a : Int32 × Int32) : Option (Nat × Int32 × Int32 × Int32) := (f_X1_turnsOf S1 v5).bind fun r_2 => if r_2 ≤ a.2 then (some (1, a.1, 0, 0)) else ((f_X5_comers S0 S1 v5 a.2).bind fun r_3 => if r_3 < 2 then (f_X5_tellJoin_J72 rec S0 S1 v3 a.1 v5 a.2 r_3) else (if a.1 = 0 then (some (0, 0, a.2, r_3)) else (f_X5_tellJoin_J72 rec S0 S1 v3 a.1 v5 a.2 r_3)))
def f_X5_tellJoin_L17 (S0 : Nat → Nat → Int32) (S1 : Nat → Nat → Int32) (v3 : Int32) (v5 : Int32) : Nat → (Int32 × Int32) → Option (Nat × Int32 × Int32 × Int32) := zloop (fun rec a => f_X5_tellJoin_L17b S0 S1 v3 v5 rec a)
set_option maxHeartbeats 4000000 in
set_option maxRecDepth 100000 in
theorem p_X5_tellJoin_L17 (C : zC p R s m args meth c cX5_tellJoin 8 RX5 wsX5_tellJoin D T 3 70 0 0) (S0 : Nat → Nat → Int32) (S1 : Nat → Nat → Int32) (v3 : Int32) (v5 : Int32) (hD : va_D (fun _ => True) (wX5 T a0 S0 ++ wX1 T a1 S1)) : ∀ (n : Nat) (c0 : Int32) (c1 : Int32) (b : Nat × Int32 × Int32 × Int32), f_X5_tellJoin_L17 S0 S1 v3 v5 n (c0, c1) = some b → ((b.1 = 0 → zt p l e R s m args below meth c 8 A D 0 0 Q (wX5 T a0 S0 ++ wX1 T a1 S1) [(3, .int v3), (5, .int v5), (6, .int b.2.2.1), (7, .int b.2.2.2)] 50 []) ∧ (b.1 = 1 → zt p l e R s m args below meth c 8 A D 0 0 Q (wX5 T a0 S0 ++ wX1 T a1 S1) [(0, .ref (a0 99)), (1, .ref (a1 99)), (3, .int v3), (4, .int b.2.1), (5, .int v5)] 94 [])) → zt p l e R s m args below meth c 8 A D 0 0 Q (wX5 T a0 S0 ++ wX1 T a1 S1) [(0, .ref (a0 99)), (1, .ref (a1 99)), (3, .int v3), (4, .int c0), (5, .int v5), (6, .int c1)] 17 [] := by
  intro n c0 c1 b h K
  refine zloop_ind (P := fun a b => ((b.1 = 0 → zt p l e R s m args below meth c 8 A D 0 0 Q (wX5 T a0 S0 ++ wX1 T a1 S1) [(3, .int v3), (5, .int v5), (6, .int b.2.2.1), (7, .int b.2.2.2)] 50 []) ∧ (b.1 = 1 → zt p l e R s m args below meth c 8 A D 0 0 Q (wX5 T a0 S0 ++ wX1 T a1 S1) [(0, .ref (a0 99)), (1, .ref (a1 99)), (3, .int v3), (4, .int b.2.1), (5, .int v5)] 94 [])) → zt p l e R s m args below meth c 8 A D 0 0 Q (wX5 T a0 S0 ++ wX1 T a1 S1) [(0, .ref (a0 99)), (1, .ref (a1 99)), (3, .int v3), (4, .int a.1), (5, .int v5), (6, .int a.2)] 17 []) ?_ n (c0, c1) b h K
  clear h K b c0 c1
  intro rec hrec a b h K
  have hrec : ∀ (c0 : Int32) (c1 : Int32) (b : Nat × Int32 × Int32 × Int32), rec (c0, c1) = some b → ((b.1 = 0 → zt p l e R s m args below meth c 8 A D 0 0 Q (wX5 T a0 S0 ++ wX1 T a1 S1) [(3, .int v3), (5, .int v5), (6, .int b.2.2.1), (7, .int b.2.2.2)] 50 []) ∧ (b.1 = 1 → zt p l e R s m args below meth c 8 A D 0 0 Q (wX5 T a0 S0 ++ wX1 T a1 S1) [(0, .ref (a0 99)), (1, .ref (a1 99)), (3, .int v3), (4, .int b.2.1), (5, .int v5)] 94 [])) → zt p l e R s m args below meth c 8 A D 0 0 Q (wX5 T a0 S0 ++ wX1 T a1 S1) [(0, .ref (a0 99)), (1, .ref (a1 99)), (3, .int v3), (4, .int c0), (5, .int v5), (6, .int c1)] 17 [] := fun c0 c1 b h K => hrec (c0, c1) b h K
  unfold f_X5_tellJoin_L17b at h
  refine z_iload C dX5_tellJoin_17 5 rfl 19 rfl ?_
  refine z_aload_n C dX5_tellJoin_19 rfl 1 rfl 20 rfl ?_
  refine z_iload C dX5_tellJoin_20 4 rfl 22 rfl ?_
  refine z_callR C (wX1 T a1 S1) (fun v h => c_X1_turnsOf l D T a1  S1 v5 v h) ⟨rfl, rfl⟩ (z_cwV C 1 gX5_tellJoin_X1_turnsOf rfl rfl dd_X1_turnsOf ⟨(Nat.le_of_ble_eq_true rfl), (Nat.le_of_ble_eq_true rfl)⟩) (hD.zaddr rfl) [3, 4, 5, 6, 7] rfl rfl (fun _ => ⟨a1 99, [.int v5], 1, 0, _, _, rfl, rfl, rfl, rfl, rfl⟩) (fun h => absurd rfl h) rfl (Nat.le_of_ble_eq_true rfl) dX5_tellJoin_22 25 rfl h (fun r_2 h => ?_)
  refine z_icmp_ge C 94 dX5_tellJoin_25 (by decide) 28 rfl h (fun h => ?_) (fun h => ?_)
  · refine z_locals (ks := [0, 1, 2, 3, 4]) (lv' := [(0, .ref (a0 99)), (1, .ref (a1 99)), (3, .int v3), (4, .int a.1), (5, .int v5)]) rfl ?_
    exact zexT3 (F := (fun e0 e1 e2 => zt p l e R s m args below meth c 8 A D 0 0 Q (wX5 T a0 S0 ++ wX1 T a1 S1) [(0, .ref (a0 99)), (1, .ref (a1 99)), (3, .int v3), (4, .int e0), (5, .int v5)] 94 [])) h K.2
  · refine z_aload_n C dX5_tellJoin_28 rfl 0 rfl 29 rfl ?_
    refine z_aload_n C dX5_tellJoin_29 rfl 1 rfl 30 rfl ?_
    refine z_iload C dX5_tellJoin_30 4 rfl 32 rfl ?_
    refine z_iload C dX5_tellJoin_32 5 rfl 34 rfl ?_
    refine z_callR C (wX5 T a0 S0 ++ wX1 T a1 S1) (fun v h => c_X5_comers l D T a0 a1  S0 S1 v5 a.2 v h) ⟨rfl, rfl⟩ (z_cwV C 3 gX5_tellJoin_X5_comers rfl rfl dd_X5_comers ⟨(Nat.le_of_ble_eq_true rfl), (Nat.le_of_ble_eq_true rfl)⟩) (hD.zaddr rfl) [0, 1, 2, 3, 4, 5, 6, 7] rfl rfl (fun _ => ⟨a0 99, [.ref (a1 99), .int v5, .int a.2], 4, 0, _, _, rfl, rfl, rfl, rfl, rfl⟩) (fun h => absurd rfl h) rfl (Nat.le_of_ble_eq_true rfl) dX5_tellJoin_34 37 rfl h (fun r_3 h => ?_)
    refine z_istore C [(0, .ref (a0 99)), (1, .ref (a1 99)), (3, .int v3), (4, .int a.1), (5, .int v5), (6, .int a.2), (7, .int r_3)] dX5_tellJoin_37 (Nat.le_of_ble_eq_true rfl) [1, 2, 3, 4, 5, 6, 0] rfl 39 rfl ?_
    refine z_iload C dX5_tellJoin_39 6 rfl 41 rfl ?_
    refine z_iconst C 2 dX5_tellJoin_41 (by decide) 42 rfl ?_
    refine z_icmp_lt C 72 dX5_tellJoin_42 (by decide) 45 rfl h (fun h => ?_) (fun h => ?_)
    · exact z_locals (ks := [0, 1, 2, 3, 4, 5, 6]) rfl (p_X5_tellJoin_J72 C S0 S1 a.1 a.2 r_3 (hD.zaddr rfl) hrec K h)
    · refine z_iload C dX5_tellJoin_45 3 rfl 47 rfl ?_
      refine z_if_ne C 72 dX5_tellJoin_47 (by decide) 50 rfl h (fun h => ?_) (fun h => ?_)
      · exact z_locals (ks := [0, 1, 2, 3, 4, 5, 6]) rfl (p_X5_tellJoin_J72 C S0 S1 a.1 a.2 r_3 (hD.zaddr rfl) hrec K h)
      · refine z_locals (ks := [2, 4, 5, 6]) (lv' := [(3, .int v3), (5, .int v5), (6, .int a.2), (7, .int r_3)]) rfl ?_
        exact zexT3 (F := (fun e0 e1 e2 => zt p l e R s m args below meth c 8 A D 0 0 Q (wX5 T a0 S0 ++ wX1 T a1 S1) [(3, .int v3), (5, .int v5), (6, .int e1), (7, .int e2)] 50 [])) h K.1

def f_X5_tellJoin_L9b (S0 : Nat → Nat → Int32) (S1 : Nat → Nat → Int32) (v3 : Int32) (rec : (Int32 × Int32) → Option (Nat × Int32 × Int32 × Int32)) (a : Int32 × Int32) : Option (Nat × Int32 × Int32 × Int32) := if a.2 < 0 then (some (1, 0, 0, 0)) else ((f_X5_tellJoin_L17 S0 S1 v3 a.2 zfuel (a.1, 0)).bind fun y_5 => if y_5.1 = 0 then (some (0, a.2, y_5.2.2.1, y_5.2.2.2)) else (rec (y_5.2.1, (a.2 + (-1)))))
def f_X5_tellJoin_L9 (S0 : Nat → Nat → Int32) (S1 : Nat → Nat → Int32) (v3 : Int32) : Nat → (Int32 × Int32) → Option (Nat × Int32 × Int32 × Int32) := zloop (fun rec a => f_X5_tellJoin_L9b S0 S1 v3 rec a)
set_option maxHeartbeats 4000000 in
set_option maxRecDepth 100000 in
theorem p_X5_tellJoin_L9 (C : zC p R s m args meth c cX5_tellJoin 8 RX5 wsX5_tellJoin D T 3 70 0 0) (S0 : Nat → Nat → Int32) (S1 : Nat → Nat → Int32) (v3 : Int32) (hD : va_D (fun _ => True) (wX5 T a0 S0 ++ wX1 T a1 S1)) : ∀ (n : Nat) (c0 : Int32) (c1 : Int32) (b : Nat × Int32 × Int32 × Int32), f_X5_tellJoin_L9 S0 S1 v3 n (c0, c1) = some b → ((b.1 = 0 → zt p l e R s m args below meth c 8 A D 0 0 Q (wX5 T a0 S0 ++ wX1 T a1 S1) [(3, .int v3), (5, .int b.2.1), (6, .int b.2.2.1), (7, .int b.2.2.2)] 50 []) ∧ (b.1 = 1 → zt p l e R s m args below meth c 8 A D 0 0 Q (wX5 T a0 S0 ++ wX1 T a1 S1) [] 100 [])) → zt p l e R s m args below meth c 8 A D 0 0 Q (wX5 T a0 S0 ++ wX1 T a1 S1) [(0, .ref (a0 99)), (1, .ref (a1 99)), (3, .int v3), (4, .int c0), (5, .int c1)] 9 [] := by
  intro n c0 c1 b h K
  refine zloop_ind (P := fun a b => ((b.1 = 0 → zt p l e R s m args below meth c 8 A D 0 0 Q (wX5 T a0 S0 ++ wX1 T a1 S1) [(3, .int v3), (5, .int b.2.1), (6, .int b.2.2.1), (7, .int b.2.2.2)] 50 []) ∧ (b.1 = 1 → zt p l e R s m args below meth c 8 A D 0 0 Q (wX5 T a0 S0 ++ wX1 T a1 S1) [] 100 [])) → zt p l e R s m args below meth c 8 A D 0 0 Q (wX5 T a0 S0 ++ wX1 T a1 S1) [(0, .ref (a0 99)), (1, .ref (a1 99)), (3, .int v3), (4, .int a.1), (5, .int a.2)] 9 []) ?_ n (c0, c1) b h K
  clear h K b c0 c1
  intro rec hrec a b h K
  have hrec : ∀ (c0 : Int32) (c1 : Int32) (b : Nat × Int32 × Int32 × Int32), rec (c0, c1) = some b → ((b.1 = 0 → zt p l e R s m args below meth c 8 A D 0 0 Q (wX5 T a0 S0 ++ wX1 T a1 S1) [(3, .int v3), (5, .int b.2.1), (6, .int b.2.2.1), (7, .int b.2.2.2)] 50 []) ∧ (b.1 = 1 → zt p l e R s m args below meth c 8 A D 0 0 Q (wX5 T a0 S0 ++ wX1 T a1 S1) [] 100 [])) → zt p l e R s m args below meth c 8 A D 0 0 Q (wX5 T a0 S0 ++ wX1 T a1 S1) [(0, .ref (a0 99)), (1, .ref (a1 99)), (3, .int v3), (4, .int c0), (5, .int c1)] 9 [] := fun c0 c1 b h K => hrec (c0, c1) b h K
  unfold f_X5_tellJoin_L9b at h
  refine z_iload C dX5_tellJoin_9 4 rfl 11 rfl ?_
  refine z_if_lt C 100 dX5_tellJoin_11 (by decide) 14 rfl h (fun h => ?_) (fun h => ?_)
  · refine z_locals (ks := []) (lv' := []) rfl ?_
    exact zexT3 (F := (fun e0 e1 e2 => zt p l e R s m args below meth c 8 A D 0 0 Q (wX5 T a0 S0 ++ wX1 T a1 S1) [] 100 [])) h K.2
  · refine z_iconst C 0 dX5_tellJoin_14 (by decide) 15 rfl ?_
    refine z_istore C [(0, .ref (a0 99)), (1, .ref (a1 99)), (3, .int v3), (4, .int a.1), (5, .int a.2), (6, .int 0)] dX5_tellJoin_15 (Nat.le_of_ble_eq_true rfl) [1, 2, 3, 4, 5, 0] rfl 17 rfl ?_
    obtain ⟨y_5, hl_y_5, h⟩ := Option.bind_eq_some_iff.mp h
    refine z_locals (ks := [0, 1, 2, 3, 4, 5]) rfl (p_X5_tellJoin_L17 C S0 S1 v3 a.2 (hD.zaddr rfl) _ _ _ _ hl_y_5 ⟨fun ht => ?_, fun ht => ?_⟩)
    · replace h := z_pos ht h
      refine z_locals (ks := [0, 1, 2, 3]) (lv' := [(3, .int v3), (5, .int a.2), (6, .int y_5.2.2.1), (7, .int y_5.2.2.2)]) rfl ?_
      exact zexT3 (F := (fun e0 e1 e2 => zt p l e R s m args below meth c 8 A D 0 0 Q (wX5 T a0 S0 ++ wX1 T a1 S1) [(3, .int v3), (5, .int e0), (6, .int e1), (7, .int e2)] 50 [])) h K.1
    · replace h := z_neg (by rw [ht]; decide) h
      refine z_iinc C (a.2 + (-1)) [(0, .ref (a0 99)), (1, .ref (a1 99)), (3, .int v3), (4, .int y_5.2.1), (5, .int (a.2 + (-1)))] dX5_tellJoin_94 4 rfl rfl (Nat.le_of_ble_eq_true rfl) [1, 2, 3, 4, 0] rfl 97 rfl ?_
      refine z_goto C 9 dX5_tellJoin_97 (by decide) ?_
      exact z_locals (ks := [0, 1, 2, 3, 4]) rfl (hrec _ _ _ h K)

def f_X5_tellJoin (S0 : Nat → Nat → Int32) (S1 : Nat → Nat → Int32) (v2 : Int32) (v3 : Int32) : Option (Int32) := zlet (S1 0 0) fun u_1 => (f_X5_tellJoin_L9 S0 S1 v3 zfuel (v2, u_1)).bind fun y_6 => if y_6.1 = 0 then (if v3 = 0 then (some y_6.2.1) else (if v3 = 1 then (some y_6.2.2.1) else (some y_6.2.2.2))) else (some (-1))
theorem dd_X5_tellJoin : RX5 ≠ "java/lang/invoke/MethodHandle" ∧ RX5 ≠ "java/lang/invoke/VarHandle" ∧ (parseMethodDescriptor yX5_tellJoin.desc).map (fun d => d.parameters.length) = some 3 := by decide +kernel
set_option maxHeartbeats 4000000 in
set_option maxRecDepth 100000 in
theorem c_X5_tellJoin (l : Launch) (D : va_G) (T : Nat → ClassId) (a0 : Nat → Nat) (a1 : Nat → Nat) (S0 : Nat → Nat → Int32) (S1 : Nat → Nat → Int32) (v2 : Int32) (v3 : Int32) (ex : Int32) (h : f_X5_tellJoin S0 S1 v2 v3 = some ex) : zRI l yX5_tellJoin wsX5_tellJoin ({ frames := 3, cells := 0, slots := 0, locals := 70 } : Room) D T [.ref (a0 99), .ref (a1 99), .int v2, .int v3] (wX5 T a0 S0 ++ wX1 T a1 S1) ex := by
  refine z_begin (cc := cX5_tellJoin) (nL := 8) (own := RX5) (fr := 3) (lc := 70) (ret := some .int) (by decide) rfl (Nat.le_of_ble_eq_true rfl) (fun _ => False) rfl [(0, .ref (a0 99)), (1, .ref (a1 99)), (2, .int v2), (3, .int v3)] rfl ⟨rfl, rfl⟩ rfl ?_
  intro p e s m args below meth c C hr hD
  unfold f_X5_tellJoin at h
  refine z_iload_n C dX5_tellJoin_0 rfl 2 rfl 1 rfl ?_
  refine z_istore C [(0, .ref (a0 99)), (1, .ref (a1 99)), (2, .int v2), (3, .int v3), (4, .int v2)] dX5_tellJoin_1 (Nat.le_of_ble_eq_true rfl) [1, 2, 3, 4, 0] rfl 3 rfl ?_
  refine z_aload_n C dX5_tellJoin_3 rfl 1 rfl 4 rfl ?_
  refine z_get C (in_X5_tellJoin_X1) 3 rfl rfl 0 (by decide) (List.mem_of_getElem? (i := 1) rfl) rfl rfl dX5_tellJoin_4 7 rfl ?_
  refine z_top h (fun u_1 h => ?_)
  refine z_istore C [(0, .ref (a0 99)), (1, .ref (a1 99)), (2, .int v2), (3, .int v3), (4, .int v2), (5, .int u_1)] dX5_tellJoin_7 (Nat.le_of_ble_eq_true rfl) [1, 2, 3, 4, 5, 0] rfl 9 rfl ?_
  obtain ⟨y_6, hl_y_6, h⟩ := Option.bind_eq_some_iff.mp h
  refine z_locals (ks := [0, 1, 3, 4, 5]) rfl (p_X5_tellJoin_L9 C S0 S1 v3 (hD.zaddr rfl) _ _ _ _ hl_y_6 ⟨fun ht => ?_, fun ht => ?_⟩)
  · replace h := z_pos ht h
    refine z_iload_n C dX5_tellJoin_50 rfl 0 rfl 51 rfl ?_
    refine z_if_ne C 59 dX5_tellJoin_51 (by decide) 54 rfl h (fun h => ?_) (fun h => ?_)
    · refine z_iload_n C dX5_tellJoin_59 rfl 0 rfl 60 rfl ?_
      refine z_iconst C 1 dX5_tellJoin_60 (by decide) 61 rfl ?_
      refine z_icmp_ne C 69 dX5_tellJoin_61 (by decide) 64 rfl h (fun h => ?_) (fun h => ?_)
      · refine z_iload C dX5_tellJoin_69 3 rfl 71 rfl ?_
        exact z_iretR C hr dX5_tellJoin_71 h
      · refine z_iload C dX5_tellJoin_64 2 rfl 66 rfl ?_
        refine z_goto C 71 dX5_tellJoin_66 (by decide) ?_
        exact z_iretR C hr dX5_tellJoin_71 h
    · refine z_iload C dX5_tellJoin_54 1 rfl 56 rfl ?_
      refine z_goto C 71 dX5_tellJoin_56 (by decide) ?_
      exact z_iretR C hr dX5_tellJoin_71 h
  · replace h := z_neg (by rw [ht]; decide) h
    refine z_iconst C (-1) dX5_tellJoin_100 (by decide) 101 rfl ?_
    exact z_iretR C hr dX5_tellJoin_101 h

end
