/-! StreamTree.step (III)I -/
section
variable {p : Program} {l : Launch} {e : Env} {R : Room} {s : State} {m : MethodId} {args : Array Value} {below : List Frame} {meth : Method} {c : Code} {Q : State → Prop} {A : Nat → Prop} {D : va_G} {T : Nat → ClassId} {a0 : Nat → Nat} {a1 : Nat → Nat} {a2 : Nat → Nat} {a3 : Nat → Nat} {a4 : Nat → Nat} {a5 : Nat → Nat} {a6 : Nat → Nat} {a7 : Nat → Nat} {a8 : Nat → Nat} {a9 : Nat → Nat}
theorem in_X6_step_X5 : ∀ w ∈ u_ws RX5 TX5 5, w ∈ wsX6_step := fun _ h => (List.mem_cons_of_mem _ (List.mem_append_left _ (List.mem_append_left _ (List.mem_append_right _ h))))
theorem in_X6_step_X6 : ∀ w ∈ u_ws RX6 TX6 9, w ∈ wsX6_step := fun _ h => (List.mem_cons_of_mem _ (List.mem_append_left _ (List.mem_append_left _ (List.mem_append_left _ (List.mem_append_right _ h)))))
def f_X6_step (S1 : Nat → Nat → Int32) (S2 : Nat → Nat → Int32) (S3 : Nat → Nat → Int32) (S4 : Nat → Nat → Int32) (S5 : Nat → Nat → Int32) (S6 : Nat → Nat → Int32) (S7 : Nat → Nat → Int32) (S8 : Nat → Nat → Int32) (S9 : Nat → Nat → Int32) (v1 : Int32) (v2 : Int32) (v3 : Int32) : Option (Int32 × (Nat → Nat → Int32) × (Nat → Nat → Int32) × (Nat → Nat → Int32) × (Nat → Nat → Int32) × (Nat → Nat → Int32)) := (f_X6_isTreeManner v1).bind fun r_1 => if r_1 = 0 then (some ((-1), S4, S5, S6, S7, S8)) else ((f_X1_hasCellOrSource S2 v2 v3).bind fun r_2 => if r_2 = 0 then (some ((-1), S4, S5, S6, S7, S8)) else ((f_X6_treeOf S1 S2 S3 S4 S5 S6 S7 S8 S9 v1).bind fun r_3 => if r_3.1 = 5 then (if (r_3.2.2.1 1 0) = 0 then (some ((-2), r_3.2.1, r_3.2.2.1, r_3.2.2.2.1, r_3.2.2.2.2.1, r_3.2.2.2.2.2)) else ((f_X6_cellOf v2 v3).bind fun r_4 => zix r_4 240 fun _ => some ((r_3.2.2.1 4 (Int32.toNatClampNeg r_4)), r_3.2.1, r_3.2.2.1, r_3.2.2.2.1, r_3.2.2.2.2.1, r_3.2.2.2.2.2))) else (if r_3.1 = 6 then (if (r_3.2.2.2.1 1 0) = 0 then (some ((-2), r_3.2.1, r_3.2.2.1, r_3.2.2.2.1, r_3.2.2.2.2.1, r_3.2.2.2.2.2)) else ((f_X6_cellOf v2 v3).bind fun r_5 => zix r_5 240 fun _ => some ((r_3.2.2.2.1 4 (Int32.toNatClampNeg r_5)), r_3.2.1, r_3.2.2.1, r_3.2.2.2.1, r_3.2.2.2.2.1, r_3.2.2.2.2.2))) else (if r_3.1 = 7 then (if (r_3.2.2.2.2.1 1 0) = 0 then (some ((-2), r_3.2.1, r_3.2.2.1, r_3.2.2.2.1, r_3.2.2.2.2.1, r_3.2.2.2.2.2)) else ((f_X6_cellOf v2 v3).bind fun r_6 => zix r_6 240 fun _ => some ((r_3.2.2.2.2.1 4 (Int32.toNatClampNeg r_6)), r_3.2.1, r_3.2.2.1, r_3.2.2.2.1, r_3.2.2.2.2.1, r_3.2.2.2.2.2))) else (if (r_3.2.2.2.2.2 1 0) = 0 then (some ((-2), r_3.2.1, r_3.2.2.1, r_3.2.2.2.1, r_3.2.2.2.2.1, r_3.2.2.2.2.2)) else ((f_X6_cellOf v2 v3).bind fun r_7 => zix r_7 240 fun _ => some ((r_3.2.2.2.2.2 4 (Int32.toNatClampNeg r_7)), r_3.2.1, r_3.2.2.1, r_3.2.2.2.1, r_3.2.2.2.2.1, r_3.2.2.2.2.2)))))))
theorem dd_X6_step : RX6 ≠ "java/lang/invoke/MethodHandle" ∧ RX6 ≠ "java/lang/invoke/VarHandle" ∧ (parseMethodDescriptor yX6_step.desc).map (fun d => d.parameters.length) = some 3 := by decide +kernel
set_option maxHeartbeats 4000000 in
set_option maxRecDepth 100000 in
theorem c_X6_step (l : Launch) (D : va_G) (T : Nat → ClassId) (a0 : Nat → Nat) (a1 : Nat → Nat) (a2 : Nat → Nat) (a3 : Nat → Nat) (a4 : Nat → Nat) (a5 : Nat → Nat) (a6 : Nat → Nat) (a7 : Nat → Nat) (a8 : Nat → Nat) (a9 : Nat → Nat) (S1 : Nat → Nat → Int32) (S2 : Nat → Nat → Int32) (S3 : Nat → Nat → Int32) (S4 : Nat → Nat → Int32) (S5 : Nat → Nat → Int32) (S6 : Nat → Nat → Int32) (S7 : Nat → Nat → Int32) (S8 : Nat → Nat → Int32) (S9 : Nat → Nat → Int32) (v1 : Int32) (v2 : Int32) (v3 : Int32) (ex : Int32 × (Nat → Nat → Int32) × (Nat → Nat → Int32) × (Nat → Nat → Int32) × (Nat → Nat → Int32) × (Nat → Nat → Int32)) (h : f_X6_step S1 S2 S3 S4 S5 S6 S7 S8 S9 v1 v2 v3 = some ex) : zWI l yX6_step wsX6_step ({ frames := 6, cells := 0, slots := 0, locals := 150 } : Room) D T [.ref (a0 99), .int v1, .int v2, .int v3] (wX6 a0 a1 a2 a3 a4 a5 a6 a7 a8 a9 ++ (wX4 T a1 S1 ++ (wX1 T a2 S2 ++ (wX1 T a3 S3 ++ (wX0 T a4 S4 ++ (wX5 T a5 S5 ++ (wX5 T a6 S6 ++ (wX5 T a7 S7 ++ (wX5 T a8 S8 ++ wX3 T a9 S9))))))))) ex.1 (wX6 a0 a1 a2 a3 a4 a5 a6 a7 a8 a9 ++ (wX4 T a1 S1 ++ (wX1 T a2 S2 ++ (wX1 T a3 S3 ++ (wX0 T a4 ex.2.1 ++ (wX5 T a5 ex.2.2.1 ++ (wX5 T a6 ex.2.2.2.1 ++ (wX5 T a7 ex.2.2.2.2.1 ++ (wX5 T a8 ex.2.2.2.2.2 ++ wX3 T a9 S9))))))))) := by
  refine z_begin (cc := cX6_step) (nL := 5) (own := RX6) (fr := 6) (lc := 150) (ret := some .int) (by decide) rfl (Nat.le_of_ble_eq_true rfl) (zA (wX6 a0 a1 a2 a3 a4 a5 a6 a7 a8 a9 ++ (wX4 T a1 S1 ++ (wX1 T a2 S2 ++ (wX1 T a3 S3 ++ (wX0 T a4 S4 ++ (wX5 T a5 S5 ++ (wX5 T a6 S6 ++ (wX5 T a7 S7 ++ (wX5 T a8 S8 ++ wX3 T a9 S9)))))))))) rfl [(0, .ref (a0 99)), (1, .int v1), (2, .int v2), (3, .int v3)] rfl ⟨rfl, rfl⟩ rfl ?_
  intro p e s m args below meth c C hr hD
  have hD := hD.zself
  unfold f_X6_step at h
  refine z_iload_n C dX6_step_0 rfl 1 rfl 1 rfl ?_
  refine z_callR C ([]) (fun v h => c_X6_isTreeManner l D T    v1 v h) ⟨rfl, rfl⟩ (z_cwS C 1 gX6_step_X6_isTreeManner rfl dd_X6_isTreeManner ⟨(Nat.le_of_ble_eq_true rfl), (Nat.le_of_ble_eq_true rfl)⟩) (hD.zaddr rfl) [] rfl rfl (fun h => absurd h (by decide)) (fun _ => rfl) rfl (Nat.le_of_ble_eq_true rfl) dX6_step_1 4 rfl h (fun r_1 h => ?_)
  refine z_if_eq C 19 dX6_step_4 (by decide) 7 rfl h (fun h => ?_) (fun h => ?_)
  · refine z_iconst C (-1) dX6_step_19 (by decide) 20 rfl ?_
    exact z_iretW (x := (S4, S5, S6, S7, S8)) (ex := ex) (fun z => wX6 a0 a1 a2 a3 a4 a5 a6 a7 a8 a9 ++ (wX4 T a1 S1 ++ (wX1 T a2 S2 ++ (wX1 T a3 S3 ++ (wX0 T a4 z.1 ++ (wX5 T a5 z.2.1 ++ (wX5 T a6 z.2.2.1 ++ (wX5 T a7 z.2.2.2.1 ++ (wX5 T a8 z.2.2.2.2 ++ wX3 T a9 S9))))))))) C hr dX6_step_20 h rfl
  · refine z_aload_n C dX6_step_7 rfl 0 rfl 8 rfl ?_
    refine z_get C (in_X6_step_X6) 0 rfl rfl 1 (by decide) (List.mem_of_getElem? (i := 1) rfl) rfl rfl dX6_step_8 11 rfl ?_
    refine z_iload_n C dX6_step_11 rfl 2 rfl 12 rfl ?_
    refine z_iload_n C dX6_step_12 rfl 3 rfl 13 rfl ?_
    refine z_callR C (wX1 T a2 S2) (fun v h => c_X1_hasCellOrSource l D T a2  S2 v2 v3 v h) ⟨rfl, rfl⟩ (z_cwV C 2 gX6_step_X1_hasCellOrSource rfl rfl dd_X1_hasCellOrSource ⟨(Nat.le_of_ble_eq_true rfl), (Nat.le_of_ble_eq_true rfl)⟩) (hD.zaddr rfl) [3, 4, 5, 6, 7] rfl rfl (fun _ => ⟨a2 99, [.int v2, .int v3], 1, 0, _, _, rfl, rfl, rfl, rfl, rfl⟩) (fun h => absurd rfl h) rfl (Nat.le_of_ble_eq_true rfl) dX6_step_13 16 rfl h (fun r_2 h => ?_)
    refine z_if_ne C 21 dX6_step_16 (by decide) 19 rfl h (fun h => ?_) (fun h => ?_)
    · refine z_aload_n C dX6_step_21 rfl 0 rfl 22 rfl ?_
      refine z_iload_n C dX6_step_22 rfl 1 rfl 23 rfl ?_
      refine z_callA C (wX6 a0 a1 a2 a3 a4 a5 a6 a7 a8 a9 ++ (wX4 T a1 S1 ++ (wX1 T a2 S2 ++ (wX1 T a3 S3 ++ (wX0 T a4 S4 ++ (wX5 T a5 S5 ++ (wX5 T a6 S6 ++ (wX5 T a7 S7 ++ (wX5 T a8 S8 ++ wX3 T a9 S9))))))))) (([] : va_W)) (fun z => if z.1 = 5 then a5 99 else if z.1 = 6 then a6 99 else if z.1 = 7 then a7 99 else a8 99) (fun z => wX6 a0 a1 a2 a3 a4 a5 a6 a7 a8 a9 ++ (wX4 T a1 S1 ++ (wX1 T a2 S2 ++ (wX1 T a3 S3 ++ (wX0 T a4 z.2.1 ++ (wX5 T a5 z.2.2.1 ++ (wX5 T a6 z.2.2.2.1 ++ (wX5 T a7 z.2.2.2.2.1 ++ (wX5 T a8 z.2.2.2.2.2 ++ wX3 T a9 S9))))))))) (fun z => wX6 a0 a1 a2 a3 a4 a5 a6 a7 a8 a9 ++ (wX4 T a1 S1 ++ (wX1 T a2 S2 ++ (wX1 T a3 S3 ++ (wX0 T a4 z.2.1 ++ (wX5 T a5 z.2.2.1 ++ (wX5 T a6 z.2.2.2.1 ++ (wX5 T a7 z.2.2.2.2.1 ++ (wX5 T a8 z.2.2.2.2.2 ++ wX3 T a9 S9))))))))) (fun z h => c_X6_treeOf l D T a0 a1 a2 a3 a4 a5 a6 a7 a8 a9  S1 S2 S3 S4 S5 S6 S7 S8 S9 v1 z h) ⟨rfl, rfl⟩ (z_cwV C 1 gX6_step_X6_treeOf rfl rfl dd_X6_treeOf ⟨(Nat.le_of_ble_eq_true rfl), (Nat.le_of_ble_eq_true rfl)⟩) (hD.zaddr rfl) [0, 1, 2, 3, 4, 5, 6, 7, 8, 9, 10, 11, 12, 13, 14, 15, 16, 17, 18, 19, 20, 21, 22, 23, 24, 25, 26, 27, 28, 29, 30, 31, 32, 33] [] [0, 1, 2, 3, 4, 5, 6, 7, 8, 9, 10, 11, 12, 13, 14, 15, 16, 17, 18, 19, 20, 21, 22, 23, 24, 25, 26, 27, 28, 29, 30, 31, 32, 33] rfl rfl rfl (by decide) (fun _ => rfl) (fun _ => ⟨a0 99, [.int v1], 5, 0, _, _, rfl, rfl, rfl, rfl, rfl⟩) (fun h => absurd rfl h) rfl (Nat.le_of_ble_eq_true rfl) dX6_step_23 26 rfl h (fun r_3 h => ?_)
      refine z_tag (t := r_3.1) 5 (fun t => if t = 5 then a5 99 else if t = 6 then a6 99 else if t = 7 then a7 99 else a8 99) rfl h (fun h => ?_) (fun hx_0 h => ?_)
      · refine z_astore C [(0, .ref (a0 99)), (1, .int v1), (2, .int v2), (3, .int v3), (4, .ref (a5 99))] dX6_step_26 (Nat.le_of_ble_eq_true rfl) [1, 2, 3, 4, 0] rfl 28 rfl ?_
        refine z_aload C dX6_step_28 4 rfl 30 rfl ?_
        refine z_get C (in_X6_step_X5) 20 rfl rfl 1 (by decide) (List.mem_of_getElem? (i := 2) rfl) rfl rfl dX6_step_30 33 rfl ?_
        refine z_if_eq C 50 dX6_step_33 (by decide) 36 rfl h (fun h => ?_) (fun h => ?_)
        · refine z_bipush C (-2) dX6_step_50 (by decide) 52 rfl ?_
          exact z_iretW (x := (r_3.2.1, r_3.2.2.1, r_3.2.2.2.1, r_3.2.2.2.2.1, r_3.2.2.2.2.2)) (ex := ex) (fun z => wX6 a0 a1 a2 a3 a4 a5 a6 a7 a8 a9 ++ (wX4 T a1 S1 ++ (wX1 T a2 S2 ++ (wX1 T a3 S3 ++ (wX0 T a4 z.1 ++ (wX5 T a5 z.2.1 ++ (wX5 T a6 z.2.2.1 ++ (wX5 T a7 z.2.2.2.1 ++ (wX5 T a8 z.2.2.2.2 ++ wX3 T a9 S9))))))))) C hr dX6_step_52 h rfl
        · refine z_aload C dX6_step_36 4 rfl 38 rfl ?_
          refine z_get C (in_X6_step_X5) 20 rfl rfl 4 (by decide) (List.mem_of_getElem? (i := 3) rfl) rfl rfl dX6_step_38 41 rfl ?_
          refine z_iload_n C dX6_step_41 rfl 2 rfl 42 rfl ?_
          refine z_iload_n C dX6_step_42 rfl 3 rfl 43 rfl ?_
          refine z_callR C ([]) (fun v h => c_X6_cellOf l D T    v2 v3 v h) ⟨rfl, rfl⟩ (z_cwS C 2 gX6_step_X6_cellOf rfl dd_X6_cellOf ⟨(Nat.le_of_ble_eq_true rfl), (Nat.le_of_ble_eq_true rfl)⟩) (hD.zaddr rfl) [] rfl rfl (fun h => absurd h (by decide)) (fun _ => rfl) rfl (Nat.le_of_ble_eq_true rfl) dX6_step_43 46 rfl h (fun r_4 h => ?_)
          refine z_iald C 22 rfl rfl dX6_step_46 47 rfl h (fun h => ?_)
          refine z_goto C 52 dX6_step_47 (by decide) ?_
          exact z_iretW (x := (r_3.2.1, r_3.2.2.1, r_3.2.2.2.1, r_3.2.2.2.2.1, r_3.2.2.2.2.2)) (ex := ex) (fun z => wX6 a0 a1 a2 a3 a4 a5 a6 a7 a8 a9 ++ (wX4 T a1 S1 ++ (wX1 T a2 S2 ++ (wX1 T a3 S3 ++ (wX0 T a4 z.1 ++ (wX5 T a5 z.2.1 ++ (wX5 T a6 z.2.2.1 ++ (wX5 T a7 z.2.2.2.1 ++ (wX5 T a8 z.2.2.2.2 ++ wX3 T a9 S9))))))))) C hr dX6_step_52 h rfl
      · refine z_tag (t := r_3.1) 6 (fun t => if t = 5 then a5 99 else if t = 6 then a6 99 else if t = 7 then a7 99 else a8 99) rfl h (fun h => ?_) (fun hx_1 h => ?_)
        · refine z_astore C [(0, .ref (a0 99)), (1, .int v1), (2, .int v2), (3, .int v3), (4, .ref (a6 99))] dX6_step_26 (Nat.le_of_ble_eq_true rfl) [1, 2, 3, 4, 0] rfl 28 rfl ?_
          refine z_aload C dX6_step_28 4 rfl 30 rfl ?_
          refine z_get C (in_X6_step_X5) 23 rfl rfl 1 (by decide) (List.mem_of_getElem? (i := 2) rfl) rfl rfl dX6_step_30 33 rfl ?_
          refine z_if_eq C 50 dX6_step_33 (by decide) 36 rfl h (fun h => ?_) (fun h => ?_)
          · refine z_bipush C (-2) dX6_step_50 (by decide) 52 rfl ?_
            exact z_iretW (x := (r_3.2.1, r_3.2.2.1, r_3.2.2.2.1, r_3.2.2.2.2.1, r_3.2.2.2.2.2)) (ex := ex) (fun z => wX6 a0 a1 a2 a3 a4 a5 a6 a7 a8 a9 ++ (wX4 T a1 S1 ++ (wX1 T a2 S2 ++ (wX1 T a3 S3 ++ (wX0 T a4 z.1 ++ (wX5 T a5 z.2.1 ++ (wX5 T a6 z.2.2.1 ++ (wX5 T a7 z.2.2.2.1 ++ (wX5 T a8 z.2.2.2.2 ++ wX3 T a9 S9))))))))) C hr dX6_step_52 h rfl
          · refine z_aload C dX6_step_36 4 rfl 38 rfl ?_
            refine z_get C (in_X6_step_X5) 23 rfl rfl 4 (by decide) (List.mem_of_getElem? (i := 3) rfl) rfl rfl dX6_step_38 41 rfl ?_
            refine z_iload_n C dX6_step_41 rfl 2 rfl 42 rfl ?_
            refine z_iload_n C dX6_step_42 rfl 3 rfl 43 rfl ?_
            refine z_callR C ([]) (fun v h => c_X6_cellOf l D T    v2 v3 v h) ⟨rfl, rfl⟩ (z_cwS C 2 gX6_step_X6_cellOf rfl dd_X6_cellOf ⟨(Nat.le_of_ble_eq_true rfl), (Nat.le_of_ble_eq_true rfl)⟩) (hD.zaddr rfl) [] rfl rfl (fun h => absurd h (by decide)) (fun _ => rfl) rfl (Nat.le_of_ble_eq_true rfl) dX6_step_43 46 rfl h (fun r_5 h => ?_)
            refine z_iald C 25 rfl rfl dX6_step_46 47 rfl h (fun h => ?_)
            refine z_goto C 52 dX6_step_47 (by decide) ?_
            exact z_iretW (x := (r_3.2.1, r_3.2.2.1, r_3.2.2.2.1, r_3.2.2.2.2.1, r_3.2.2.2.2.2)) (ex := ex) (fun z => wX6 a0 a1 a2 a3 a4 a5 a6 a7 a8 a9 ++ (wX4 T a1 S1 ++ (wX1 T a2 S2 ++ (wX1 T a3 S3 ++ (wX0 T a4 z.1 ++ (wX5 T a5 z.2.1 ++ (wX5 T a6 z.2.2.1 ++ (wX5 T a7 z.2.2.2.1 ++ (wX5 T a8 z.2.2.2.2 ++ wX3 T a9 S9))))))))) C hr dX6_step_52 h rfl
        · refine z_tag (t := r_3.1) 7 (fun t => if t = 5 then a5 99 else if t = 6 then a6 99 else if t = 7 then a7 99 else a8 99) rfl h (fun h => ?_) (fun hx_2 h => ?_)
          · refine z_astore C [(0, .ref (a0 99)), (1, .int v1), (2, .int v2), (3, .int v3), (4, .ref (a7 99))] dX6_step_26 (Nat.le_of_ble_eq_true rfl) [1, 2, 3, 4, 0] rfl 28 rfl ?_
            refine z_aload C dX6_step_28 4 rfl 30 rfl ?_
            refine z_get C (in_X6_step_X5) 26 rfl rfl 1 (by decide) (List.mem_of_getElem? (i := 2) rfl) rfl rfl dX6_step_30 33 rfl ?_
            refine z_if_eq C 50 dX6_step_33 (by decide) 36 rfl h (fun h => ?_) (fun h => ?_)
            · refine z_bipush C (-2) dX6_step_50 (by decide) 52 rfl ?_
              exact z_iretW (x := (r_3.2.1, r_3.2.2.1, r_3.2.2.2.1, r_3.2.2.2.2.1, r_3.2.2.2.2.2)) (ex := ex) (fun z => wX6 a0 a1 a2 a3 a4 a5 a6 a7 a8 a9 ++ (wX4 T a1 S1 ++ (wX1 T a2 S2 ++ (wX1 T a3 S3 ++ (wX0 T a4 z.1 ++ (wX5 T a5 z.2.1 ++ (wX5 T a6 z.2.2.1 ++ (wX5 T a7 z.2.2.2.1 ++ (wX5 T a8 z.2.2.2.2 ++ wX3 T a9 S9))))))))) C hr dX6_step_52 h rfl
            · refine z_aload C dX6_step_36 4 rfl 38 rfl ?_
              refine z_get C (in_X6_step_X5) 26 rfl rfl 4 (by decide) (List.mem_of_getElem? (i := 3) rfl) rfl rfl dX6_step_38 41 rfl ?_
              refine z_iload_n C dX6_step_41 rfl 2 rfl 42 rfl ?_
              refine z_iload_n C dX6_step_42 rfl 3 rfl 43 rfl ?_
              refine z_callR C ([]) (fun v h => c_X6_cellOf l D T    v2 v3 v h) ⟨rfl, rfl⟩ (z_cwS C 2 gX6_step_X6_cellOf rfl dd_X6_cellOf ⟨(Nat.le_of_ble_eq_true rfl), (Nat.le_of_ble_eq_true rfl)⟩) (hD.zaddr rfl) [] rfl rfl (fun h => absurd h (by decide)) (fun _ => rfl) rfl (Nat.le_of_ble_eq_true rfl) dX6_step_43 46 rfl h (fun r_6 h => ?_)
              refine z_iald C 28 rfl rfl dX6_step_46 47 rfl h (fun h => ?_)
              refine z_goto C 52 dX6_step_47 (by decide) ?_
              exact z_iretW (x := (r_3.2.1, r_3.2.2.1, r_3.2.2.2.1, r_3.2.2.2.2.1, r_3.2.2.2.2.2)) (ex := ex) (fun z => wX6 a0 a1 a2 a3 a4 a5 a6 a7 a8 a9 ++ (wX4 T a1 S1 ++ (wX1 T a2 S2 ++ (wX1 T a3 S3 ++ (wX0 T a4 z.1 ++ (wX5 T a5 z.2.1 ++ (wX5 T a6 z.2.2.1 ++ (wX5 T a7 z.2.2.2.1 ++ (wX5 T a8 z.2.2.2.2 ++ wX3 T a9 S9))))))))) C hr dX6_step_52 h rfl
          · refine z_ref (b := a8 99) (by show (if _ = _ then _ else _) = _; rw [if_neg hx_0, if_neg hx_1, if_neg hx_2]) ?_
            refine z_astore C [(0, .ref (a0 99)), (1, .int v1), (2, .int v2), (3, .int v3), (4, .ref (a8 99))] dX6_step_26 (Nat.le_of_ble_eq_true rfl) [1, 2, 3, 4, 0] rfl 28 rfl ?_
            refine z_aload C dX6_step_28 4 rfl 30 rfl ?_
            refine z_get C (in_X6_step_X5) 29 rfl rfl 1 (by decide) (List.mem_of_getElem? (i := 2) rfl) rfl rfl dX6_step_30 33 rfl ?_
            refine z_if_eq C 50 dX6_step_33 (by decide) 36 rfl h (fun h => ?_) (fun h => ?_)
            · refine z_bipush C (-2) dX6_step_50 (by decide) 52 rfl ?_
              exact z_iretW (x := (r_3.2.1, r_3.2.2.1, r_3.2.2.2.1, r_3.2.2.2.2.1, r_3.2.2.2.2.2)) (ex := ex) (fun z => wX6 a0 a1 a2 a3 a4 a5 a6 a7 a8 a9 ++ (wX4 T a1 S1 ++ (wX1 T a2 S2 ++ (wX1 T a3 S3 ++ (wX0 T a4 z.1 ++ (wX5 T a5 z.2.1 ++ (wX5 T a6 z.2.2.1 ++ (wX5 T a7 z.2.2.2.1 ++ (wX5 T a8 z.2.2.2.2 ++ wX3 T a9 S9))))))))) C hr dX6_step_52 h rfl
            · refine z_aload C dX6_step_36 4 rfl 38 rfl ?_
              refine z_get C (in_X6_step_X5) 29 rfl rfl 4 (by decide) (List.mem_of_getElem? (i := 3) rfl) rfl rfl dX6_step_38 41 rfl ?_
              refine z_iload_n C dX6_step_41 rfl 2 rfl 42 rfl ?_
              refine z_iload_n C dX6_step_42 rfl 3 rfl 43 rfl ?_
              refine z_callR C ([]) (fun v h => c_X6_cellOf l D T    v2 v3 v h) ⟨rfl, rfl⟩ (z_cwS C 2 gX6_step_X6_cellOf rfl dd_X6_cellOf ⟨(Nat.le_of_ble_eq_true rfl), (Nat.le_of_ble_eq_true rfl)⟩) (hD.zaddr rfl) [] rfl rfl (fun h => absurd h (by decide)) (fun _ => rfl) rfl (Nat.le_of_ble_eq_true rfl) dX6_step_43 46 rfl h (fun r_7 h => ?_)
              refine z_iald C 31 rfl rfl dX6_step_46 47 rfl h (fun h => ?_)
              refine z_goto C 52 dX6_step_47 (by decide) ?_
              exact z_iretW (x := (r_3.2.1, r_3.2.2.1, r_3.2.2.2.1, r_3.2.2.2.2.1, r_3.2.2.2.2.2)) (ex := ex) (fun z => wX6 a0 a1 a2 a3 a4 a5 a6 a7 a8 a9 ++ (wX4 T a1 S1 ++ (wX1 T a2 S2 ++ (wX1 T a3 S3 ++ (wX0 T a4 z.1 ++ (wX5 T a5 z.2.1 ++ (wX5 T a6 z.2.2.1 ++ (wX5 T a7 z.2.2.2.1 ++ (wX5 T a8 z.2.2.2.2 ++ wX3 T a9 S9))))))))) C hr dX6_step_52 h rfl
    · refine z_iconst C (-1) dX6_step_19 (by decide) 20 rfl ?_
      exact z_iretW (x := (S4, S5, S6, S7, S8)) (ex := ex) (fun z => wX6 a0 a1 a2 a3 a4 a5 a6 a7 a8 a9 ++ (wX4 T a1 S1 ++ (wX1 T a2 S2 ++ (wX1 T a3 S3 ++ (wX0 T a4 z.1 ++ (wX5 T a5 z.2.1 ++ (wX5 T a6 z.2.2.1 ++ (wX5 T a7 z.2.2.2.1 ++ (wX5 T a8 z.2.2.2.2 ++ wX3 T a9 S9))))))))) C hr dX6_step_20 h rfl

end
/-! StreamTree.join (III)I -/
section
variable {p : Program} {l : Launch} {e : Env} {R : Room} {s : State} {m : MethodId} {args : Array Value} {below : List Frame} {meth : Method} {c : Code} {Q : State → Prop} {A : Nat → Prop} {D : va_G} {T : Nat → ClassId} {a0 : Nat → Nat} {a1 : Nat → Nat} {a2 : Nat → Nat} {a3 : Nat → Nat} {a4 : Nat → Nat} {a5 : Nat → Nat} {a6 : Nat → Nat} {a7 : Nat → Nat} {a8 : Nat → Nat} {a9 : Nat → Nat}
theorem in_X6_join_X6 : ∀ w ∈ u_ws RX6 TX6 9, w ∈ wsX6_join := fun _ h => (List.mem_cons_of_mem _ (List.mem_append_left _ (List.mem_append_left _ (List.mem_append_right _ h))))
theorem in_X6_join_X5 : ∀ w ∈ u_ws RX5 TX5 5, w ∈ wsX6_join := fun _ h => (List.mem_cons_of_mem _ (List.mem_append_left _ (List.mem_append_left _ (List.mem_append_left _ (List.mem_append_right _ h)))))
def f_X6_join (S1 : Nat → Nat → Int32) (S2 : Nat → Nat → Int32) (S3 : Nat → Nat → Int32) (S4 : Nat → Nat → Int32) (S5 : Nat → Nat → Int32) (S6 : Nat → Nat → Int32) (S7 : Nat → Nat → Int32) (S8 : Nat → Nat → Int32) (S9 : Nat → Nat → Int32) (v1 : Int32) (v2 : Int32) (v3 : Int32) : Option (Int32 × (Nat → Nat → Int32) × (Nat → Nat → Int32) × (Nat → Nat → Int32) × (Nat → Nat → Int32) × (Nat → Nat → Int32)) := (f_X6_isTreeManner v1).bind fun r_1 => if r_1 = 0 then (some ((-1), S4, S5, S6, S7, S8)) else (if v2 < (-1) then (some ((-1), S4, S5, S6, S7, S8)) else ((f_X6_isWithin v3 0 2).bind fun r_2 => if r_2 = 0 then (some ((-1), S4, S5, S6, S7, S8)) else ((f_X6_treeOf S1 S2 S3 S4 S5 S6 S7 S8 S9 v1).bind fun r_3 => if r_3.1 = 5 then (if (r_3.2.2.1 1 0) = 0 then (some ((-2), r_3.2.1, r_3.2.2.1, r_3.2.2.2.1, r_3.2.2.2.2.1, r_3.2.2.2.2.2)) else (if v2 = (-1) then ((f_X5_joins r_3.2.2.1 S2).bind fun r_5 => some (r_5, r_3.2.1, r_3.2.2.1, r_3.2.2.2.1, r_3.2.2.2.2.1, r_3.2.2.2.2.2)) else ((f_X5_tellJoin r_3.2.2.1 S2 v2 v3).bind fun r_4 => some (r_4, r_3.2.1, r_3.2.2.1, r_3.2.2.2.1, r_3.2.2.2.2.1, r_3.2.2.2.2.2)))) else (if r_3.1 = 6 then (if (r_3.2.2.2.1 1 0) = 0 then (some ((-2), r_3.2.1, r_3.2.2.1, r_3.2.2.2.1, r_3.2.2.2.2.1, r_3.2.2.2.2.2)) else (if v2 = (-1) then ((f_X5_joins r_3.2.2.2.1 S2).bind fun r_7 => some (r_7, r_3.2.1, r_3.2.2.1, r_3.2.2.2.1, r_3.2.2.2.2.1, r_3.2.2.2.2.2)) else ((f_X5_tellJoin r_3.2.2.2.1 S2 v2 v3).bind fun r_6 => some (r_6, r_3.2.1, r_3.2.2.1, r_3.2.2.2.1, r_3.2.2.2.2.1, r_3.2.2.2.2.2)))) else (if r_3.1 = 7 then (if (r_3.2.2.2.2.1 1 0) = 0 then (some ((-2), r_3.2.1, r_3.2.2.1, r_3.2.2.2.1, r_3.2.2.2.2.1, r_3.2.2.2.2.2)) else (if v2 = (-1) then ((f_X5_joins r_3.2.2.2.2.1 S2).bind fun r_9 => some (r_9, r_3.2.1, r_3.2.2.1, r_3.2.2.2.1, r_3.2.2.2.2.1, r_3.2.2.2.2.2)) else ((f_X5_tellJoin r_3.2.2.2.2.1 S2 v2 v3).bind fun r_8 => some (r_8, r_3.2.1, r_3.2.2.1, r_3.2.2.2.1, r_3.2.2.2.2.1, r_3.2.2.2.2.2)))) else (if (r_3.2.2.2.2.2 1 0) = 0 then (some ((-2), r_3.2.1, r_3.2.2.1, r_3.2.2.2.1, r_3.2.2.2.2.1, r_3.2.2.2.2.2)) else (if v2 = (-1) then ((f_X5_joins r_3.2.2.2.2.2 S2).bind fun r_11 => some (r_11, r_3.2.1, r_3.2.2.1, r_3.2.2.2.1, r_3.2.2.2.2.1, r_3.2.2.2.2.2)) else ((f_X5_tellJoin r_3.2.2.2.2.2 S2 v2 v3).bind fun r_10 => some (r_10, r_3.2.1, r_3.2.2.1, r_3.2.2.2.1, r_3.2.2.2.2.1, r_3.2.2.2.2.2)))))))))
theorem dd_X6_join : RX6 ≠ "java/lang/invoke/MethodHandle" ∧ RX6 ≠ "java/lang/invoke/VarHandle" ∧ (parseMethodDescriptor yX6_join.desc).map (fun d => d.parameters.length) = some 3 := by decide +kernel
set_option maxHeartbeats 4000000 in
set_option maxRecDepth 100000 in
theorem c_X6_join (l : Launch) (D : va_G) (T : Nat → ClassId) (a0 : Nat → Nat) (a1 : Nat → Nat) (a2 : Nat → Nat) (a3 : Nat → Nat) (a4 : Nat → Nat) (a5 : Nat → Nat) (a6 : Nat → Nat) (a7 : Nat → Nat) (a8 : Nat → Nat) (a9 : Nat → Nat) (S1 : Nat → Nat → Int32) (S2 : Nat → Nat → Int32) (S3 : Nat → Nat → Int32) (S4 : Nat → Nat → Int32) (S5 : Nat → Nat → Int32) (S6 : Nat → Nat → Int32) (S7 : Nat → Nat → Int32) (S8 : Nat → Nat → Int32) (S9 : Nat → Nat → Int32) (v1 : Int32) (v2 : Int32) (v3 : Int32) (ex : Int32 × (Nat → Nat → Int32) × (Nat → Nat → Int32) × (Nat → Nat → Int32) × (Nat → Nat → Int32) × (Nat → Nat → Int32)) (h : f_X6_join S1 S2 S3 S4 S5 S6 S7 S8 S9 v1 v2 v3 = some ex) : zWI l yX6_join wsX6_join ({ frames := 6, cells := 0, slots := 0, locals := 150 } : Room) D T [.ref (a0 99), .int v1, .int v2, .int v3] (wX6 a0 a1 a2 a3 a4 a5 a6 a7 a8 a9 ++ (wX4 T a1 S1 ++ (wX1 T a2 S2 ++ (wX1 T a3 S3 ++ (wX0 T a4 S4 ++ (wX5 T a5 S5 ++ (wX5 T a6 S6 ++ (wX5 T a7 S7 ++ (wX5 T a8 S8 ++ wX3 T a9 S9))))))))) ex.1 (wX6 a0 a1 a2 a3 a4 a5 a6 a7 a8 a9 ++ (wX4 T a1 S1 ++ (wX1 T a2 S2 ++ (wX1 T a3 S3 ++ (wX0 T a4 ex.2.1 ++ (wX5 T a5 ex.2.2.1 ++ (wX5 T a6 ex.2.2.2.1 ++ (wX5 T a7 ex.2.2.2.2.1 ++ (wX5 T a8 ex.2.2.2.2.2 ++ wX3 T a9 S9))))))))) := by
  refine z_begin (cc := cX6_join) (nL := 5) (own := RX6) (fr := 6) (lc := 150) (ret := some .int) (by decide) rfl (Nat.le_of_ble_eq_true rfl) (zA (wX6 a0 a1 a2 a3 a4 a5 a6 a7 a8 a9 ++ (wX4 T a1 S1 ++ (wX1 T a2 S2 ++ (wX1 T a3 S3 ++ (wX0 T a4 S4 ++ (wX5 T a5 S5 ++ (wX5 T a6 S6 ++ (wX5 T a7 S7 ++ (wX5 T a8 S8 ++ wX3 T a9 S9)))))))))) rfl [(0, .ref (a0 99)), (1, .int v1), (2, .int v2), (3, .int v3)] rfl ⟨rfl, rfl⟩ rfl ?_
  intro p e s m args below meth c C hr hD
  have hD := hD.zself
  unfold f_X6_join at h
  refine z_iload_n C dX6_join_0 rfl 1 rfl 1 rfl ?_
  refine z_callR C ([]) (fun v h => c_X6_isTreeManner l D T    v1 v h) ⟨rfl, rfl⟩ (z_cwS C 1 gX6_join_X6_isTreeManner rfl dd_X6_isTreeManner ⟨(Nat.le_of_ble_eq_true rfl), (Nat.le_of_ble_eq_true rfl)⟩) (hD.zaddr rfl) [] rfl rfl (fun h => absurd h (by decide)) (fun _ => rfl) rfl (Nat.le_of_ble_eq_true rfl) dX6_join_1 4 rfl h (fun r_1 h => ?_)
  refine z_if_eq C 21 dX6_join_4 (by decide) 7 rfl h (fun h => ?_) (fun h => ?_)
  · refine z_iconst C (-1) dX6_join_21 (by decide) 22 rfl ?_
    exact z_iretW (x := (S4, S5, S6, S7, S8)) (ex := ex) (fun z => wX6 a0 a1 a2 a3 a4 a5 a6 a7 a8 a9 ++ (wX4 T a1 S1 ++ (wX1 T a2 S2 ++ (wX1 T a3 S3 ++ (wX0 T a4 z.1 ++ (wX5 T a5 z.2.1 ++ (wX5 T a6 z.2.2.1 ++ (wX5 T a7 z.2.2.2.1 ++ (wX5 T a8 z.2.2.2.2 ++ wX3 T a9 S9))))))))) C hr dX6_join_22 h rfl
  · refine z_iload_n C dX6_join_7 rfl 2 rfl 8 rfl ?_
    refine z_iconst C (-1) dX6_join_8 (by decide) 9 rfl ?_
    refine z_icmp_lt C 21 dX6_join_9 (by decide) 12 rfl h (fun h => ?_) (fun h => ?_)
    · refine z_iconst C (-1) dX6_join_21 (by decide) 22 rfl ?_
      exact z_iretW (x := (S4, S5, S6, S7, S8)) (ex := ex) (fun z => wX6 a0 a1 a2 a3 a4 a5 a6 a7 a8 a9 ++ (wX4 T a1 S1 ++ (wX1 T a2 S2 ++ (wX1 T a3 S3 ++ (wX0 T a4 z.1 ++ (wX5 T a5 z.2.1 ++ (wX5 T a6 z.2.2.1 ++ (wX5 T a7 z.2.2.2.1 ++ (wX5 T a8 z.2.2.2.2 ++ wX3 T a9 S9))))))))) C hr dX6_join_22 h rfl
    · refine z_iload_n C dX6_join_12 rfl 3 rfl 13 rfl ?_
      refine z_iconst C 0 dX6_join_13 (by decide) 14 rfl ?_
      refine z_iconst C 2 dX6_join_14 (by decide) 15 rfl ?_
      refine z_callR C ([]) (fun v h => c_X6_isWithin l D T    v3 0 2 v h) ⟨rfl, rfl⟩ (z_cwS C 3 gX6_join_X6_isWithin rfl dd_X6_isWithin ⟨(Nat.le_of_ble_eq_true rfl), (Nat.le_of_ble_eq_true rfl)⟩) (hD.zaddr rfl) [] rfl rfl (fun h => absurd h (by decide)) (fun _ => rfl) rfl (Nat.le_of_ble_eq_true rfl) dX6_join_15 18 rfl h (fun r_2 h => ?_)
      refine z_if_ne C 23 dX6_join_18 (by decide) 21 rfl h (fun h => ?_) (fun h => ?_)
      · refine z_aload_n C dX6_join_23 rfl 0 rfl 24 rfl ?_
        refine z_iload_n C dX6_join_24 rfl 1 rfl 25 rfl ?_
        refine z_callA C (wX6 a0 a1 a2 a3 a4 a5 a6 a7 a8 a9 ++ (wX4 T a1 S1 ++ (wX1 T a2 S2 ++ (wX1 T a3 S3 ++ (wX0 T a4 S4 ++ (wX5 T a5 S5 ++ (wX5 T a6 S6 ++ (wX5 T a7 S7 ++ (wX5 T a8 S8 ++ wX3 T a9 S9))))))))) (([] : va_W)) (fun z => if z.1 = 5 then a5 99 else if z.1 = 6 then a6 99 else if z.1 = 7 then a7 99 else a8 99) (fun z => wX6 a0 a1 a2 a3 a4 a5 a6 a7 a8 a9 ++ (wX4 T a1 S1 ++ (wX1 T a2 S2 ++ (wX1 T a3 S3 ++ (wX0 T a4 z.2.1 ++ (wX5 T a5 z.2.2.1 ++ (wX5 T a6 z.2.2.2.1 ++ (wX5 T a7 z.2.2.2.2.1 ++ (wX5 T a8 z.2.2.2.2.2 ++ wX3 T a9 S9))))))))) (fun z => wX6 a0 a1 a2 a3 a4 a5 a6 a7 a8 a9 ++ (wX4 T a1 S1 ++ (wX1 T a2 S2 ++ (wX1 T a3 S3 ++ (wX0 T a4 z.2.1 ++ (wX5 T a5 z.2.2.1 ++ (wX5 T a6 z.2.2.2.1 ++ (wX5 T a7 z.2.2.2.2.1 ++ (wX5 T a8 z.2.2.2.2.2 ++ wX3 T a9 S9))))))))) (fun z h => c_X6_treeOf l D T a0 a1 a2 a3 a4 a5 a6 a7 a8 a9  S1 S2 S3 S4 S5 S6 S7 S8 S9 v1 z h) ⟨rfl, rfl⟩ (z_cwV C 1 gX6_join_X6_treeOf rfl rfl dd_X6_treeOf ⟨(Nat.le_of_ble_eq_true rfl), (Nat.le_of_ble_eq_true rfl)⟩) (hD.zaddr rfl) [0, 1, 2, 3, 4, 5, 6, 7, 8, 9, 10, 11, 12, 13, 14, 15, 16, 17, 18, 19, 20, 21, 22, 23, 24, 25, 26, 27, 28, 29, 30, 31, 32, 33] [] [0, 1, 2, 3, 4, 5, 6, 7, 8, 9, 10, 11, 12, 13, 14, 15, 16, 17, 18, 19, 20, 21, 22, 23, 24, 25, 26, 27, 28, 29, 30, 31, 32, 33] rfl rfl rfl (by decide) (fun _ => rfl) (fun _ => ⟨a0 99, [.int v1], 5, 0, _, _, rfl, rfl, rfl, rfl, rfl⟩) (fun h => absurd rfl h) rfl (Nat.le_of_ble_eq_true rfl) dX6_join_25 28 rfl h (fun r_3 h => ?_)
        refine z_tag (t := r_3.1) 5 (fun t => if t = 5 then a5 99 else if t = 6 then a6 99 else if t = 7 then a7 99 else a8 99) rfl h (fun h => ?_) (fun hx_0 h => ?_)
        · refine z_astore C [(0, .ref (a0 99)), (1, .int v1), (2, .int v2), (3, .int v3), (4, .ref (a5 99))] dX6_join_28 (Nat.le_of_ble_eq_true rfl) [1, 2, 3, 4, 0] rfl 30 rfl ?_
          refine z_aload C dX6_join_30 4 rfl 32 rfl ?_
          refine z_get C (in_X6_join_X5) 20 rfl rfl 1 (by decide) (List.mem_of_getElem? (i := 1) rfl) rfl rfl dX6_join_32 35 rfl ?_
          refine z_if_ne C 41 dX6_join_35 (by decide) 38 rfl h (fun h => ?_) (fun h => ?_)
          · refine z_iload_n C dX6_join_41 rfl 2 rfl 42 rfl ?_
            refine z_iconst C (-1) dX6_join_42 (by decide) 43 rfl ?_
            refine z_icmp_ne C 58 dX6_join_43 (by decide) 46 rfl h (fun h => ?_) (fun h => ?_)
            · refine z_aload C dX6_join_58 4 rfl 60 rfl ?_
              refine z_aload_n C dX6_join_60 rfl 0 rfl 61 rfl ?_
              refine z_get C (in_X6_join_X6) 0 rfl rfl 1 (by decide) (List.mem_of_getElem? (i := 2) rfl) rfl rfl dX6_join_61 64 rfl ?_
              refine z_iload_n C dX6_join_64 rfl 2 rfl 65 rfl ?_
              refine z_iload_n C dX6_join_65 rfl 3 rfl 66 rfl ?_
              refine z_callR C (wX5 T a5 r_3.2.2.1 ++ wX1 T a2 S2) (fun v h => c_X5_tellJoin l D T a5 a2  r_3.2.2.1 S2 v2 v3 v h) ⟨rfl, rfl⟩ (z_cwV C 3 gX6_join_X5_tellJoin rfl rfl dd_X5_tellJoin ⟨(Nat.le_of_ble_eq_true rfl), (Nat.le_of_ble_eq_true rfl)⟩) (hD.zaddr rfl) [20, 21, 22, 3, 4, 5, 6, 7] rfl rfl (fun _ => ⟨a5 99, [.ref (a2 99), .int v2, .int v3], 4, 0, _, _, rfl, rfl, rfl, rfl, rfl⟩) (fun h => absurd rfl h) rfl (Nat.le_of_ble_eq_true rfl) dX6_join_66 69 rfl h (fun r_4 h => ?_)
              exact z_iretW (x := (r_3.2.1, r_3.2.2.1, r_3.2.2.2.1, r_3.2.2.2.2.1, r_3.2.2.2.2.2)) (ex := ex) (fun z => wX6 a0 a1 a2 a3 a4 a5 a6 a7 a8 a9 ++ (wX4 T a1 S1 ++ (wX1 T a2 S2 ++ (wX1 T a3 S3 ++ (wX0 T a4 z.1 ++ (wX5 T a5 z.2.1 ++ (wX5 T a6 z.2.2.1 ++ (wX5 T a7 z.2.2.2.1 ++ (wX5 T a8 z.2.2.2.2 ++ wX3 T a9 S9))))))))) C hr dX6_join_69 h rfl
            · refine z_aload C dX6_join_46 4 rfl 48 rfl ?_
              refine z_aload_n C dX6_join_48 rfl 0 rfl 49 rfl ?_
              refine z_get C (in_X6_join_X6) 0 rfl rfl 1 (by decide) (List.mem_of_getElem? (i := 2) rfl) rfl rfl dX6_join_49 52 rfl ?_
              refine z_callR C (wX5 T a5 r_3.2.2.1 ++ wX1 T a2 S2) (fun v h => c_X5_joins l D T a5 a2  r_3.2.2.1 S2  v h) ⟨rfl, rfl⟩ (z_cwV C 1 gX6_join_X5_joins rfl rfl dd_X5_joins ⟨(Nat.le_of_ble_eq_true rfl), (Nat.le_of_ble_eq_true rfl)⟩) (hD.zaddr rfl) [20, 21, 22, 3, 4, 5, 6, 7] rfl rfl (fun _ => ⟨a5 99, [.ref (a2 99)], 4, 0, _, _, rfl, rfl, rfl, rfl, rfl⟩) (fun h => absurd rfl h) rfl (Nat.le_of_ble_eq_true rfl) dX6_join_52 55 rfl h (fun r_5 h => ?_)
              refine z_goto C 69 dX6_join_55 (by decide) ?_
              exact z_iretW (x := (r_3.2.1, r_3.2.2.1, r_3.2.2.2.1, r_3.2.2.2.2.1, r_3.2.2.2.2.2)) (ex := ex) (fun z => wX6 a0 a1 a2 a3 a4 a5 a6 a7 a8 a9 ++ (wX4 T a1 S1 ++ (wX1 T a2 S2 ++ (wX1 T a3 S3 ++ (wX0 T a4 z.1 ++ (wX5 T a5 z.2.1 ++ (wX5 T a6 z.2.2.1 ++ (wX5 T a7 z.2.2.2.1 ++ (wX5 T a8 z.2.2.2.2 ++ wX3 T a9 S9))))))))) C hr dX6_join_69 h rfl
          · refine z_bipush C (-2) dX6_join_38 (by decide) 40 rfl ?_
            exact z_iretW (x := (r_3.2.1, r_3.2.2.1, r_3.2.2.2.1, r_3.2.2.2.2.1, r_3.2.2.2.2.2)) (ex := ex) (fun z => wX6 a0 a1 a2 a3 a4 a5 a6 a7 a8 a9 ++ (wX4 T a1 S1 ++ (wX1 T a2 S2 ++ (wX1 T a3 S3 ++ (wX0 T a4 z.1 ++ (wX5 T a5 z.2.1 ++ (wX5 T a6 z.2.2.1 ++ (wX5 T a7 z.2.2.2.1 ++ (wX5 T a8 z.2.2.2.2 ++ wX3 T a9 S9))))))))) C hr dX6_join_40 h rfl
        · refine z_tag (t := r_3.1) 6 (fun t => if t = 5 then a5 99 else if t = 6 then a6 99 else if t = 7 then a7 99 else a8 99) rfl h (fun h => ?_) (fun hx_1 h => ?_)
          · refine z_astore C [(0, .ref (a0 99)), (1, .int v1), (2, .int v2), (3, .int v3), (4, .ref (a6 99))] dX6_join_28 (Nat.le_of_ble_eq_true rfl) [1, 2, 3, 4, 0] rfl 30 rfl ?_
            refine z_aload C dX6_join_30 4 rfl 32 rfl ?_
            refine z_get C (in_X6_join_X5) 23 rfl rfl 1 (by decide) (List.mem_of_getElem? (i := 1) rfl) rfl rfl dX6_join_32 35 rfl ?_
            refine z_if_ne C 41 dX6_join_35 (by decide) 38 rfl h (fun h => ?_) (fun h => ?_)
            · refine z_iload_n C dX6_join_41 rfl 2 rfl 42 rfl ?_
              refine z_iconst C (-1) dX6_join_42 (by decide) 43 rfl ?_
              refine z_icmp_ne C 58 dX6_join_43 (by decide) 46 rfl h (fun h => ?_) (fun h => ?_)
              · refine z_aload C dX6_join_58 4 rfl 60 rfl ?_
                refine z_aload_n C dX6_join_60 rfl 0 rfl 61 rfl ?_
                refine z_get C (in_X6_join_X6) 0 rfl rfl 1 (by decide) (List.mem_of_getElem? (i := 2) rfl) rfl rfl dX6_join_61 64 rfl ?_
                refine z_iload_n C dX6_join_64 rfl 2 rfl 65 rfl ?_
                refine z_iload_n C dX6_join_65 rfl 3 rfl 66 rfl ?_
                refine z_callR C (wX5 T a6 r_3.2.2.2.1 ++ wX1 T a2 S2) (fun v h => c_X5_tellJoin l D T a6 a2  r_3.2.2.2.1 S2 v2 v3 v h) ⟨rfl, rfl⟩ (z_cwV C 3 gX6_join_X5_tellJoin rfl rfl dd_X5_tellJoin ⟨(Nat.le_of_ble_eq_true rfl), (Nat.le_of_ble_eq_true rfl)⟩) (hD.zaddr rfl) [23, 24, 25, 3, 4, 5, 6, 7] rfl rfl (fun _ => ⟨a6 99, [.ref (a2 99), .int v2, .int v3], 4, 0, _, _, rfl, rfl, rfl, rfl, rfl⟩) (fun h => absurd rfl h) rfl (Nat.le_of_ble_eq_true rfl) dX6_join_66 69 rfl h (fun r_6 h => ?_)
                exact z_iretW (x := (r_3.2.1, r_3.2.2.1, r_3.2.2.2.1, r_3.2.2.2.2.1, r_3.2.2.2.2.2)) (ex := ex) (fun z => wX6 a0 a1 a2 a3 a4 a5 a6 a7 a8 a9 ++ (wX4 T a1 S1 ++ (wX1 T a2 S2 ++ (wX1 T a3 S3 ++ (wX0 T a4 z.1 ++ (wX5 T a5 z.2.1 ++ (wX5 T a6 z.2.2.1 ++ (wX5 T a7 z.2.2.2.1 ++ (wX5 T a8 z.2.2.2.2 ++ wX3 T a9 S9))))))))) C hr dX6_join_69 h rfl
              · refine z_aload C dX6_join_46 4 rfl 48 rfl ?_
                refine z_aload_n C dX6_join_48 rfl 0 rfl 49 rfl ?_
                refine z_get C (in_X6_join_X6) 0 rfl rfl 1 (by decide) (List.mem_of_getElem? (i := 2) rfl) rfl rfl dX6_join_49 52 rfl ?_
                refine z_callR C (wX5 T a6 r_3.2.2.2.1 ++ wX1 T a2 S2) (fun v h => c_X5_joins l D T a6 a2  r_3.2.2.2.1 S2  v h) ⟨rfl, rfl⟩ (z_cwV C 1 gX6_join_X5_joins rfl rfl dd_X5_joins ⟨(Nat.le_of_ble_eq_true rfl), (Nat.le_of_ble_eq_true rfl)⟩) (hD.zaddr rfl) [23, 24, 25, 3, 4, 5, 6, 7] rfl rfl (fun _ => ⟨a6 99, [.ref (a2 99)], 4, 0, _, _, rfl, rfl, rfl, rfl, rfl⟩) (fun h => absurd rfl h) rfl (Nat.le_of_ble_eq_true rfl) dX6_join_52 55 rfl h (fun r_7 h => ?_)
                refine z_goto C 69 dX6_join_55 (by decide) ?_
                exact z_iretW (x := (r_3.2.1, r_3.2.2.1, r_3.2.2.2.1, r_3.2.2.2.2.1, r_3.2.2.2.2.2)) (ex := ex) (fun z => wX6 a0 a1 a2 a3 a4 a5 a6 a7 a8 a9 ++ (wX4 T a1 S1 ++ (wX1 T a2 S2 ++ (wX1 T a3 S3 ++ (wX0 T a4 z.1 ++ (wX5 T a5 z.2.1 ++ (wX5 T a6 z.2.2.1 ++ (wX5 T a7 z.2.2.2.1 ++ (wX5 T a8 z.2.2.2.2 ++ wX3 T a9 S9))))))))) C hr dX6_join_69 h rfl
            · refine z_bipush C (-2) dX6_join_38 (by decide) 40 rfl ?_
              exact z_iretW (x := (r_3.2.1, r_3.2.2.1, r_3.2.2.2.1, r_3.2.2.2.2.1, r_3.2.2.2.2.2)) (ex := ex) (fun z => wX6 a0 a1 a2 a3 a4 a5 a6 a7 a8 a9 ++ (wX4 T a1 S1 ++ (wX1 T a2 S2 ++ (wX1 T a3 S3 ++ (wX0 T a4 z.1 ++ (wX5 T a5 z.2.1 ++ (wX5 T a6 z.2.2.1 ++ (wX5 T a7 z.2.2.2.1 ++ (wX5 T a8 z.2.2.2.2 ++ wX3 T a9 S9))))))))) C hr dX6_join_40 h rfl
          · refine z_tag (t := r_3.1) 7 (fun t => if t = 5 then a5 99 else if t = 6 then a6 99 else if t = 7 then a7 99 else a8 99) rfl h (fun h => ?_) (fun hx_2 h => ?_)
            · refine z_astore C [(0, .ref (a0 99)), (1, .int v1), (2, .int v2), (3, .int v3), (4, .ref (a7 99))] dX6_join_28 (Nat.le_of_ble_eq_true rfl) [1, 2, 3, 4, 0] rfl 30 rfl ?_
              refine z_aload C dX6_join_30 4 rfl 32 rfl ?_
              refine z_get C (in_X6_join_X5) 26 rfl rfl 1 (by decide) (List.mem_of_getElem? (i := 1) rfl) rfl rfl dX6_join_32 35 rfl ?_
              refine z_if_ne C 41 dX6_join_35 (by decide) 38 rfl h (fun h => ?_) (fun h => ?_)
              · refine z_iload_n C dX6_join_41 rfl 2 rfl 42 rfl ?_
                refine z_iconst C (-1) dX6_join_42 (by decide) 43 rfl ?_
                refine z_icmp_ne C 58 dX6_join_43 (by decide) 46 rfl h (fun h => ?_) (fun h => ?_)
                · refine z_aload C dX6_join_58 4 rfl 60 rfl ?_
                  refine z_aload_n C dX6_join_60 rfl 0 rfl 61 rfl ?_
                  refine z_get C (in_X6_join_X6) 0 rfl rfl 1 (by decide) (List.mem_of_getElem? (i := 2) rfl) rfl rfl dX6_join_61 64 rfl ?_
                  refine z_iload_n C dX6_join_64 rfl 2 rfl 65 rfl ?_
                  refine z_iload_n C dX6_join_65 rfl 3 rfl 66 rfl ?_
                  refine z_callR C (wX5 T a7 r_3.2.2.2.2.1 ++ wX1 T a2 S2) (fun v h => c_X5_tellJoin l D T a7 a2  r_3.2.2.2.2.1 S2 v2 v3 v h) ⟨rfl, rfl⟩ (z_cwV C 3 gX6_join_X5_tellJoin rfl rfl dd_X5_tellJoin ⟨(Nat.le_of_ble_eq_true rfl), (Nat.le_of_ble_eq_true rfl)⟩) (hD.zaddr rfl) [26, 27, 28, 3, 4, 5, 6, 7] rfl rfl (fun _ => ⟨a7 99, [.ref (a2 99), .int v2, .int v3], 4, 0, _, _, rfl, rfl, rfl, rfl, rfl⟩) (fun h => absurd rfl h) rfl (Nat.le_of_ble_eq_true rfl) dX6_join_66 69 rfl h (fun r_8 h => ?_)
                  exact z_iretW (x := (r_3.2.1, r_3.2.2.1, r_3.2.2.2.1, r_3.2.2.2.2.1, r_3.2.2.2.2.2)) (ex := ex) (fun z => wX6 a0 a1 a2 a3 a4 a5 a6 a7 a8 a9 ++ (wX4 T a1 S1 ++ (wX1 T a2 S2 ++ (wX1 T a3 S3 ++ (wX0 T a4 z.1 ++ (wX5 T a5 z.2.1 ++ (wX5 T a6 z.2.2.1 ++ (wX5 T a7 z.2.2.2.1 ++ (wX5 T a8 z.2.2.2.2 ++ wX3 T a9 S9))))))))) C hr dX6_join_69 h rfl
                · refine z_aload C dX6_join_46 4 rfl 48 rfl ?_
                  refine z_aload_n C dX6_join_48 rfl 0 rfl 49 rfl ?_
                  refine z_get C (in_X6_join_X6) 0 rfl rfl 1 (by decide) (List.mem_of_getElem? (i := 2) rfl) rfl rfl dX6_join_49 52 rfl ?_
                  refine z_callR C (wX5 T a7 r_3.2.2.2.2.1 ++ wX1 T a2 S2) (fun v h => c_X5_joins l D T a7 a2  r_3.2.2.2.2.1 S2  v h) ⟨rfl, rfl⟩ (z_cwV C 1 gX6_join_X5_joins rfl rfl dd_X5_joins ⟨(Nat.le_of_ble_eq_true rfl), (Nat.le_of_ble_eq_true rfl)⟩) (hD.zaddr rfl) [26, 27, 28, 3, 4, 5, 6, 7] rfl rfl (fun _ => ⟨a7 99, [.ref (a2 99)], 4, 0, _, _, rfl, rfl, rfl, rfl, rfl⟩) (fun h => absurd rfl h) rfl (Nat.le_of_ble_eq_true rfl) dX6_join_52 55 rfl h (fun r_9 h => ?_)
                  refine z_goto C 69 dX6_join_55 (by decide) ?_
                  exact z_iretW (x := (r_3.2.1, r_3.2.2.1, r_3.2.2.2.1, r_3.2.2.2.2.1, r_3.2.2.2.2.2)) (ex := ex) (fun z => wX6 a0 a1 a2 a3 a4 a5 a6 a7 a8 a9 ++ (wX4 T a1 S1 ++ (wX1 T a2 S2 ++ (wX1 T a3 S3 ++ (wX0 T a4 z.1 ++ (wX5 T a5 z.2.1 ++ (wX5 T a6 z.2.2.1 ++ (wX5 T a7 z.2.2.2.1 ++ (wX5 T a8 z.2.2.2.2 ++ wX3 T a9 S9))))))))) C hr dX6_join_69 h rfl
              · refine z_bipush C (-2) dX6_join_38 (by decide) 40 rfl ?_
                exact z_iretW (x := (r_3.2.1, r_3.2.2.1, r_3.2.2.2.1, r_3.2.2.2.2.1, r_3.2.2.2.2.2)) (ex := ex) (fun z => wX6 a0 a1 a2 a3 a4 a5 a6 a7 a8 a9 ++ (wX4 T a1 S1 ++ (wX1 T a2 S2 ++ (wX1 T a3 S3 ++ (wX0 T a4 z.1 ++ (wX5 T a5 z.2.1 ++ (wX5 T a6 z.2.2.1 ++ (wX5 T a7 z.2.2.2.1 ++ (wX5 T a8 z.2.2.2.2 ++ wX3 T a9 S9))))))))) C hr dX6_join_40 h rfl
            · refine z_ref (b := a8 99) (by show (if _ = _ then _ else _) = _; rw [if_neg hx_0, if_neg hx_1, if_neg hx_2]) ?_
              refine z_astore C [(0, .ref (a0 99)), (1, .int v1), (2, .int v2), (3, .int v3), (4, .ref (a8 99))] dX6_join_28 (Nat.le_of_ble_eq_true rfl) [1, 2, 3, 4, 0] rfl 30 rfl ?_
              refine z_aload C dX6_join_30 4 rfl 32 rfl ?_
              refine z_get C (in_X6_join_X5) 29 rfl rfl 1 (by decide) (List.mem_of_getElem? (i := 1) rfl) rfl rfl dX6_join_32 35 rfl ?_
              refine z_if_ne C 41 dX6_join_35 (by decide) 38 rfl h (fun h => ?_) (fun h => ?_)
              · refine z_iload_n C dX6_join_41 rfl 2 rfl 42 rfl ?_
                refine z_iconst C (-1) dX6_join_42 (by decide) 43 rfl ?_
                refine z_icmp_ne C 58 dX6_join_43 (by decide) 46 rfl h (fun h => ?_) (fun h => ?_)
                · refine z_aload C dX6_join_58 4 rfl 60 rfl ?_
                  refine z_aload_n C dX6_join_60 rfl 0 rfl 61 rfl ?_
                  refine z_get C (in_X6_join_X6) 0 rfl rfl 1 (by decide) (List.mem_of_getElem? (i := 2) rfl) rfl rfl dX6_join_61 64 rfl ?_
                  refine z_iload_n C dX6_join_64 rfl 2 rfl 65 rfl ?_
                  refine z_iload_n C dX6_join_65 rfl 3 rfl 66 rfl ?_
                  refine z_callR C (wX5 T a8 r_3.2.2.2.2.2 ++ wX1 T a2 S2) (fun v h => c_X5_tellJoin l D T a8 a2  r_3.2.2.2.2.2 S2 v2 v3 v h) ⟨rfl, rfl⟩ (z_cwV C 3 gX6_join_X5_tellJoin rfl rfl dd_X5_tellJoin ⟨(Nat.le_of_ble_eq_true rfl), (Nat.le_of_ble_eq_true rfl)⟩) (hD.zaddr rfl) [29, 30, 31, 3, 4, 5, 6, 7] rfl rfl (fun _ => ⟨a8 99, [.ref (a2 99), .int v2, .int v3], 4, 0, _, _, rfl, rfl, rfl, rfl, rfl⟩) (fun h => absurd rfl h) rfl (Nat.le_of_ble_eq_true rfl) dX6_join_66 69 rfl h (fun r_10 h => ?_)
                  exact z_iretW (x := (r_3.2.1, r_3.2.2.1, r_3.2.2.2.1, r_3.2.2.2.2.1, r_3.2.2.2.2.2)) (ex := ex) (fun z => wX6 a0 a1 a2 a3 a4 a5 a6 a7 a8 a9 ++ (wX4 T a1 S1 ++ (wX1 T a2 S2 ++ (wX1 T a3 S3 ++ (wX0 T a4 z.1 ++ (wX5 T a5 z.2.1 ++ (wX5 T a6 z.2.2.1 ++ (wX5 T a7 z.2.2.2.1 ++ (wX5 T a8 z.2.2.2.2 ++ wX3 T a9 S9))))))))) C hr dX6_join_69 h rfl
                · refine z_aload C dX6_join_46 4 rfl 48 rfl ?_
                  refine z_aload_n C dX6_join_48 rfl 0 rfl 49 rfl ?_
                  refine z_get C (in_X6_join_X6) 0 rfl rfl 1 (by decide) (List.mem_of_getElem? (i := 2) rfl) rfl rfl dX6_join_49 52 rfl ?_
                  refine z_callR C (wX5 T a8 r_3.2.2.2.2.2 ++ wX1 T a2 S2) (fun v h => c_X5_joins l D T a8 a2  r_3.2.2.2.2.2 S2  v h) ⟨rfl, rfl⟩ (z_cwV C 1 gX6_join_X5_joins rfl rfl dd_X5_joins ⟨(Nat.le_of_ble_eq_true rfl), (Nat.le_of_ble_eq_true rfl)⟩) (hD.zaddr rfl) [29, 30, 31, 3, 4, 5, 6, 7] rfl rfl (fun _ => ⟨a8 99, [.ref (a2 99)], 4, 0, _, _, rfl, rfl, rfl, rfl, rfl⟩) (fun h => absurd rfl h) rfl (Nat.le_of_ble_eq_true rfl) dX6_join_52 55 rfl h (fun r_11 h => ?_)
                  refine z_goto C 69 dX6_join_55 (by decide) ?_
                  exact z_iretW (x := (r_3.2.1, r_3.2.2.1, r_3.2.2.2.1, r_3.2.2.2.2.1, r_3.2.2.2.2.2)) (ex := ex) (fun z => wX6 a0 a1 a2 a3 a4 a5 a6 a7 a8 a9 ++ (wX4 T a1 S1 ++ (wX1 T a2 S2 ++ (wX1 T a3 S3 ++ (wX0 T a4 z.1 ++ (wX5 T a5 z.2.1 ++ (wX5 T a6 z.2.2.1 ++ (wX5 T a7 z.2.2.2.1 ++ (wX5 T a8 z.2.2.2.2 ++ wX3 T a9 S9))))))))) C hr dX6_join_69 h rfl
              · refine z_bipush C (-2) dX6_join_38 (by decide) 40 rfl ?_
                exact z_iretW (x := (r_3.2.1, r_3.2.2.1, r_3.2.2.2.1, r_3.2.2.2.2.1, r_3.2.2.2.2.2)) (ex := ex) (fun z => wX6 a0 a1 a2 a3 a4 a5 a6 a7 a8 a9 ++ (wX4 T a1 S1 ++ (wX1 T a2 S2 ++ (wX1 T a3 S3 ++ (wX0 T a4 z.1 ++ (wX5 T a5 z.2.1 ++ (wX5 T a6 z.2.2.1 ++ (wX5 T a7 z.2.2.2.1 ++ (wX5 T a8 z.2.2.2.2 ++ wX3 T a9 S9))))))))) C hr dX6_join_40 h rfl
      · refine z_iconst C (-1) dX6_join_21 (by decide) 22 rfl ?_
        exact z_iretW (x := (S4, S5, S6, S7, S8)) (ex := ex) (fun z => wX6 a0 a1 a2 a3 a4 a5 a6 a7 a8 a9 ++ (wX4 T a1 S1 ++ (wX1 T a2 S2 ++ (wX1 T a3 S3 ++ (wX0 T a4 z.1 ++ (wX5 T a5 z.2.1 ++ (wX5 T a6 z.2.2.1 ++ (wX5 T a7 z.2.2.2.1 ++ (wX5 T a8 z.2.2.2.2 ++ wX3 T a9 S9))))))))) C hr dX6_join_22 h rfl

end
