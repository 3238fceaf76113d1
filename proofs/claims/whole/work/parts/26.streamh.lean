/-! StreamTree.more (IIII)I -/
section
variable {p : Program} {l : Launch} {e : Env} {R : Room} {s : State} {m : MethodId} {args : Array Value} {below : List Frame} {meth : Method} {c : Code} {Q : State → Prop} {A : Nat → Prop} {D : va_G} {T : Nat → ClassId} {a0 : Nat → Nat} {a1 : Nat → Nat} {a2 : Nat → Nat} {a3 : Nat → Nat} {a4 : Nat → Nat} {a5 : Nat → Nat} {a6 : Nat → Nat} {a7 : Nat → Nat} {a8 : Nat → Nat} {a9 : Nat → Nat}
theorem in_X6_more_X3 : ∀ w ∈ u_ws RX3 TX3 5, w ∈ wsX6_more := fun _ h => (List.mem_cons_of_mem _ (List.mem_append_left _ (List.mem_append_right _ h)))
theorem in_X6_more_X5 : ∀ w ∈ u_ws RX5 TX5 5, w ∈ wsX6_more := fun _ h => (List.mem_cons_of_mem _ (List.mem_append_left _ (List.mem_append_left _ (List.mem_append_right _ h))))
theorem in_X6_more_X1 : ∀ w ∈ u_ws RX1 TX1 10, w ∈ wsX6_more := fun _ h => (List.mem_cons_of_mem _ (List.mem_append_left _ (List.mem_append_left _ (List.mem_append_left _ (List.mem_append_right _ h)))))
theorem in_X6_more_X6 : ∀ w ∈ u_ws RX6 TX6 9, w ∈ wsX6_more := fun _ h => (List.mem_cons_of_mem _ (List.mem_append_left _ (List.mem_append_left _ (List.mem_append_left _ (List.mem_append_left _ (List.mem_append_right _ h))))))
def f_X6_more (S1 : Nat → Nat → Int32) (S2 : Nat → Nat → Int32) (S3 : Nat → Nat → Int32) (S4 : Nat → Nat → Int32) (S5 : Nat → Nat → Int32) (S6 : Nat → Nat → Int32) (S7 : Nat → Nat → Int32) (S8 : Nat → Nat → Int32) (S9 : Nat → Nat → Int32) (v1 : Int32) (v2 : Int32) (v3 : Int32) (v4 : Int32) : Option (Int32 × (Nat → Nat → Int32) × (Nat → Nat → Int32) × (Nat → Nat → Int32) × (Nat → Nat → Int32) × (Nat → Nat → Int32) × (Nat → Nat → Int32)) := (f_X1_hasCell S2 v1 v2).bind fun r_1 => if r_1 = 0 then (some ((-1), S4, S5, S6, S7, S8, S9)) else ((f_X6_isWithin v3 1 99).bind fun r_2 => if r_2 = 0 then (some ((-1), S4, S5, S6, S7, S8, S9)) else ((f_X6_isWithin v4 0 2).bind fun r_3 => if r_3 = 0 then (some ((-1), S4, S5, S6, S7, S8, S9)) else ((f_X6_cellOf v1 v2).bind fun r_4 => zix r_4 240 fun _ => if (S2 9 (Int32.toNatClampNeg r_4)) = 0 then ((f_X6_treeOf S1 S2 S3 S4 S5 S6 S7 S8 S9 4).bind fun r_5 => if r_5.1 = 5 then (if (r_5.2.2.1 1 0) = 0 then (some ((-2), r_5.2.1, r_5.2.2.1, r_5.2.2.2.1, r_5.2.2.2.2.1, r_5.2.2.2.2.2, S9)) else ((f_X3_findWay S9 S2 r_5.2.2.1 v1 v2 v3).bind fun r_6 => if r_6.1 = 0 then (some ((-2), r_5.2.1, r_5.2.2.1, r_5.2.2.2.1, r_5.2.2.2.2.1, r_5.2.2.2.2.2, r_6.2)) else (if v4 = 0 then (some ((r_6.2 0 0), r_5.2.1, r_5.2.2.1, r_5.2.2.2.1, r_5.2.2.2.2.1, r_5.2.2.2.2.2, r_6.2)) else (if v4 = 1 then (some ((r_6.2 1 0), r_5.2.1, r_5.2.2.1, r_5.2.2.2.1, r_5.2.2.2.2.1, r_5.2.2.2.2.2, r_6.2)) else (some ((r_6.2 2 0), r_5.2.1, r_5.2.2.1, r_5.2.2.2.1, r_5.2.2.2.2.1, r_5.2.2.2.2.2, r_6.2)))))) else (if r_5.1 = 6 then (if (r_5.2.2.2.1 1 0) = 0 then (some ((-2), r_5.2.1, r_5.2.2.1, r_5.2.2.2.1, r_5.2.2.2.2.1, r_5.2.2.2.2.2, S9)) else ((f_X3_findWay S9 S2 r_5.2.2.2.1 v1 v2 v3).bind fun r_7 => if r_7.1 = 0 then (some ((-2), r_5.2.1, r_5.2.2.1, r_5.2.2.2.1, r_5.2.2.2.2.1, r_5.2.2.2.2.2, r_7.2)) else (if v4 = 0 then (some ((r_7.2 0 0), r_5.2.1, r_5.2.2.1, r_5.2.2.2.1, r_5.2.2.2.2.1, r_5.2.2.2.2.2, r_7.2)) else (if v4 = 1 then (some ((r_7.2 1 0), r_5.2.1, r_5.2.2.1, r_5.2.2.2.1, r_5.2.2.2.2.1, r_5.2.2.2.2.2, r_7.2)) else (some ((r_7.2 2 0), r_5.2.1, r_5.2.2.1, r_5.2.2.2.1, r_5.2.2.2.2.1, r_5.2.2.2.2.2, r_7.2)))))) else (if r_5.1 = 7 then (if (r_5.2.2.2.2.1 1 0) = 0 then (some ((-2), r_5.2.1, r_5.2.2.1, r_5.2.2.2.1, r_5.2.2.2.2.1, r_5.2.2.2.2.2, S9)) else ((f_X3_findWay S9 S2 r_5.2.2.2.2.1 v1 v2 v3).bind fun r_8 => if r_8.1 = 0 then (some ((-2), r_5.2.1, r_5.2.2.1, r_5.2.2.2.1, r_5.2.2.2.2.1, r_5.2.2.2.2.2, r_8.2)) else (if v4 = 0 then (some ((r_8.2 0 0), r_5.2.1, r_5.2.2.1, r_5.2.2.2.1, r_5.2.2.2.2.1, r_5.2.2.2.2.2, r_8.2)) else (if v4 = 1 then (some ((r_8.2 1 0), r_5.2.1, r_5.2.2.1, r_5.2.2.2.1, r_5.2.2.2.2.1, r_5.2.2.2.2.2, r_8.2)) else (some ((r_8.2 2 0), r_5.2.1, r_5.2.2.1, r_5.2.2.2.1, r_5.2.2.2.2.1, r_5.2.2.2.2.2, r_8.2)))))) else (if (r_5.2.2.2.2.2 1 0) = 0 then (some ((-2), r_5.2.1, r_5.2.2.1, r_5.2.2.2.1, r_5.2.2.2.2.1, r_5.2.2.2.2.2, S9)) else ((f_X3_findWay S9 S2 r_5.2.2.2.2.2 v1 v2 v3).bind fun r_9 => if r_9.1 = 0 then (some ((-2), r_5.2.1, r_5.2.2.1, r_5.2.2.2.1, r_5.2.2.2.2.1, r_5.2.2.2.2.2, r_9.2)) else (if v4 = 0 then (some ((r_9.2 0 0), r_5.2.1, r_5.2.2.1, r_5.2.2.2.1, r_5.2.2.2.2.1, r_5.2.2.2.2.2, r_9.2)) else (if v4 = 1 then (some ((r_9.2 1 0), r_5.2.1, r_5.2.2.1, r_5.2.2.2.1, r_5.2.2.2.2.1, r_5.2.2.2.2.2, r_9.2)) else (some ((r_9.2 2 0), r_5.2.1, r_5.2.2.1, r_5.2.2.2.1, r_5.2.2.2.2.1, r_5.2.2.2.2.2, r_9.2))))))))) else (some ((-1), S4, S5, S6, S7, S8, S9)))))
theorem dd_X6_more : RX6 ≠ "java/lang/invoke/MethodHandle" ∧ RX6 ≠ "java/lang/invoke/VarHandle" ∧ (parseMethodDescriptor yX6_more.desc).map (fun d => d.parameters.length) = some 4 := by decide +kernel
set_option maxHeartbeats 4000000 in
set_option maxRecDepth 100000 in
theorem c_X6_more (l : Launch) (D : va_G) (T : Nat → ClassId) (a0 : Nat → Nat) (a1 : Nat → Nat) (a2 : Nat → Nat) (a3 : Nat → Nat) (a4 : Nat → Nat) (a5 : Nat → Nat) (a6 : Nat → Nat) (a7 : Nat → Nat) (a8 : Nat → Nat) (a9 : Nat → Nat) (S1 : Nat → Nat → Int32) (S2 : Nat → Nat → Int32) (S3 : Nat → Nat → Int32) (S4 : Nat → Nat → Int32) (S5 : Nat → Nat → Int32) (S6 : Nat → Nat → Int32) (S7 : Nat → Nat → Int32) (S8 : Nat → Nat → Int32) (S9 : Nat → Nat → Int32) (v1 : Int32) (v2 : Int32) (v3 : Int32) (v4 : Int32) (ex : Int32 × (Nat → Nat → Int32) × (Nat → Nat → Int32) × (Nat → Nat → Int32) × (Nat → Nat → Int32) × (Nat → Nat → Int32) × (Nat → Nat → Int32)) (h : f_X6_more S1 S2 S3 S4 S5 S6 S7 S8 S9 v1 v2 v3 v4 = some ex) : zWI l yX6_more wsX6_more ({ frames := 6, cells := 0, slots := 0, locals := 150 } : Room) D T [.ref (a0 99), .int v1, .int v2, .int v3, .int v4] (wX6 a0 a1 a2 a3 a4 a5 a6 a7 a8 a9 ++ (wX4 T a1 S1 ++ (wX1 T a2 S2 ++ (wX1 T a3 S3 ++ (wX0 T a4 S4 ++ (wX5 T a5 S5 ++ (wX5 T a6 S6 ++ (wX5 T a7 S7 ++ (wX5 T a8 S8 ++ wX3 T a9 S9))))))))) ex.1 (wX6 a0 a1 a2 a3 a4 a5 a6 a7 a8 a9 ++ (wX4 T a1 S1 ++ (wX1 T a2 S2 ++ (wX1 T a3 S3 ++ (wX0 T a4 ex.2.1 ++ (wX5 T a5 ex.2.2.1 ++ (wX5 T a6 ex.2.2.2.1 ++ (wX5 T a7 ex.2.2.2.2.1 ++ (wX5 T a8 ex.2.2.2.2.2.1 ++ wX3 T a9 ex.2.2.2.2.2.2))))))))) := by
  refine z_begin (cc := cX6_more) (nL := 6) (own := RX6) (fr := 6) (lc := 150) (ret := some .int) (by decide) rfl (Nat.le_of_ble_eq_true rfl) (zA (wX6 a0 a1 a2 a3 a4 a5 a6 a7 a8 a9 ++ (wX4 T a1 S1 ++ (wX1 T a2 S2 ++ (wX1 T a3 S3 ++ (wX0 T a4 S4 ++ (wX5 T a5 S5 ++ (wX5 T a6 S6 ++ (wX5 T a7 S7 ++ (wX5 T a8 S8 ++ wX3 T a9 S9)))))))))) rfl [(0, .ref (a0 99)), (1, .int v1), (2, .int v2), (3, .int v3), (4, .int v4)] rfl ⟨rfl, rfl⟩ rfl ?_
  intro p e s m args below meth c C hr hD
  have hD := hD.zself
  unfold f_X6_more at h
  refine z_aload_n C dX6_more_0 rfl 0 rfl 1 rfl ?_
  refine z_get C (in_X6_more_X6) 0 rfl rfl 1 (by decide) (List.mem_of_getElem? (i := 1) rfl) rfl rfl dX6_more_1 4 rfl ?_
  refine z_iload_n C dX6_more_4 rfl 1 rfl 5 rfl ?_
  refine z_iload_n C dX6_more_5 rfl 2 rfl 6 rfl ?_
  refine z_callR C (wX1 T a2 S2) (fun v h => c_X1_hasCell l D T a2  S2 v1 v2 v h) ⟨rfl, rfl⟩ (z_cwV C 2 gX6_more_X1_hasCell rfl rfl dd_X1_hasCell ⟨(Nat.le_of_ble_eq_true rfl), (Nat.le_of_ble_eq_true rfl)⟩) (hD.zaddr rfl) [3, 4, 5, 6, 7] rfl rfl (fun _ => ⟨a2 99, [.int v1, .int v2], 1, 0, _, _, rfl, rfl, rfl, rfl, rfl⟩) (fun h => absurd rfl h) rfl (Nat.le_of_ble_eq_true rfl) dX6_more_6 9 rfl h (fun r_1 h => ?_)
  refine z_if_eq C 48 dX6_more_9 (by decide) 12 rfl h (fun h => ?_) (fun h => ?_)
  · refine z_iconst C (-1) dX6_more_48 (by decide) 49 rfl ?_
    exact z_iretW (x := (S4, S5, S6, S7, S8, S9)) (ex := ex) (fun z => wX6 a0 a1 a2 a3 a4 a5 a6 a7 a8 a9 ++ (wX4 T a1 S1 ++ (wX1 T a2 S2 ++ (wX1 T a3 S3 ++ (wX0 T a4 z.1 ++ (wX5 T a5 z.2.1 ++ (wX5 T a6 z.2.2.1 ++ (wX5 T a7 z.2.2.2.1 ++ (wX5 T a8 z.2.2.2.2.1 ++ wX3 T a9 z.2.2.2.2.2))))))))) C hr dX6_more_49 h rfl
  · refine z_iload_n C dX6_more_12 rfl 3 rfl 13 rfl ?_
    refine z_iconst C 1 dX6_more_13 (by decide) 14 rfl ?_
    refine z_bipush C 99 dX6_more_14 (by decide) 16 rfl ?_
    refine z_callR C ([]) (fun v h => c_X6_isWithin l D T    v3 1 99 v h) ⟨rfl, rfl⟩ (z_cwS C 3 gX6_more_X6_isWithin rfl dd_X6_isWithin ⟨(Nat.le_of_ble_eq_true rfl), (Nat.le_of_ble_eq_true rfl)⟩) (hD.zaddr rfl) [] rfl rfl (fun h => absurd h (by decide)) (fun _ => rfl) rfl (Nat.le_of_ble_eq_true rfl) dX6_more_16 19 rfl h (fun r_2 h => ?_)
    refine z_if_eq C 48 dX6_more_19 (by decide) 22 rfl h (fun h => ?_) (fun h => ?_)
    · refine z_iconst C (-1) dX6_more_48 (by decide) 49 rfl ?_
      exact z_iretW (x := (S4, S5, S6, S7, S8, S9)) (ex := ex) (fun z => wX6 a0 a1 a2 a3 a4 a5 a6 a7 a8 a9 ++ (wX4 T a1 S1 ++ (wX1 T a2 S2 ++ (wX1 T a3 S3 ++ (wX0 T a4 z.1 ++ (wX5 T a5 z.2.1 ++ (wX5 T a6 z.2.2.1 ++ (wX5 T a7 z.2.2.2.1 ++ (wX5 T a8 z.2.2.2.2.1 ++ wX3 T a9 z.2.2.2.2.2))))))))) C hr dX6_more_49 h rfl
    · refine z_iload C dX6_more_22 4 rfl 24 rfl ?_
      refine z_iconst C 0 dX6_more_24 (by decide) 25 rfl ?_
      refine z_iconst C 2 dX6_more_25 (by decide) 26 rfl ?_
      refine z_callR C ([]) (fun v h => c_X6_isWithin l D T    v4 0 2 v h) ⟨rfl, rfl⟩ (z_cwS C 3 gX6_more_X6_isWithin rfl dd_X6_isWithin ⟨(Nat.le_of_ble_eq_true rfl), (Nat.le_of_ble_eq_true rfl)⟩) (hD.zaddr rfl) [] rfl rfl (fun h => absurd h (by decide)) (fun _ => rfl) rfl (Nat.le_of_ble_eq_true rfl) dX6_more_26 29 rfl h (fun r_3 h => ?_)
      refine z_if_eq C 48 dX6_more_29 (by decide) 32 rfl h (fun h => ?_) (fun h => ?_)
      · refine z_iconst C (-1) dX6_more_48 (by decide) 49 rfl ?_
        exact z_iretW (x := (S4, S5, S6, S7, S8, S9)) (ex := ex) (fun z => wX6 a0 a1 a2 a3 a4 a5 a6 a7 a8 a9 ++ (wX4 T a1 S1 ++ (wX1 T a2 S2 ++ (wX1 T a3 S3 ++ (wX0 T a4 z.1 ++ (wX5 T a5 z.2.1 ++ (wX5 T a6 z.2.2.1 ++ (wX5 T a7 z.2.2.2.1 ++ (wX5 T a8 z.2.2.2.2.1 ++ wX3 T a9 z.2.2.2.2.2))))))))) C hr dX6_more_49 h rfl
      · refine z_aload_n C dX6_more_32 rfl 0 rfl 33 rfl ?_
        refine z_get C (in_X6_more_X6) 0 rfl rfl 1 (by decide) (List.mem_of_getElem? (i := 1) rfl) rfl rfl dX6_more_33 36 rfl ?_
        refine z_get C (in_X6_more_X1) 3 rfl rfl 9 (by decide) (List.mem_of_getElem? (i := 2) rfl) rfl rfl dX6_more_36 39 rfl ?_
        refine z_iload_n C dX6_more_39 rfl 1 rfl 40 rfl ?_
        refine z_iload_n C dX6_more_40 rfl 2 rfl 41 rfl ?_
        refine z_callR C ([]) (fun v h => c_X6_cellOf l D T    v1 v2 v h) ⟨rfl, rfl⟩ (z_cwS C 2 gX6_more_X6_cellOf rfl dd_X6_cellOf ⟨(Nat.le_of_ble_eq_true rfl), (Nat.le_of_ble_eq_true rfl)⟩) (hD.zaddr rfl) [] rfl rfl (fun h => absurd h (by decide)) (fun _ => rfl) rfl (Nat.le_of_ble_eq_true rfl) dX6_more_41 44 rfl h (fun r_4 h => ?_)
        refine z_zald C 7 rfl rfl dX6_more_44 45 rfl h (fun h => ?_)
        refine z_if_eq C 50 dX6_more_45 (by decide) 48 rfl h (fun h => ?_) (fun h => ?_)
        · refine z_aload_n C dX6_more_50 rfl 0 rfl 51 rfl ?_
          refine z_iconst C 4 dX6_more_51 (by decide) 52 rfl ?_
          refine z_callA C (wX6 a0 a1 a2 a3 a4 a5 a6 a7 a8 a9 ++ (wX4 T a1 S1 ++ (wX1 T a2 S2 ++ (wX1 T a3 S3 ++ (wX0 T a4 S4 ++ (wX5 T a5 S5 ++ (wX5 T a6 S6 ++ (wX5 T a7 S7 ++ (wX5 T a8 S8 ++ wX3 T a9 S9))))))))) (([] : va_W)) (fun z => if z.1 = 5 then a5 99 else if z.1 = 6 then a6 99 else if z.1 = 7 then a7 99 else a8 99) (fun z => wX6 a0 a1 a2 a3 a4 a5 a6 a7 a8 a9 ++ (wX4 T a1 S1 ++ (wX1 T a2 S2 ++ (wX1 T a3 S3 ++ (wX0 T a4 z.2.1 ++ (wX5 T a5 z.2.2.1 ++ (wX5 T a6 z.2.2.2.1 ++ (wX5 T a7 z.2.2.2.2.1 ++ (wX5 T a8 z.2.2.2.2.2 ++ wX3 T a9 S9))))))))) (fun z => wX6 a0 a1 a2 a3 a4 a5 a6 a7 a8 a9 ++ (wX4 T a1 S1 ++ (wX1 T a2 S2 ++ (wX1 T a3 S3 ++ (wX0 T a4 z.2.1 ++ (wX5 T a5 z.2.2.1 ++ (wX5 T a6 z.2.2.2.1 ++ (wX5 T a7 z.2.2.2.2.1 ++ (wX5 T a8 z.2.2.2.2.2 ++ wX3 T a9 S9))))))))) (fun z h => c_X6_treeOf l D T a0 a1 a2 a3 a4 a5 a6 a7 a8 a9  S1 S2 S3 S4 S5 S6 S7 S8 S9 4 z h) ⟨rfl, rfl⟩ (z_cwV C 1 gX6_more_X6_treeOf rfl rfl dd_X6_treeOf ⟨(Nat.le_of_ble_eq_true rfl), (Nat.le_of_ble_eq_true rfl)⟩) (hD.zaddr rfl) [0, 1, 2, 3, 4, 5, 6, 7, 8, 9, 10, 11, 12, 13, 14, 15, 16, 17, 18, 19, 20, 21, 22, 23, 24, 25, 26, 27, 28, 29, 30, 31, 32, 33] [] [0, 1, 2, 3, 4, 5, 6, 7, 8, 9, 10, 11, 12, 13, 14, 15, 16, 17, 18, 19, 20, 21, 22, 23, 24, 25, 26, 27, 28, 29, 30, 31, 32, 33] rfl rfl rfl (by decide) (fun _ => rfl) (fun _ => ⟨a0 99, [.int 4], 5, 0, _, _, rfl, rfl, rfl, rfl, rfl⟩) (fun h => absurd rfl h) rfl (Nat.le_of_ble_eq_true rfl) dX6_more_52 55 rfl h (fun r_5 h => ?_)
          refine z_tag (t := r_5.1) 5 (fun t => if t = 5 then a5 99 else if t = 6 then a6 99 else if t = 7 then a7 99 else a8 99) rfl h (fun h => ?_) (fun hx_0 h => ?_)
          · refine z_astore C [(0, .ref (a0 99)), (1, .int v1), (2, .int v2), (3, .int v3), (4, .int v4), (5, .ref (a5 99))] dX6_more_55 (Nat.le_of_ble_eq_true rfl) [1, 2, 3, 4, 5, 0] rfl 57 rfl ?_
            refine z_aload C dX6_more_57 5 rfl 59 rfl ?_
            refine z_get C (in_X6_more_X5) 20 rfl rfl 1 (by decide) (List.mem_of_getElem? (i := 3) rfl) rfl rfl dX6_more_59 62 rfl ?_
            refine z_if_eq C 84 dX6_more_62 (by decide) 65 rfl h (fun h => ?_) (fun h => ?_)
            · refine z_bipush C (-2) dX6_more_84 (by decide) 86 rfl ?_
              exact z_iretW (x := (r_5.2.1, r_5.2.2.1, r_5.2.2.2.1, r_5.2.2.2.2.1, r_5.2.2.2.2.2, S9)) (ex := ex) (fun z => wX6 a0 a1 a2 a3 a4 a5 a6 a7 a8 a9 ++ (wX4 T a1 S1 ++ (wX1 T a2 S2 ++ (wX1 T a3 S3 ++ (wX0 T a4 z.1 ++ (wX5 T a5 z.2.1 ++ (wX5 T a6 z.2.2.1 ++ (wX5 T a7 z.2.2.2.1 ++ (wX5 T a8 z.2.2.2.2.1 ++ wX3 T a9 z.2.2.2.2.2))))))))) C hr dX6_more_86 h rfl
            · refine z_aload_n C dX6_more_65 rfl 0 rfl 66 rfl ?_
              refine z_get C (in_X6_more_X6) 0 rfl rfl 8 (by decide) (List.mem_of_getElem? (i := 4) rfl) rfl rfl dX6_more_66 69 rfl ?_
              refine z_aload_n C dX6_more_69 rfl 0 rfl 70 rfl ?_
              refine z_get C (in_X6_more_X6) 0 rfl rfl 1 (by decide) (List.mem_of_getElem? (i := 1) rfl) rfl rfl dX6_more_70 73 rfl ?_
              refine z_aload C dX6_more_73 5 rfl 75 rfl ?_
              refine z_iload_n C dX6_more_75 rfl 1 rfl 76 rfl ?_
              refine z_iload_n C dX6_more_76 rfl 2 rfl 77 rfl ?_
              refine z_iload_n C dX6_more_77 rfl 3 rfl 78 rfl ?_
              refine z_callW C (wX3 T a9 S9 ++ (wX1 T a2 S2 ++ wX5 T a5 r_5.2.2.1)) (wX6 a0 a1 a2 a3 a4 a5 a6 a7 a8 a9 ++ (wX4 T a1 S1 ++ (wX1 T a3 S3 ++ (wX0 T a4 r_5.2.1 ++ (wX5 T a6 r_5.2.2.2.1 ++ (wX5 T a7 r_5.2.2.2.2.1 ++ wX5 T a8 r_5.2.2.2.2.2)))))) (fun z => z.1) (fun z => wX3 T a9 z.2 ++ (wX1 T a2 S2 ++ wX5 T a5 r_5.2.2.1)) (fun z => wX6 a0 a1 a2 a3 a4 a5 a6 a7 a8 a9 ++ (wX4 T a1 S1 ++ (wX1 T a2 S2 ++ (wX1 T a3 S3 ++ (wX0 T a4 r_5.2.1 ++ (wX5 T a5 r_5.2.2.1 ++ (wX5 T a6 r_5.2.2.2.1 ++ (wX5 T a7 r_5.2.2.2.2.1 ++ (wX5 T a8 r_5.2.2.2.2.2 ++ wX3 T a9 z.2))))))))) (fun z h => c_X3_findWay l D T a9 a2 a5  S9 S2 r_5.2.2.1 v1 v2 v3 z h) ⟨rfl, rfl⟩ (z_cwV C 5 gX6_more_X3_findWay rfl rfl dd_X3_findWay ⟨(Nat.le_of_ble_eq_true rfl), (Nat.le_of_ble_eq_true rfl)⟩) (hD.zaddr rfl) [32, 33, 3, 4, 5, 6, 7, 20, 21, 22] [0, 1, 2, 8, 9, 10, 11, 12, 13, 14, 15, 16, 17, 18, 19, 23, 24, 25, 26, 27, 28, 29, 30, 31] [0, 1, 2, 26, 27, 28, 29, 30, 3, 4, 5, 6, 7, 8, 9, 10, 11, 12, 13, 14, 31, 32, 33, 15, 16, 17, 18, 19, 20, 21, 22, 23, 24, 25] rfl rfl rfl (by decide) (fun _ => rfl) (fun _ => ⟨a9 99, [.ref (a2 99), .ref (a5 99), .int v1, .int v2, .int v3], 2, 0, _, _, rfl, rfl, rfl, rfl, rfl⟩) (fun h => absurd rfl h) rfl (Nat.le_of_ble_eq_true rfl) dX6_more_78 81 rfl h (fun r_6 h => ?_)
              refine z_if_ne C 87 dX6_more_81 (by decide) 84 rfl h (fun h => ?_) (fun h => ?_)
              · refine z_iload C dX6_more_87 4 rfl 89 rfl ?_
                refine z_if_ne C 100 dX6_more_89 (by decide) 92 rfl h (fun h => ?_) (fun h => ?_)
                · refine z_iload C dX6_more_100 4 rfl 102 rfl ?_
                  refine z_iconst C 1 dX6_more_102 (by decide) 103 rfl ?_
                  refine z_icmp_ne C 116 dX6_more_103 (by decide) 106 rfl h (fun h => ?_) (fun h => ?_)
                  · refine z_aload_n C dX6_more_116 rfl 0 rfl 117 rfl ?_
                    refine z_get C (in_X6_more_X6) 0 rfl rfl 8 (by decide) (List.mem_of_getElem? (i := 4) rfl) rfl rfl dX6_more_117 120 rfl ?_
                    refine z_get C (in_X6_more_X3) 32 rfl rfl 2 (by decide) (List.mem_of_getElem? (i := 7) rfl) rfl rfl dX6_more_120 123 rfl ?_
                    exact z_iretW (x := (r_5.2.1, r_5.2.2.1, r_5.2.2.2.1, r_5.2.2.2.2.1, r_5.2.2.2.2.2, r_6.2)) (ex := ex) (fun z => wX6 a0 a1 a2 a3 a4 a5 a6 a7 a8 a9 ++ (wX4 T a1 S1 ++ (wX1 T a2 S2 ++ (wX1 T a3 S3 ++ (wX0 T a4 z.1 ++ (wX5 T a5 z.2.1 ++ (wX5 T a6 z.2.2.1 ++ (wX5 T a7 z.2.2.2.1 ++ (wX5 T a8 z.2.2.2.2.1 ++ wX3 T a9 z.2.2.2.2.2))))))))) C hr dX6_more_123 h rfl
                  · refine z_aload_n C dX6_more_106 rfl 0 rfl 107 rfl ?_
                    refine z_get C (in_X6_more_X6) 0 rfl rfl 8 (by decide) (List.mem_of_getElem? (i := 4) rfl) rfl rfl dX6_more_107 110 rfl ?_
                    refine z_get C (in_X6_more_X3) 32 rfl rfl 1 (by decide) (List.mem_of_getElem? (i := 6) rfl) rfl rfl dX6_more_110 113 rfl ?_
                    refine z_goto C 123 dX6_more_113 (by decide) ?_
                    exact z_iretW (x := (r_5.2.1, r_5.2.2.1, r_5.2.2.2.1, r_5.2.2.2.2.1, r_5.2.2.2.2.2, r_6.2)) (ex := ex) (fun z => wX6 a0 a1 a2 a3 a4 a5 a6 a7 a8 a9 ++ (wX4 T a1 S1 ++ (wX1 T a2 S2 ++ (wX1 T a3 S3 ++ (wX0 T a4 z.1 ++ (wX5 T a5 z.2.1 ++ (wX5 T a6 z.2.2.1 ++ (wX5 T a7 z.2.2.2.1 ++ (wX5 T a8 z.2.2.2.2.1 ++ wX3 T a9 z.2.2.2.2.2))))))))) C hr dX6_more_123 h rfl
                · refine z_aload_n C dX6_more_92 rfl 0 rfl 93 rfl ?_
                  refine z_get C (in_X6_more_X6) 0 rfl rfl 8 (by decide) (List.mem_of_getElem? (i := 4) rfl) rfl rfl dX6_more_93 96 rfl ?_
                  refine z_get C (in_X6_more_X3) 32 rfl rfl 0 (by decide) (List.mem_of_getElem? (i := 5) rfl) rfl rfl dX6_more_96 99 rfl ?_
                  exact z_iretW (x := (r_5.2.1, r_5.2.2.1, r_5.2.2.2.1, r_5.2.2.2.2.1, r_5.2.2.2.2.2, r_6.2)) (ex := ex) (fun z => wX6 a0 a1 a2 a3 a4 a5 a6 a7 a8 a9 ++ (wX4 T a1 S1 ++ (wX1 T a2 S2 ++ (wX1 T a3 S3 ++ (wX0 T a4 z.1 ++ (wX5 T a5 z.2.1 ++ (wX5 T a6 z.2.2.1 ++ (wX5 T a7 z.2.2.2.1 ++ (wX5 T a8 z.2.2.2.2.1 ++ wX3 T a9 z.2.2.2.2.2))))))))) C hr dX6_more_99 h rfl
              · refine z_bipush C (-2) dX6_more_84 (by decide) 86 rfl ?_
                exact z_iretW (x := (r_5.2.1, r_5.2.2.1, r_5.2.2.2.1, r_5.2.2.2.2.1, r_5.2.2.2.2.2, r_6.2)) (ex := ex) (fun z => wX6 a0 a1 a2 a3 a4 a5 a6 a7 a8 a9 ++ (wX4 T a1 S1 ++ (wX1 T a2 S2 ++ (wX1 T a3 S3 ++ (wX0 T a4 z.1 ++ (wX5 T a5 z.2.1 ++ (wX5 T a6 z.2.2.1 ++ (wX5 T a7 z.2.2.2.1 ++ (wX5 T a8 z.2.2.2.2.1 ++ wX3 T a9 z.2.2.2.2.2))))))))) C hr dX6_more_86 h rfl
          · refine z_tag (t := r_5.1) 6 (fun t => if t = 5 then a5 99 else if t = 6 then a6 99 else if t = 7 then a7 99 else a8 99) rfl h (fun h => ?_) (fun hx_1 h => ?_)
            · refine z_astore C [(0, .ref (a0 99)), (1, .int v1), (2, .int v2), (3, .int v3), (4, .int v4), (5, .ref (a6 99))] dX6_more_55 (Nat.le_of_ble_eq_true rfl) [1, 2, 3, 4, 5, 0] rfl 57 rfl ?_
              refine z_aload C dX6_more_57 5 rfl 59 rfl ?_
              refine z_get C (in_X6_more_X5) 23 rfl rfl 1 (by decide) (List.mem_of_getElem? (i := 3) rfl) rfl rfl dX6_more_59 62 rfl ?_
              refine z_if_eq C 84 dX6_more_62 (by decide) 65 rfl h (fun h => ?_) (fun h => ?_)
              · refine z_bipush C (-2) dX6_more_84 (by decide) 86 rfl ?_
                exact z_iretW (x := (r_5.2.1, r_5.2.2.1, r_5.2.2.2.1, r_5.2.2.2.2.1, r_5.2.2.2.2.2, S9)) (ex := ex) (fun z => wX6 a0 a1 a2 a3 a4 a5 a6 a7 a8 a9 ++ (wX4 T a1 S1 ++ (wX1 T a2 S2 ++ (wX1 T a3 S3 ++ (wX0 T a4 z.1 ++ (wX5 T a5 z.2.1 ++ (wX5 T a6 z.2.2.1 ++ (wX5 T a7 z.2.2.2.1 ++ (wX5 T a8 z.2.2.2.2.1 ++ wX3 T a9 z.2.2.2.2.2))))))))) C hr dX6_more_86 h rfl
              · refine z_aload_n C dX6_more_65 rfl 0 rfl 66 rfl ?_
                refine z_get C (in_X6_more_X6) 0 rfl rfl 8 (by decide) (List.mem_of_getElem? (i := 4) rfl) rfl rfl dX6_more_66 69 rfl ?_
                refine z_aload_n C dX6_more_69 rfl 0 rfl 70 rfl ?_
                refine z_get C (in_X6_more_X6) 0 rfl rfl 1 (by decide) (List.mem_of_getElem? (i := 1) rfl) rfl rfl dX6_more_70 73 rfl ?_
                refine z_aload C dX6_more_73 5 rfl 75 rfl ?_
                refine z_iload_n C dX6_more_75 rfl 1 rfl 76 rfl ?_
                refine z_iload_n C dX6_more_76 rfl 2 rfl 77 rfl ?_
                refine z_iload_n C dX6_more_77 rfl 3 rfl 78 rfl ?_
                refine z_callW C (wX3 T a9 S9 ++ (wX1 T a2 S2 ++ wX5 T a6 r_5.2.2.2.1)) (wX6 a0 a1 a2 a3 a4 a5 a6 a7 a8 a9 ++ (wX4 T a1 S1 ++ (wX1 T a3 S3 ++ (wX0 T a4 r_5.2.1 ++ (wX5 T a5 r_5.2.2.1 ++ (wX5 T a7 r_5.2.2.2.2.1 ++ wX5 T a8 r_5.2.2.2.2.2)))))) (fun z => z.1) (fun z => wX3 T a9 z.2 ++ (wX1 T a2 S2 ++ wX5 T a6 r_5.2.2.2.1)) (fun z => wX6 a0 a1 a2 a3 a4 a5 a6 a7 a8 a9 ++ (wX4 T a1 S1 ++ (wX1 T a2 S2 ++ (wX1 T a3 S3 ++ (wX0 T a4 r_5.2.1 ++ (wX5 T a5 r_5.2.2.1 ++ (wX5 T a6 r_5.2.2.2.1 ++ (wX5 T a7 r_5.2.2.2.2.1 ++ (wX5 T a8 r_5.2.2.2.2.2 ++ wX3 T a9 z.2))))))))) (fun z h => c_X3_findWay l D T a9 a2 a6  S9 S2 r_5.2.2.2.1 v1 v2 v3 z h) ⟨rfl, rfl⟩ (z_cwV C 5 gX6_more_X3_findWay rfl rfl dd_X3_findWay ⟨(Nat.le_of_ble_eq_true rfl), (Nat.le_of_ble_eq_true rfl)⟩) (hD.zaddr rfl) [32, 33, 3, 4, 5, 6, 7, 23, 24, 25] [0, 1, 2, 8, 9, 10, 11, 12, 13, 14, 15, 16, 17, 18, 19, 20, 21, 22, 26, 27, 28, 29, 30, 31] [0, 1, 2, 26, 27, 28, 29, 30, 3, 4, 5, 6, 7, 8, 9, 10, 11, 12, 13, 14, 15, 16, 17, 31, 32, 33, 18, 19, 20, 21, 22, 23, 24, 25] rfl rfl rfl (by decide) (fun _ => rfl) (fun _ => ⟨a9 99, [.ref (a2 99), .ref (a6 99), .int v1, .int v2, .int v3], 2, 0, _, _, rfl, rfl, rfl, rfl, rfl⟩) (fun h => absurd rfl h) rfl (Nat.le_of_ble_eq_true rfl) dX6_more_78 81 rfl h (fun r_7 h => ?_)
                refine z_if_ne C 87 dX6_more_81 (by decide) 84 rfl h (fun h => ?_) (fun h => ?_)
                · refine z_iload C dX6_more_87 4 rfl 89 rfl ?_
                  refine z_if_ne C 100 dX6_more_89 (by decide) 92 rfl h (fun h => ?_) (fun h => ?_)
                  · refine z_iload C dX6_more_100 4 rfl 102 rfl ?_
                    refine z_iconst C 1 dX6_more_102 (by decide) 103 rfl ?_
                    refine z_icmp_ne C 116 dX6_more_103 (by decide) 106 rfl h (fun h => ?_) (fun h => ?_)
                    · refine z_aload_n C dX6_more_116 rfl 0 rfl 117 rfl ?_
                      refine z_get C (in_X6_more_X6) 0 rfl rfl 8 (by decide) (List.mem_of_getElem? (i := 4) rfl) rfl rfl dX6_more_117 120 rfl ?_
                      refine z_get C (in_X6_more_X3) 32 rfl rfl 2 (by decide) (List.mem_of_getElem? (i := 7) rfl) rfl rfl dX6_more_120 123 rfl ?_
                      exact z_iretW (x := (r_5.2.1, r_5.2.2.1, r_5.2.2.2.1, r_5.2.2.2.2.1, r_5.2.2.2.2.2, r_7.2)) (ex := ex) (fun z => wX6 a0 a1 a2 a3 a4 a5 a6 a7 a8 a9 ++ (wX4 T a1 S1 ++ (wX1 T a2 S2 ++ (wX1 T a3 S3 ++ (wX0 T a4 z.1 ++ (wX5 T a5 z.2.1 ++ (wX5 T a6 z.2.2.1 ++ (wX5 T a7 z.2.2.2.1 ++ (wX5 T a8 z.2.2.2.2.1 ++ wX3 T a9 z.2.2.2.2.2))))))))) C hr dX6_more_123 h rfl
                    · refine z_aload_n C dX6_more_106 rfl 0 rfl 107 rfl ?_
                      refine z_get C (in_X6_more_X6) 0 rfl rfl 8 (by decide) (List.mem_of_getElem? (i := 4) rfl) rfl rfl dX6_more_107 110 rfl ?_
                      refine z_get C (in_X6_more_X3) 32 rfl rfl 1 (by decide) (List.mem_of_getElem? (i := 6) rfl) rfl rfl dX6_more_110 113 rfl ?_
                      refine z_goto C 123 dX6_more_113 (by decide) ?_
                      exact z_iretW (x := (r_5.2.1, r_5.2.2.1, r_5.2.2.2.1, r_5.2.2.2.2.1, r_5.2.2.2.2.2, r_7.2)) (ex := ex) (fun z => wX6 a0 a1 a2 a3 a4 a5 a6 a7 a8 a9 ++ (wX4 T a1 S1 ++ (wX1 T a2 S2 ++ (wX1 T a3 S3 ++ (wX0 T a4 z.1 ++ (wX5 T a5 z.2.1 ++ (wX5 T a6 z.2.2.1 ++ (wX5 T a7 z.2.2.2.1 ++ (wX5 T a8 z.2.2.2.2.1 ++ wX3 T a9 z.2.2.2.2.2))))))))) C hr dX6_more_123 h rfl
                  · refine z_aload_n C dX6_more_92 rfl 0 rfl 93 rfl ?_
                    refine z_get C (in_X6_more_X6) 0 rfl rfl 8 (by decide) (List.mem_of_getElem? (i := 4) rfl) rfl rfl dX6_more_93 96 rfl ?_
                    refine z_get C (in_X6_more_X3) 32 rfl rfl 0 (by decide) (List.mem_of_getElem? (i := 5) rfl) rfl rfl dX6_more_96 99 rfl ?_
                    exact z_iretW (x := (r_5.2.1, r_5.2.2.1, r_5.2.2.2.1, r_5.2.2.2.2.1, r_5.2.2.2.2.2, r_7.2)) (ex := ex) (fun z => wX6 a0 a1 a2 a3 a4 a5 a6 a7 a8 a9 ++ (wX4 T a1 S1 ++ (wX1 T a2 S2 ++ (wX1 T a3 S3 ++ (wX0 T a4 z.1 ++ (wX5 T a5 z.2.1 ++ (wX5 T a6 z.2.2.1 ++ (wX5 T a7 z.2.2.2.1 ++ (wX5 T a8 z.2.2.2.2.1 ++ wX3 T a9 z.2.2.2.2.2))))))))) C hr dX6_more_99 h rfl
                · refine z_bipush C (-2) dX6_more_84 (by decide) 86 rfl ?_
                  exact z_iretW (x := (r_5.2.1, r_5.2.2.1, r_5.2.2.2.1, r_5.2.2.2.2.1, r_5.2.2.2.2.2, r_7.2)) (ex := ex) (fun z => wX6 a0 a1 a2 a3 a4 a5 a6 a7 a8 a9 ++ (wX4 T a1 S1 ++ (wX1 T a2 S2 ++ (wX1 T a3 S3 ++ (wX0 T a4 z.1 ++ (wX5 T a5 z.2.1 ++ (wX5 T a6 z.2.2.1 ++ (wX5 T a7 z.2.2.2.1 ++ (wX5 T a8 z.2.2.2.2.1 ++ wX3 T a9 z.2.2.2.2.2))))))))) C hr dX6_more_86 h rfl
            · refine z_tag (t := r_5.1) 7 (fun t => if t = 5 then a5 99 else if t = 6 then a6 99 else if t = 7 then a7 99 else a8 99) rfl h (fun h => ?_) (fun hx_2 h => ?_)
              · refine z_astore C [(0, .ref (a0 99)), (1, .int v1), (2, .int v2), (3, .int v3), (4, .int v4), (5, .ref (a7 99))] dX6_more_55 (Nat.le_of_ble_eq_true rfl) [1, 2, 3, 4, 5, 0] rfl 57 rfl ?_
                refine z_aload C dX6_more_57 5 rfl 59 rfl ?_
                refine z_get C (in_X6_more_X5) 26 rfl rfl 1 (by decide) (List.mem_of_getElem? (i := 3) rfl) rfl rfl dX6_more_59 62 rfl ?_
                refine z_if_eq C 84 dX6_more_62 (by decide) 65 rfl h (fun h => ?_) (fun h => ?_)
                · refine z_bipush C (-2) dX6_more_84 (by decide) 86 rfl ?_
                  exact z_iretW (x := (r_5.2.1, r_5.2.2.1, r_5.2.2.2.1, r_5.2.2.2.2.1, r_5.2.2.2.2.2, S9)) (ex := ex) (fun z => wX6 a0 a1 a2 a3 a4 a5 a6 a7 a8 a9 ++ (wX4 T a1 S1 ++ (wX1 T a2 S2 ++ (wX1 T a3 S3 ++ (wX0 T a4 z.1 ++ (wX5 T a5 z.2.1 ++ (wX5 T a6 z.2.2.1 ++ (wX5 T a7 z.2.2.2.1 ++ (wX5 T a8 z.2.2.2.2.1 ++ wX3 T a9 z.2.2.2.2.2))))))))) C hr dX6_more_86 h rfl
                · refine z_aload_n C dX6_more_65 rfl 0 rfl 66 rfl ?_
                  refine z_get C (in_X6_more_X6) 0 rfl rfl 8 (by decide) (List.mem_of_getElem? (i := 4) rfl) rfl rfl dX6_more_66 69 rfl ?_
                  refine z_aload_n C dX6_more_69 rfl 0 rfl 70 rfl ?_
                  refine z_get C (in_X6_more_X6) 0 rfl rfl 1 (by decide) (List.mem_of_getElem? (i := 1) rfl) rfl rfl dX6_more_70 73 rfl ?_
                  refine z_aload C dX6_more_73 5 rfl 75 rfl ?_
                  refine z_iload_n C dX6_more_75 rfl 1 rfl 76 rfl ?_
                  refine z_iload_n C dX6_more_76 rfl 2 rfl 77 rfl ?_
                  refine z_iload_n C dX6_more_77 rfl 3 rfl 78 rfl ?_
                  refine z_callW C (wX3 T a9 S9 ++ (wX1 T a2 S2 ++ wX5 T a7 r_5.2.2.2.2.1)) (wX6 a0 a1 a2 a3 a4 a5 a6 a7 a8 a9 ++ (wX4 T a1 S1 ++ (wX1 T a3 S3 ++ (wX0 T a4 r_5.2.1 ++ (wX5 T a5 r_5.2.2.1 ++ (wX5 T a6 r_5.2.2.2.1 ++ wX5 T a8 r_5.2.2.2.2.2)))))) (fun z => z.1) (fun z => wX3 T a9 z.2 ++ (wX1 T a2 S2 ++ wX5 T a7 r_5.2.2.2.2.1)) (fun z => wX6 a0 a1 a2 a3 a4 a5 a6 a7 a8 a9 ++ (wX4 T a1 S1 ++ (wX1 T a2 S2 ++ (wX1 T a3 S3 ++ (wX0 T a4 r_5.2.1 ++ (wX5 T a5 r_5.2.2.1 ++ (wX5 T a6 r_5.2.2.2.1 ++ (wX5 T a7 r_5.2.2.2.2.1 ++ (wX5 T a8 r_5.2.2.2.2.2 ++ wX3 T a9 z.2))))))))) (fun z h => c_X3_findWay l D T a9 a2 a7  S9 S2 r_5.2.2.2.2.1 v1 v2 v3 z h) ⟨rfl, rfl⟩ (z_cwV C 5 gX6_more_X3_findWay rfl rfl dd_X3_findWay ⟨(Nat.le_of_ble_eq_true rfl), (Nat.le_of_ble_eq_true rfl)⟩) (hD.zaddr rfl) [32, 33, 3, 4, 5, 6, 7, 26, 27, 28] [0, 1, 2, 8, 9, 10, 11, 12, 13, 14, 15, 16, 17, 18, 19, 20, 21, 22, 23, 24, 25, 29, 30, 31] [0, 1, 2, 26, 27, 28, 29, 30, 3, 4, 5, 6, 7, 8, 9, 10, 11, 12, 13, 14, 15, 16, 17, 18, 19, 20, 31, 32, 33, 21, 22, 23, 24, 25] rfl rfl rfl (by decide) (fun _ => rfl) (fun _ => ⟨a9 99, [.ref (a2 99), .ref (a7 99), .int v1, .int v2, .int v3], 2, 0, _, _, rfl, rfl, rfl, rfl, rfl⟩) (fun h => absurd rfl h) rfl (Nat.le_of_ble_eq_true rfl) dX6_more_78 81 rfl h (fun r_8 h => ?_)
                  refine z_if_ne C 87 dX6_more_81 (by decide) 84 rfl h (fun h => ?_) (fun h => ?_)
                  · refine z_iload C dX6_more_87 4 rfl 89 rfl ?_
                    refine z_if_ne C 100 dX6_more_89 (by decide) 92 rfl h (fun h => ?_) (fun h => ?_)
                    · refine z_iload C dX6_more_100 4 rfl 102 rfl ?_
                      refine z_iconst C 1 dX6_more_102 (by decide) 103 rfl ?_
                      refine z_icmp_ne C 116 dX6_more_103 (by decide) 106 rfl h (fun h => ?_) (fun h => ?_)
                      · refine z_aload_n C dX6_more_116 rfl 0 rfl 117 rfl ?_
                        refine z_get C (in_X6_more_X6) 0 rfl rfl 8 (by decide) (List.mem_of_getElem? (i := 4) rfl) rfl rfl dX6_more_117 120 rfl ?_
                        refine z_get C (in_X6_more_X3) 32 rfl rfl 2 (by decide) (List.mem_of_getElem? (i := 7) rfl) rfl rfl dX6_more_120 123 rfl ?_
                        exact z_iretW (x := (r_5.2.1, r_5.2.2.1, r_5.2.2.2.1, r_5.2.2.2.2.1, r_5.2.2.2.2.2, r_8.2)) (ex := ex) (fun z => wX6 a0 a1 a2 a3 a4 a5 a6 a7 a8 a9 ++ (wX4 T a1 S1 ++ (wX1 T a2 S2 ++ (wX1 T a3 S3 ++ (wX0 T a4 z.1 ++ (wX5 T a5 z.2.1 ++ (wX5 T a6 z.2.2.1 ++ (wX5 T a7 z.2.2.2.1 ++ (wX5 T a8 z.2.2.2.2.1 ++ wX3 T a9 z.2.2.2.2.2))))))))) C hr dX6_more_123 h rfl
                      · refine z_aload_n C dX6_more_106 rfl 0 rfl 107 rfl ?_
                        refine z_get C (in_X6_more_X6) 0 rfl rfl 8 (by decide) (List.mem_of_getElem? (i := 4) rfl) rfl rfl dX6_more_107 110 rfl ?_
                        refine z_get C (in_X6_more_X3) 32 rfl rfl 1 (by decide) (List.mem_of_getElem? (i := 6) rfl) rfl rfl dX6_more_110 113 rfl ?_
                        refine z_goto C 123 dX6_more_113 (by decide) ?_
                        exact z_iretW (x := (r_5.2.1, r_5.2.2.1, r_5.2.2.2.1, r_5.2.2.2.2.1, r_5.2.2.2.2.2, r_8.2)) (ex := ex) (fun z => wX6 a0 a1 a2 a3 a4 a5 a6 a7 a8 a9 ++ (wX4 T a1 S1 ++ (wX1 T a2 S2 ++ (wX1 T a3 S3 ++ (wX0 T a4 z.1 ++ (wX5 T a5 z.2.1 ++ (wX5 T a6 z.2.2.1 ++ (wX5 T a7 z.2.2.2.1 ++ (wX5 T a8 z.2.2.2.2.1 ++ wX3 T a9 z.2.2.2.2.2))))))))) C hr dX6_more_123 h rfl
                    · refine z_aload_n C dX6_more_92 rfl 0 rfl 93 rfl ?_
                      refine z_get C (in_X6_more_X6) 0 rfl rfl 8 (by decide) (List.mem_of_getElem? (i := 4) rfl) rfl rfl dX6_more_93 96 rfl ?_
                      refine z_get C (in_X6_more_X3) 32 rfl rfl 0 (by decide) (List.mem_of_getElem? (i := 5) rfl) rfl rfl dX6_more_96 99 rfl ?_
                      exact z_iretW (x := (r_5.2.1, r_5.2.2.1, r_5.2.2.2.1, r_5.2.2.2.2.1, r_5.2.2.2.2.2, r_8.2)) (ex := ex) (fun z => wX6 a0 a1 a2 a3 a4 a5 a6 a7 a8 a9 ++ (wX4 T a1 S1 ++ (wX1 T a2 S2 ++ (wX1 T a3 S3 ++ (wX0 T a4 z.1 ++ (wX5 T a5 z.2.1 ++ (wX5 T a6 z.2.2.1 ++ (wX5 T a7 z.2.2.2.1 ++ (wX5 T a8 z.2.2.2.2.1 ++ wX3 T a9 z.2.2.2.2.2))))))))) C hr dX6_more_99 h rfl
                  · refine z_bipush C (-2) dX6_more_84 (by decide) 86 rfl ?_
                    exact z_iretW (x := (r_5.2.1, r_5.2.2.1, r_5.2.2.2.1, r_5.2.2.2.2.1, r_5.2.2.2.2.2, r_8.2)) (ex := ex) (fun z => wX6 a0 a1 a2 a3 a4 a5 a6 a7 a8 a9 ++ (wX4 T a1 S1 ++ (wX1 T a2 S2 ++ (wX1 T a3 S3 ++ (wX0 T a4 z.1 ++ (wX5 T a5 z.2.1 ++ (wX5 T a6 z.2.2.1 ++ (wX5 T a7 z.2.2.2.1 ++ (wX5 T a8 z.2.2.2.2.1 ++ wX3 T a9 z.2.2.2.2.2))))))))) C hr dX6_more_86 h rfl
              · refine z_ref (b := a8 99) (by show (if _ = _ then _ else _) = _; rw [if_neg hx_0, if_neg hx_1, if_neg hx_2]) ?_
                refine z_astore C [(0, .ref (a0 99)), (1, .int v1), (2, .int v2), (3, .int v3), (4, .int v4), (5, .ref (a8 99))] dX6_more_55 (Nat.le_of_ble_eq_true rfl) [1, 2, 3, 4, 5, 0] rfl 57 rfl ?_
                refine z_aload C dX6_more_57 5 rfl 59 rfl ?_
                refine z_get C (in_X6_more_X5) 29 rfl rfl 1 (by decide) (List.mem_of_getElem? (i := 3) rfl) rfl rfl dX6_more_59 62 rfl ?_
                refine z_if_eq C 84 dX6_more_62 (by decide) 65 rfl h (fun h => ?_) (fun h => ?_)
                · refine z_bipush C (-2) dX6_more_84 (by decide) 86 rfl ?_
                  exact z_iretW (x := (r_5.2.1, r_5.2.2.1, r_5.2.2.2.1, r_5.2.2.2.2.1, r_5.2.2.2.2.2, S9)) (ex := ex) (fun z => wX6 a0 a1 a2 a3 a4 a5 a6 a7 a8 a9 ++ (wX4 T a1 S1 ++ (wX1 T a2 S2 ++ (wX1 T a3 S3 ++ (wX0 T a4 z.1 ++ (wX5 T a5 z.2.1 ++ (wX5 T a6 z.2.2.1 ++ (wX5 T a7 z.2.2.2.1 ++ (wX5 T a8 z.2.2.2.2.1 ++ wX3 T a9 z.2.2.2.2.2))))))))) C hr dX6_more_86 h rfl
                · refine z_aload_n C dX6_more_65 rfl 0 rfl 66 rfl ?_
                  refine z_get C (in_X6_more_X6) 0 rfl rfl 8 (by decide) (List.mem_of_getElem? (i := 4) rfl) rfl rfl dX6_more_66 69 rfl ?_
                  refine z_aload_n C dX6_more_69 rfl 0 rfl 70 rfl ?_
                  refine z_get C (in_X6_more_X6) 0 rfl rfl 1 (by decide) (List.mem_of_getElem? (i := 1) rfl) rfl rfl dX6_more_70 73 rfl ?_
                  refine z_aload C dX6_more_73 5 rfl 75 rfl ?_
                  refine z_iload_n C dX6_more_75 rfl 1 rfl 76 rfl ?_
                  refine z_iload_n C dX6_more_76 rfl 2 rfl 77 rfl ?_
                  refine z_iload_n C dX6_more_77 rfl 3 rfl 78 rfl ?_
                  refine z_callW C (wX3 T a9 S9 ++ (wX1 T a2 S2 ++ wX5 T a8 r_5.2.2.2.2.2)) (wX6 a0 a1 a2 a3 a4 a5 a6 a7 a8 a9 ++ (wX4 T a1 S1 ++ (wX1 T a3 S3 ++ (wX0 T a4 r_5.2.1 ++ (wX5 T a5 r_5.2.2.1 ++ (wX5 T a6 r_5.2.2.2.1 ++ wX5 T a7 r_5.2.2.2.2.1)))))) (fun z => z.1) (fun z => wX3 T a9 z.2 ++ (wX1 T a2 S2 ++ wX5 T a8 r_5.2.2.2.2.2)) (fun z => wX6 a0 a1 a2 a3 a4 a5 a6 a7 a8 a9 ++ (wX4 T a1 S1 ++ (wX1 T a2 S2 ++ (wX1 T a3 S3 ++ (wX0 T a4 r_5.2.1 ++ (wX5 T a5 r_5.2.2.1 ++ (wX5 T a6 r_5.2.2.2.1 ++ (wX5 T a7 r_5.2.2.2.2.1 ++ (wX5 T a8 r_5.2.2.2.2.2 ++ wX3 T a9 z.2))))))))) (fun z h => c_X3_findWay l D T a9 a2 a8  S9 S2 r_5.2.2.2.2.2 v1 v2 v3 z h) ⟨rfl, rfl⟩ (z_cwV C 5 gX6_more_X3_findWay rfl rfl dd_X3_findWay ⟨(Nat.le_of_ble_eq_true rfl), (Nat.le_of_ble_eq_true rfl)⟩) (hD.zaddr rfl) [32, 33, 3, 4, 5, 6, 7, 29, 30, 31] [0, 1, 2, 8, 9, 10, 11, 12, 13, 14, 15, 16, 17, 18, 19, 20, 21, 22, 23, 24, 25, 26, 27, 28] [0, 1, 2, 26, 27, 28, 29, 30, 3, 4, 5, 6, 7, 8, 9, 10, 11, 12, 13, 14, 15, 16, 17, 18, 19, 20, 21, 22, 23, 31, 32, 33, 24, 25] rfl rfl rfl (by decide) (fun _ => rfl) (fun _ => ⟨a9 99, [.ref (a2 99), .ref (a8 99), .int v1, .int v2, .int v3], 2, 0, _, _, rfl, rfl, rfl, rfl, rfl⟩) (fun h => absurd rfl h) rfl (Nat.le_of_ble_eq_true rfl) dX6_more_78 81 rfl h (fun r_9 h => ?_)
                  refine z_if_ne C 87 dX6_more_81 (by decide) 84 rfl h (fun h => ?_) (fun h => ?_)
                  · refine z_iload C dX6_more_87 4 rfl 89 rfl ?_
                    refine z_if_ne C 100 dX6_more_89 (by decide) 92 rfl h (fun h => ?_) (fun h => ?_)
                    · refine z_iload C dX6_more_100 4 rfl 102 rfl ?_
                      refine z_iconst C 1 dX6_more_102 (by decide) 103 rfl ?_
                      refine z_icmp_ne C 116 dX6_more_103 (by decide) 106 rfl h (fun h => ?_) (fun h => ?_)
                      · refine z_aload_n C dX6_more_116 rfl 0 rfl 117 rfl ?_
                        refine z_get C (in_X6_more_X6) 0 rfl rfl 8 (by decide) (List.mem_of_getElem? (i := 4) rfl) rfl rfl dX6_more_117 120 rfl ?_
                        refine z_get C (in_X6_more_X3) 32 rfl rfl 2 (by decide) (List.mem_of_getElem? (i := 7) rfl) rfl rfl dX6_more_120 123 rfl ?_
                        exact z_iretW (x := (r_5.2.1, r_5.2.2.1, r_5.2.2.2.1, r_5.2.2.2.2.1, r_5.2.2.2.2.2, r_9.2)) (ex := ex) (fun z => wX6 a0 a1 a2 a3 a4 a5 a6 a7 a8 a9 ++ (wX4 T a1 S1 ++ (wX1 T a2 S2 ++ (wX1 T a3 S3 ++ (wX0 T a4 z.1 ++ (wX5 T a5 z.2.1 ++ (wX5 T a6 z.2.2.1 ++ (wX5 T a7 z.2.2.2.1 ++ (wX5 T a8 z.2.2.2.2.1 ++ wX3 T a9 z.2.2.2.2.2))))))))) C hr dX6_more_123 h rfl
                      · refine z_aload_n C dX6_more_106 rfl 0 rfl 107 rfl ?_
                        refine z_get C (in_X6_more_X6) 0 rfl rfl 8 (by decide) (List.mem_of_getElem? (i := 4) rfl) rfl rfl dX6_more_107 110 rfl ?_
                        refine z_get C (in_X6_more_X3) 32 rfl rfl 1 (by decide) (List.mem_of_getElem? (i := 6) rfl) rfl rfl dX6_more_110 113 rfl ?_
                        refine z_goto C 123 dX6_more_113 (by decide) ?_
                        exact z_iretW (x := (r_5.2.1, r_5.2.2.1, r_5.2.2.2.1, r_5.2.2.2.2.1, r_5.2.2.2.2.2, r_9.2)) (ex := ex) (fun z => wX6 a0 a1 a2 a3 a4 a5 a6 a7 a8 a9 ++ (wX4 T a1 S1 ++ (wX1 T a2 S2 ++ (wX1 T a3 S3 ++ (wX0 T a4 z.1 ++ (wX5 T a5 z.2.1 ++ (wX5 T a6 z.2.2.1 ++ (wX5 T a7 z.2.2.2.1 ++ (wX5 T a8 z.2.2.2.2.1 ++ wX3 T a9 z.2.2.2.2.2))))))))) C hr dX6_more_123 h rfl
                    · refine z_aload_n C dX6_more_92 rfl 0 rfl 93 rfl ?_
                      refine z_get C (in_X6_more_X6) 0 rfl rfl 8 (by decide) (List.mem_of_getElem? (i := 4) rfl) rfl rfl dX6_more_93 96 rfl ?_
                      refine z_get C (in_X6_more_X3) 32 rfl rfl 0 (by decide) (List.mem_of_getElem? (i := 5) rfl) rfl rfl dX6_more_96 99 rfl ?_
                      exact z_iretW (x := (r_5.2.1, r_5.2.2.1, r_5.2.2.2.1, r_5.2.2.2.2.1, r_5.2.2.2.2.2, r_9.2)) (ex := ex) (fun z => wX6 a0 a1 a2 a3 a4 a5 a6 a7 a8 a9 ++ (wX4 T a1 S1 ++ (wX1 T a2 S2 ++ (wX1 T a3 S3 ++ (wX0 T a4 z.1 ++ (wX5 T a5 z.2.1 ++ (wX5 T a6 z.2.2.1 ++ (wX5 T a7 z.2.2.2.1 ++ (wX5 T a8 z.2.2.2.2.1 ++ wX3 T a9 z.2.2.2.2.2))))))))) C hr dX6_more_99 h rfl
                  · refine z_bipush C (-2) dX6_more_84 (by decide) 86 rfl ?_
                    exact z_iretW (x := (r_5.2.1, r_5.2.2.1, r_5.2.2.2.1, r_5.2.2.2.2.1, r_5.2.2.2.2.2, r_9.2)) (ex := ex) (fun z => wX6 a0 a1 a2 a3 a4 a5 a6 a7 a8 a9 ++ (wX4 T a1 S1 ++ (wX1 T a2 S2 ++ (wX1 T a3 S3 ++ (wX0 T a4 z.1 ++ (wX5 T a5 z.2.1 ++ (wX5 T a6 z.2.2.1 ++ (wX5 T a7 z.2.2.2.1 ++ (wX5 T a8 z.2.2.2.2.1 ++ wX3 T a9 z.2.2.2.2.2))))))))) C hr dX6_more_86 h rfl
        · refine z_iconst C (-1) dX6_more_48 (by decide) 49 rfl ?_
          exact z_iretW (x := (S4, S5, S6, S7, S8, S9)) (ex := ex) (fun z => wX6 a0 a1 a2 a3 a4 a5 a6 a7 a8 a9 ++ (wX4 T a1 S1 ++ (wX1 T a2 S2 ++ (wX1 T a3 S3 ++ (wX0 T a4 z.1 ++ (wX5 T a5 z.2.1 ++ (wX5 T a6 z.2.2.1 ++ (wX5 T a7 z.2.2.2.1 ++ (wX5 T a8 z.2.2.2.2.1 ++ wX3 T a9 z.2.2.2.2.2))))))))) C hr dX6_more_49 h rfl

end
/-! StreamTree.best (III)I -/
section
variable {p : Program} {l : Launch} {e : Env} {R : Room} {s : State} {m : MethodId} {args : Array Value} {below : List Frame} {meth : Method} {c : Code} {Q : State → Prop} {A : Nat → Prop} {D : va_G} {T : Nat → ClassId} {a0 : Nat → Nat} {a1 : Nat → Nat} {a2 : Nat → Nat} {a3 : Nat → Nat} {a4 : Nat → Nat} {a5 : Nat → Nat} {a6 : Nat → Nat} {a7 : Nat → Nat} {a8 : Nat → Nat} {a9 : Nat → Nat}
theorem in_X6_best_X1 : ∀ w ∈ u_ws RX1 TX1 10, w ∈ wsX6_best := fun _ h => (List.mem_cons_of_mem _ (List.mem_append_left _ (List.mem_append_right _ h)))
theorem in_X6_best_X6 : ∀ w ∈ u_ws RX6 TX6 9, w ∈ wsX6_best := fun _ h => (List.mem_cons_of_mem _ (List.mem_append_left _ (List.mem_append_left _ (List.mem_append_right _ h))))
def f_X6_best (S1 : Nat → Nat → Int32) (S2 : Nat → Nat → Int32) (S3 : Nat → Nat → Int32) (S4 : Nat → Nat → Int32) (S5 : Nat → Nat → Int32) (S6 : Nat → Nat → Int32) (S7 : Nat → Nat → Int32) (S8 : Nat → Nat → Int32) (S9 : Nat → Nat → Int32) (v1 : Int32) (v2 : Int32) (v3 : Int32) : Option (Int32 × (Nat → Nat → Int32)) := (f_X1_hasCellOrSource S2 v1 v2).bind fun r_1 => if r_1 = 0 then (some ((-1), S4)) else ((f_X1_allPlaces S2).bind fun r_2 => (f_X6_isWithin v3 1 r_2).bind fun r_3 => if r_3 = 0 then (some ((-1), S4)) else ((f_X6_cellOf v1 v2).bind fun r_4 => zix r_4 240 fun _ => if (S2 9 (Int32.toNatClampNeg r_4)) = 0 then ((f_X6_knownBests S1 S2 S3 S4 S5 S6 S7 S8 S9).bind fun r_5 => (f_X6_cellOf v1 v2).bind fun r_6 => (f_X0_inkOf r_5 r_6 v3).bind fun r_7 => some (r_7, r_5)) else (some ((-1), S4))))
theorem dd_X6_best : RX6 ≠ "java/lang/invoke/MethodHandle" ∧ RX6 ≠ "java/lang/invoke/VarHandle" ∧ (parseMethodDescriptor yX6_best.desc).map (fun d => d.parameters.length) = some 3 := by decide +kernel
set_option maxHeartbeats 4000000 in
set_option maxRecDepth 100000 in
theorem c_X6_best (l : Launch) (D : va_G) (T : Nat → ClassId) (a0 : Nat → Nat) (a1 : Nat → Nat) (a2 : Nat → Nat) (a3 : Nat → Nat) (a4 : Nat → Nat) (a5 : Nat → Nat) (a6 : Nat → Nat) (a7 : Nat → Nat) (a8 : Nat → Nat) (a9 : Nat → Nat) (S1 : Nat → Nat → Int32) (S2 : Nat → Nat → Int32) (S3 : Nat → Nat → Int32) (S4 : Nat → Nat → Int32) (S5 : Nat → Nat → Int32) (S6 : Nat → Nat → Int32) (S7 : Nat → Nat → Int32) (S8 : Nat → Nat → Int32) (S9 : Nat → Nat → Int32) (v1 : Int32) (v2 : Int32) (v3 : Int32) (ex : Int32 × (Nat → Nat → Int32)) (h : f_X6_best S1 S2 S3 S4 S5 S6 S7 S8 S9 v1 v2 v3 = some ex) : zWI l yX6_best wsX6_best ({ frames := 6, cells := 0, slots := 0, locals := 148 } : Room) D T [.ref (a0 99), .int v1, .int v2, .int v3] (wX6 a0 a1 a2 a3 a4 a5 a6 a7 a8 a9 ++ (wX4 T a1 S1 ++ (wX1 T a2 S2 ++ (wX1 T a3 S3 ++ (wX0 T a4 S4 ++ (wX5 T a5 S5 ++ (wX5 T a6 S6 ++ (wX5 T a7 S7 ++ (wX5 T a8 S8 ++ wX3 T a9 S9))))))))) ex.1 (wX6 a0 a1 a2 a3 a4 a5 a6 a7 a8 a9 ++ (wX4 T a1 S1 ++ (wX1 T a2 S2 ++ (wX1 T a3 S3 ++ (wX0 T a4 ex.2 ++ (wX5 T a5 S5 ++ (wX5 T a6 S6 ++ (wX5 T a7 S7 ++ (wX5 T a8 S8 ++ wX3 T a9 S9))))))))) := by
  refine z_begin (cc := cX6_best) (nL := 4) (own := RX6) (fr := 6) (lc := 148) (ret := some .int) (by decide) rfl (Nat.le_of_ble_eq_true rfl) (zA (wX6 a0 a1 a2 a3 a4 a5 a6 a7 a8 a9 ++ (wX4 T a1 S1 ++ (wX1 T a2 S2 ++ (wX1 T a3 S3 ++ (wX0 T a4 S4 ++ (wX5 T a5 S5 ++ (wX5 T a6 S6 ++ (wX5 T a7 S7 ++ (wX5 T a8 S8 ++ wX3 T a9 S9)))))))))) rfl [(0, .ref (a0 99)), (1, .int v1), (2, .int v2), (3, .int v3)] rfl ⟨rfl, rfl⟩ rfl ?_
  intro p e s m args below meth c C hr hD
  have hD := hD.zself
  unfold f_X6_best at h
  refine z_aload_n C dX6_best_0 rfl 0 rfl 1 rfl ?_
  refine z_get C (in_X6_best_X6) 0 rfl rfl 1 (by decide) (List.mem_of_getElem? (i := 1) rfl) rfl rfl dX6_best_1 4 rfl ?_
  refine z_iload_n C dX6_best_4 rfl 1 rfl 5 rfl ?_
  refine z_iload_n C dX6_best_5 rfl 2 rfl 6 rfl ?_
  refine z_callR C (wX1 T a2 S2) (fun v h => c_X1_hasCellOrSource l D T a2  S2 v1 v2 v h) ⟨rfl, rfl⟩ (z_cwV C 2 gX6_best_X1_hasCellOrSource rfl rfl dd_X1_hasCellOrSource ⟨(Nat.le_of_ble_eq_true rfl), (Nat.le_of_ble_eq_true rfl)⟩) (hD.zaddr rfl) [3, 4, 5, 6, 7] rfl rfl (fun _ => ⟨a2 99, [.int v1, .int v2], 1, 0, _, _, rfl, rfl, rfl, rfl, rfl⟩) (fun h => absurd rfl h) rfl (Nat.le_of_ble_eq_true rfl) dX6_best_6 9 rfl h (fun r_1 h => ?_)
  refine z_if_eq C 43 dX6_best_9 (by decide) 12 rfl h (fun h => ?_) (fun h => ?_)
  · refine z_iconst C (-1) dX6_best_43 (by decide) 44 rfl ?_
    exact z_iretW (x := S4) (ex := ex) (fun z => wX6 a0 a1 a2 a3 a4 a5 a6 a7 a8 a9 ++ (wX4 T a1 S1 ++ (wX1 T a2 S2 ++ (wX1 T a3 S3 ++ (wX0 T a4 z ++ (wX5 T a5 S5 ++ (wX5 T a6 S6 ++ (wX5 T a7 S7 ++ (wX5 T a8 S8 ++ wX3 T a9 S9))))))))) C hr dX6_best_44 h rfl
  · refine z_iload_n C dX6_best_12 rfl 3 rfl 13 rfl ?_
    refine z_iconst C 1 dX6_best_13 (by decide) 14 rfl ?_
    refine z_aload_n C dX6_best_14 rfl 0 rfl 15 rfl ?_
    refine z_get C (in_X6_best_X6) 0 rfl rfl 1 (by decide) (List.mem_of_getElem? (i := 1) rfl) rfl rfl dX6_best_15 18 rfl ?_
    refine z_callR C (wX1 T a2 S2) (fun v h => c_X1_allPlaces l D T a2  S2  v h) ⟨rfl, rfl⟩ (z_cwV C 0 gX6_best_X1_allPlaces rfl rfl dd_X1_allPlaces ⟨(Nat.le_of_ble_eq_true rfl), (Nat.le_of_ble_eq_true rfl)⟩) (hD.zaddr rfl) [3, 4, 5, 6, 7] rfl rfl (fun _ => ⟨a2 99, [], 1, 0, _, _, rfl, rfl, rfl, rfl, rfl⟩) (fun h => absurd rfl h) rfl (Nat.le_of_ble_eq_true rfl) dX6_best_18 21 rfl h (fun r_2 h => ?_)
    refine z_callR C ([]) (fun v h => c_X6_isWithin l D T    v3 1 r_2 v h) ⟨rfl, rfl⟩ (z_cwS C 3 gX6_best_X6_isWithin rfl dd_X6_isWithin ⟨(Nat.le_of_ble_eq_true rfl), (Nat.le_of_ble_eq_true rfl)⟩) (hD.zaddr rfl) [] rfl rfl (fun h => absurd h (by decide)) (fun _ => rfl) rfl (Nat.le_of_ble_eq_true rfl) dX6_best_21 24 rfl h (fun r_3 h => ?_)
    refine z_if_eq C 43 dX6_best_24 (by decide) 27 rfl h (fun h => ?_) (fun h => ?_)
    · refine z_iconst C (-1) dX6_best_43 (by decide) 44 rfl ?_
      exact z_iretW (x := S4) (ex := ex) (fun z => wX6 a0 a1 a2 a3 a4 a5 a6 a7 a8 a9 ++ (wX4 T a1 S1 ++ (wX1 T a2 S2 ++ (wX1 T a3 S3 ++ (wX0 T a4 z ++ (wX5 T a5 S5 ++ (wX5 T a6 S6 ++ (wX5 T a7 S7 ++ (wX5 T a8 S8 ++ wX3 T a9 S9))))))))) C hr dX6_best_44 h rfl
    · refine z_aload_n C dX6_best_27 rfl 0 rfl 28 rfl ?_
      refine z_get C (in_X6_best_X6) 0 rfl rfl 1 (by decide) (List.mem_of_getElem? (i := 1) rfl) rfl rfl dX6_best_28 31 rfl ?_
      refine z_get C (in_X6_best_X1) 3 rfl rfl 9 (by decide) (List.mem_of_getElem? (i := 2) rfl) rfl rfl dX6_best_31 34 rfl ?_
      refine z_iload_n C dX6_best_34 rfl 1 rfl 35 rfl ?_
      refine z_iload_n C dX6_best_35 rfl 2 rfl 36 rfl ?_
      refine z_callR C ([]) (fun v h => c_X6_cellOf l D T    v1 v2 v h) ⟨rfl, rfl⟩ (z_cwS C 2 gX6_best_X6_cellOf rfl dd_X6_cellOf ⟨(Nat.le_of_ble_eq_true rfl), (Nat.le_of_ble_eq_true rfl)⟩) (hD.zaddr rfl) [] rfl rfl (fun h => absurd h (by decide)) (fun _ => rfl) rfl (Nat.le_of_ble_eq_true rfl) dX6_best_36 39 rfl h (fun r_4 h => ?_)
      refine z_zald C 7 rfl rfl dX6_best_39 40 rfl h (fun h => ?_)
      refine z_if_eq C 45 dX6_best_40 (by decide) 43 rfl h (fun h => ?_) (fun h => ?_)
      · refine z_aload_n C dX6_best_45 rfl 0 rfl 46 rfl ?_
        refine z_callA C (wX6 a0 a1 a2 a3 a4 a5 a6 a7 a8 a9 ++ (wX4 T a1 S1 ++ (wX1 T a2 S2 ++ (wX1 T a3 S3 ++ (wX0 T a4 S4 ++ (wX5 T a5 S5 ++ (wX5 T a6 S6 ++ (wX5 T a7 S7 ++ (wX5 T a8 S8 ++ wX3 T a9 S9))))))))) (([] : va_W)) (fun z => a4 99) (fun z => wX6 a0 a1 a2 a3 a4 a5 a6 a7 a8 a9 ++ (wX4 T a1 S1 ++ (wX1 T a2 S2 ++ (wX1 T a3 S3 ++ (wX0 T a4 z ++ (wX5 T a5 S5 ++ (wX5 T a6 S6 ++ (wX5 T a7 S7 ++ (wX5 T a8 S8 ++ wX3 T a9 S9))))))))) (fun z => wX6 a0 a1 a2 a3 a4 a5 a6 a7 a8 a9 ++ (wX4 T a1 S1 ++ (wX1 T a2 S2 ++ (wX1 T a3 S3 ++ (wX0 T a4 z ++ (wX5 T a5 S5 ++ (wX5 T a6 S6 ++ (wX5 T a7 S7 ++ (wX5 T a8 S8 ++ wX3 T a9 S9))))))))) (fun z h => c_X6_knownBests l D T a0 a1 a2 a3 a4 a5 a6 a7 a8 a9  S1 S2 S3 S4 S5 S6 S7 S8 S9  z h) ⟨rfl, rfl⟩ (z_cwV C 0 gX6_best_X6_knownBests rfl rfl dd_X6_knownBests ⟨(Nat.le_of_ble_eq_true rfl), (Nat.le_of_ble_eq_true rfl)⟩) (hD.zaddr rfl) [0, 1, 2, 3, 4, 5, 6, 7, 8, 9, 10, 11, 12, 13, 14, 15, 16, 17, 18, 19, 20, 21, 22, 23, 24, 25, 26, 27, 28, 29, 30, 31, 32, 33] [] [0, 1, 2, 3, 4, 5, 6, 7, 8, 9, 10, 11, 12, 13, 14, 15, 16, 17, 18, 19, 20, 21, 22, 23, 24, 25, 26, 27, 28, 29, 30, 31, 32, 33] rfl rfl rfl (by decide) (fun _ => rfl) (fun _ => ⟨a0 99, [], 5, 0, _, _, rfl, rfl, rfl, rfl, rfl⟩) (fun h => absurd rfl h) rfl (Nat.le_of_ble_eq_true rfl) dX6_best_46 49 rfl h (fun r_5 h => ?_)
        refine z_iload_n C dX6_best_49 rfl 1 rfl 50 rfl ?_
        refine z_iload_n C dX6_best_50 rfl 2 rfl 51 rfl ?_
        refine z_callR C ([]) (fun v h => c_X6_cellOf l D T    v1 v2 v h) ⟨rfl, rfl⟩ (z_cwS C 2 gX6_best_X6_cellOf rfl dd_X6_cellOf ⟨(Nat.le_of_ble_eq_true rfl), (Nat.le_of_ble_eq_true rfl)⟩) (hD.zaddr rfl) [] rfl rfl (fun h => absurd h (by decide)) (fun _ => rfl) rfl (Nat.le_of_ble_eq_true rfl) dX6_best_51 54 rfl h (fun r_6 h => ?_)
        refine z_iload_n C dX6_best_54 rfl 3 rfl 55 rfl ?_
        refine z_callR C (wX0 T a4 r_5) (fun v h => c_X0_inkOf l D T a4  r_5 r_6 v3 v h) ⟨rfl, rfl⟩ (z_cwV C 2 gX6_best_X0_inkOf rfl rfl dd_X0_inkOf ⟨(Nat.le_of_ble_eq_true rfl), (Nat.le_of_ble_eq_true rfl)⟩) (hD.zaddr rfl) [13, 14, 15, 16, 17, 18, 19] rfl rfl (fun _ => ⟨a4 99, [.int r_6, .int v3], 0, 0, _, _, rfl, rfl, rfl, rfl, rfl⟩) (fun h => absurd rfl h) rfl (Nat.le_of_ble_eq_true rfl) dX6_best_55 58 rfl h (fun r_7 h => ?_)
        exact z_iretW (x := r_5) (ex := ex) (fun z => wX6 a0 a1 a2 a3 a4 a5 a6 a7 a8 a9 ++ (wX4 T a1 S1 ++ (wX1 T a2 S2 ++ (wX1 T a3 S3 ++ (wX0 T a4 z ++ (wX5 T a5 S5 ++ (wX5 T a6 S6 ++ (wX5 T a7 S7 ++ (wX5 T a8 S8 ++ wX3 T a9 S9))))))))) C hr dX6_best_58 h rfl
      · refine z_iconst C (-1) dX6_best_43 (by decide) 44 rfl ?_
        exact z_iretW (x := S4) (ex := ex) (fun z => wX6 a0 a1 a2 a3 a4 a5 a6 a7 a8 a9 ++ (wX4 T a1 S1 ++ (wX1 T a2 S2 ++ (wX1 T a3 S3 ++ (wX0 T a4 z ++ (wX5 T a5 S5 ++ (wX5 T a6 S6 ++ (wX5 T a7 S7 ++ (wX5 T a8 S8 ++ wX3 T a9 S9))))))))) C hr dX6_best_44 h rfl

end
