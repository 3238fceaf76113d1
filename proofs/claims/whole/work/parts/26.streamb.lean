/-! StreamTree.join (III)I -/
section
variable {p : Program} {l : Launch} {e : Env} {R : Room} {s : State} {m : MethodId} {args : Array Value} {below : List Frame} {meth : Method} {c : Code} {Q : State → Prop} {A : Nat → Prop} {D : va_G} {T : Nat → ClassId} {a0 : Nat → Nat} {a1 : Nat → Nat} {a2 : Nat → Nat} {a3 : Nat → Nat} {a4 : Nat → Nat} {a5 : Nat → Nat} {a6 : Nat → Nat} {a7 : Nat → Nat} {a8 : Nat → Nat} {a9 : Nat → Nat}
theorem in_X6_join_X6 : ∀ w ∈ u_ws RX6 TX6 9, w ∈ wsX6_join := fun _ h => (List.mem_cons_of_mem _ (List.mem_append_left _ (List.mem_append_left _ (List.mem_append_right _ h))))
theorem in_X6_join_X5 : ∀ w ∈ u_ws RX5 TX5 5, w ∈ wsX6_join := fun _ h => (List.mem_cons_of_mem _ (List.mem_append_left _ (List.mem_append_left _ (List.mem_append_left _ (List.mem_append_right _ h)))))
def f_X6_join (S1 : Nat → Nat → Int32) (S2 : Nat → Nat → Int32) (S3 : Nat → Nat → Int32) (S4 : Nat → Nat → Int32) (S5 : Nat → Nat → Int32) (S6 : Nat → Nat → Int32) (S7 : Nat → Nat → Int32) (S8 : Nat → Nat → Int32) (S9 : Nat → Nat → Int32) (v1 : Int32) (v2 : Int32) (v3 : Int32) : Option (Int32 × (Nat → Nat → Int32) × (Nat → Nat → Int32) × (Nat → Nat → Int32) × (Nat → Nat → Int32) × (Nat → Nat → Int32)) := (f_X6_isTreeManner v1).bind fun r_1 => if r_1 = 0 then (some ((-1), S4, S5, S6, S7, S8)) else (if v2 < (-1) then (some ((-1), S4, S5, S6, S7, S8)) else ((f_X6_isWithin v3 0 2).bind fun r_2 => if r_2 = 0 then (some ((-1), S4, S5, S6, S7, S8)) else ((f_X6_treeOf S1 S2 S3 S4 S5 S6 S7 S8 S9 v1).bind fun r_3 => if r_3.1 = 5 then (if (r_3.2.2.1 1 0) = 0 then (some ((-2), r_3.2.1, r_3.2.2.1, r_3.2.2.2.1, r_3.2.2.2.2.1, r_3.2.2.2.2.2)) else (if v2 = (-1) then ((f_X5_joins r_3.2.2.1 S2).bind fun r_5 => some (r_5, r_3.2.1, r_3.2.2.1, r_3.2.2.2.1, r_3.2.2.2.2.1, r_3.2.2.2.2.2)) else ((f_X5_tellJoin r_3.2.2.1 S2 v2 v3).bind fun r_4 => some (r_4, r_3.2.1, r_3.2.2.1, r_3.2.2.2.1, r_3.2.2.2.2.1, r_3.2.2.2.2.2)))) else (if r_3.1 = 6 then (if (r_3.2.2.2.1 1 0) = 0 then (some ((-2), r_3.2.1, r_3.2.2.1, r_3.2.2.2.1, r_3.2.2.2.2.1, r_3.2.2.2.2.2)) else (if v2 = (-1) then ((f_X5_joins r_3.2.2.2.1 S2).bind fun r_7 => some (r_7, r_3.2.1, r_3.2.2.1, r_3.2.2.2.1, r_3.2.2.2.2.1, r_3.2.2.2.2.2)) else ((f_X5_tellJoin r_3.2.2.2.1 S2 v2 v3).bind fun r_6 => some (r_6, r_3.2.1, r_3.2.2.1, r_3.2.2.2.1, r_3.2.2.2.2.1, r_3.2.2.2.2.2)))) else (if (r_3.2.2.2.2.2 1 0) = 0 then (some ((-2), r_3.2.1, r_3.2.2.1, r_3.2.2.2.1, r_3.2.2.2.2.1, r_3.2.2.2.2.2)) else (if v2 = (-1) then ((f_X5_joins r_3.2.2.2.2.2 S2).bind fun r_9 => some (r_9, r_3.2.1, r_3.2.2.1, r_3.2.2.2.1, r_3.2.2.2.2.1, r_3.2.2.2.2.2)) else ((f_X5_tellJoin r_3.2.2.2.2.2 S2 v2 v3).bind fun r_8 => some (r_8, r_3.2.1, r_3.2.2.1, r_3.2.2.2.1, r_3.2.2.2.2.1, r_3.2.2.2.2.2))))))))
theorem dd_X6_join : RX6 ≠ "java/lang/invoke/MethodHandle" ∧ RX6 ≠ "java/lang/invoke/VarHandle" ∧ (parseMethodDescriptor yX6_join.desc).map (fun d => d.parameters.length) = some 3 := by decide +kernel
set_option maxHeartbeats 4000000 in
set_option maxRecDepth 100000 in
theorem c_X6_join (l : Launch) (D : va_G) (T : Nat → ClassId) (a0 : Nat → Nat) (a1 : Nat → Nat) (a2 : Nat → Nat) (a3 : Nat → Nat) (a4 : Nat → Nat) (a5 : Nat → Nat) (a6 : Nat → Nat) (a7 : Nat → Nat) (a8 : Nat → Nat) (a9 : Nat → Nat) (S1 : Nat → Nat → Int32) (S2 : Nat → Nat → Int32) (S3 : Nat → Nat → Int32) (S4 : Nat → Nat → Int32) (S5 : Nat → Nat → Int32) (S6 : Nat → Nat → Int32) (S7 : Nat → Nat → Int32) (S8 : Nat → Nat → Int32) (S9 : Nat → Nat → Int32) (v1 : Int32) (v2 : Int32) (v3 : Int32) (ex : Int32 × (Nat → Nat → Int32) × (Nat → Nat → Int32) × (Nat → Nat → Int32) × (Nat → Nat → Int32) × (Nat → Nat → Int32)) (h : f_X6_join S1 S2 S3 S4 S5 S6 S7 S8 S9 v1 v2 v3 = some ex) : zWI l yX6_join wsX6_join ({ frames := 6, cells := 0, slots := 0, locals := 150 } : Room) D T [.ref (a0 99), .int v1, .int v2, .int v3] (wX6 a0 a1 a2 a3 a4 a5 a6 a7 a8 a9 ++ wX4 T a1 S1 ++ wX1 T a2 S2 ++ wX1 T a3 S3 ++ wX0 T a4 S4 ++ wX5 T a5 S5 ++ wX5 T a6 S6 ++ wX5 T a7 S7 ++ wX5 T a8 S8 ++ wX3 T a9 S9) ex.1 (wX6 a0 a1 a2 a3 a4 a5 a6 a7 a8 a9 ++ wX4 T a1 S1 ++ wX1 T a2 S2 ++ wX1 T a3 S3 ++ wX0 T a4 ex.2.1 ++ wX5 T a5 ex.2.2.1 ++ wX5 T a6 ex.2.2.2.1 ++ wX5 T a7 ex.2.2.2.2.1 ++ wX5 T a8 ex.2.2.2.2.2 ++ wX3 T a9 S9) := by
  refine z_begin (cc := cX6_join) (nL := 5) (own := RX6) (fr := 6) (lc := 150) (ret := some .int) (by decide) rfl (Nat.le_of_ble_eq_true rfl) (zA (wX6 a0 a1 a2 a3 a4 a5 a6 a7 a8 a9 ++ wX4 T a1 S1 ++ wX1 T a2 S2 ++ wX1 T a3 S3 ++ wX0 T a4 S4 ++ wX5 T a5 S5 ++ wX5 T a6 S6 ++ wX5 T a7 S7 ++ wX5 T a8 S8 ++ wX3 T a9 S9)) rfl [(0, .ref (a0 99)), (1, .int v1), (2, .int v2), (3, .int v3)] rfl ⟨rfl, rfl⟩ rfl ?_
  intro p e s m args below meth c C hr hD
  have hD := hD.zself
  unfold f_X6_join at h
  refine z_iload_n C dX6_join_0 rfl 1 rfl 1 rfl ?_
  refine z_callR C ([]) (fun v h => c_X6_isTreeManner l D T    v1 v h) ⟨rfl, rfl⟩ (z_cwS C 1 gX6_join_X6_isTreeManner rfl dd_X6_isTreeManner ⟨(Nat.le_of_ble_eq_true rfl), (Nat.le_of_ble_eq_true rfl)⟩) (hD.zaddr rfl) [] rfl rfl (fun h => absurd h (by decide)) (fun _ => rfl) rfl (Nat.le_of_ble_eq_true rfl) dX6_join_1 4 rfl h (fun r_1 h => ?_)
  refine z_if_eq C 21 dX6_join_4 (by decide) 7 rfl h (fun h => ?_) (fun h => ?_)
  · refine z_iconst C (-1) dX6_join_21 (by decide) 22 rfl ?_
    exact z_iretW (fun z => wX6 a0 a1 a2 a3 a4 a5 a6 a7 a8 a9 ++ wX4 T a1 S1 ++ wX1 T a2 S2 ++ wX1 T a3 S3 ++ wX0 T a4 z.1 ++ wX5 T a5 z.2.1 ++ wX5 T a6 z.2.2.1 ++ wX5 T a7 z.2.2.2.1 ++ wX5 T a8 z.2.2.2.2 ++ wX3 T a9 S9) C hr dX6_join_22 h rfl
  · refine z_iload_n C dX6_join_7 rfl 2 rfl 8 rfl ?_
    refine z_iconst C (-1) dX6_join_8 (by decide) 9 rfl ?_
    refine z_icmp_lt C 21 dX6_join_9 (by decide) 12 rfl h (fun h => ?_) (fun h => ?_)
    · refine z_iconst C (-1) dX6_join_21 (by decide) 22 rfl ?_
      exact z_iretW (fun z => wX6 a0 a1 a2 a3 a4 a5 a6 a7 a8 a9 ++ wX4 T a1 S1 ++ wX1 T a2 S2 ++ wX1 T a3 S3 ++ wX0 T a4 z.1 ++ wX5 T a5 z.2.1 ++ wX5 T a6 z.2.2.1 ++ wX5 T a7 z.2.2.2.1 ++ wX5 T a8 z.2.2.2.2 ++ wX3 T a9 S9) C hr dX6_join_22 h rfl
    · refine z_iload_n C dX6_join_12 rfl 3 rfl 13 rfl ?_
      refine z_iconst C 0 dX6_join_13 (by decide) 14 rfl ?_
      refine z_iconst C 2 dX6_join_14 (by decide) 15 rfl ?_
      refine z_callR C ([]) (fun v h => c_X6_isWithin l D T    v3 0 2 v h) ⟨rfl, rfl⟩ (z_cwS C 3 gX6_join_X6_isWithin rfl dd_X6_isWithin ⟨(Nat.le_of_ble_eq_true rfl), (Nat.le_of_ble_eq_true rfl)⟩) (hD.zaddr rfl) [] rfl rfl (fun h => absurd h (by decide)) (fun _ => rfl) rfl (Nat.le_of_ble_eq_true rfl) dX6_join_15 18 rfl h (fun r_2 h => ?_)
      refine z_if_ne C 23 dX6_join_18 (by decide) 21 rfl h (fun h => ?_) (fun h => ?_)
      · refine z_aload_n C dX6_join_23 rfl 0 rfl 24 rfl ?_
        refine z_iload_n C dX6_join_24 rfl 1 rfl 25 rfl ?_
        refine z_callA C (wX6 a0 a1 a2 a3 a4 a5 a6 a7 a8 a9 ++ wX4 T a1 S1 ++ wX1 T a2 S2 ++ wX1 T a3 S3 ++ wX0 T a4 S4 ++ wX5 T a5 S5 ++ wX5 T a6 S6 ++ wX5 T a7 S7 ++ wX5 T a8 S8 ++ wX3 T a9 S9) (([] : va_W)) (fun z => if z.1 = 5 then a5 99 else if z.1 = 6 then a6 99 else a8 99) (fun z => wX6 a0 a1 a2 a3 a4 a5 a6 a7 a8 a9 ++ wX4 T a1 S1 ++ wX1 T a2 S2 ++ wX1 T a3 S3 ++ wX0 T a4 z.2.1 ++ wX5 T a5 z.2.2.1 ++ wX5 T a6 z.2.2.2.1 ++ wX5 T a7 z.2.2.2.2.1 ++ wX5 T a8 z.2.2.2.2.2 ++ wX3 T a9 S9) (fun z => wX6 a0 a1 a2 a3 a4 a5 a6 a7 a8 a9 ++ wX4 T a1 S1 ++ wX1 T a2 S2 ++ wX1 T a3 S3 ++ wX0 T a4 z.2.1 ++ wX5 T a5 z.2.2.1 ++ wX5 T a6 z.2.2.2.1 ++ wX5 T a7 z.2.2.2.2.1 ++ wX5 T a8 z.2.2.2.2.2 ++ wX3 T a9 S9) (fun z h => c_X6_treeOf l D T a0 a1 a2 a3 a4 a5 a6 a7 a8 a9  S1 S2 S3 S4 S5 S6 S7 S8 S9 v1 z h) ⟨rfl, rfl⟩ (z_cwV C 1 gX6_join_X6_treeOf rfl rfl dd_X6_treeOf ⟨(Nat.le_of_ble_eq_true rfl), (Nat.le_of_ble_eq_true rfl)⟩) (hD.zaddr rfl) [0, 1, 2, 3, 4, 5, 6, 7, 8, 9, 10, 11, 12, 13, 14, 15, 16, 17, 18, 19, 20, 21, 22, 23, 24, 25, 26, 27, 28, 29, 30, 31, 32, 33] [] [0, 1, 2, 3, 4, 5, 6, 7, 8, 9, 10, 11, 12, 13, 14, 15, 16, 17, 18, 19, 20, 21, 22, 23, 24, 25, 26, 27, 28, 29, 30, 31, 32, 33] rfl rfl rfl (by decide) (fun _ => rfl) (fun _ => ⟨a0 99, [.int v1], 5, 0, _, _, rfl, rfl, rfl, rfl, rfl⟩) (fun h => absurd rfl h) rfl (Nat.le_of_ble_eq_true rfl) dX6_join_25 28 rfl h (fun r_3 h => ?_)
        refine z_tag (t := r_3.1) 5 (fun t => if t = 5 then a5 99 else if t = 6 then a6 99 else a8 99) rfl h (fun h => ?_) (fun hx_0 h => ?_)
        · refine z_astore C [(0, .ref (a0 99)), (1, .int v1), (2, .int v2), (3, .int v3), (4, .ref (a5 99))] dX6_join_28 (Nat.le_of_ble_eq_true rfl) [1, 2, 3, 4, 0] rfl 30 rfl ?_
          refine z_aload C dX6_join_30 4 rfl 32 rfl ?_
          refine z_get C (in_X6_join_X5) 20 rfl rfl 1 (by decide) (List.mem_of_getElem? (i := 1) rfl) rfl rfl dX6_join_32 35 rfl ?_
          refine z_if_ne C 41 dX6_join_35 (by decide) 38 rfl h (fun h => ?_) (fun h => ?_)
          · refine z_iload_n C dX6_join_41 rfl 2 rfl 42 rfl ?_
            refine z_iconst C (-1) dX6_join_42 (by decide) 43 rfl ?_
            refine z_icmp_ne C 58 dX6_join_43 (by decide) 46 rfl h (fun h => ?_) (fun h => ?_)
            · refine z_aload C dX6_join_58 4 rfl 60 rfl ?_
              refine z_aload_n C dX6_join_60 rfl 0 rfl 61 rfl ?_
              refine z_get C (in_X6_join_X6) 0 rfl rfl 1 (by decide) (List.mem_of_getElem? (i := 2) rfl) rfl rfl dX6_join_61 64 rfl ?_
              refine z_iload_n C dX6_join_64 rfl 2 rfl 65 rfl ?_
              refine z_iload_n C dX6_join_65 rfl 3 rfl 66 rfl ?_
              refine z_callR C (wX5 T a5 r_3.2.2.1 ++ wX1 T a2 S2) (fun v h => c_X5_tellJoin l D T a5 a2  r_3.2.2.1 S2 v2 v3 v h) ⟨rfl, rfl⟩ (z_cwV C 3 gX6_join_X5_tellJoin rfl rfl dd_X5_tellJoin ⟨(Nat.le_of_ble_eq_true rfl), (Nat.le_of_ble_eq_true rfl)⟩) (hD.zaddr rfl) [20, 21, 22, 3, 4, 5, 6, 7] rfl rfl (fun _ => ⟨a5 99, [.ref (a2 99), .int v2, .int v3], 4, 0, _, _, rfl, rfl, rfl, rfl, rfl⟩) (fun h => absurd rfl h) rfl (Nat.le_of_ble_eq_true rfl) dX6_join_66 69 rfl h (fun r_4 h => ?_)
              exact z_iretW (fun z => wX6 a0 a1 a2 a3 a4 a5 a6 a7 a8 a9 ++ wX4 T a1 S1 ++ wX1 T a2 S2 ++ wX1 T a3 S3 ++ wX0 T a4 z.1 ++ wX5 T a5 z.2.1 ++ wX5 T a6 z.2.2.1 ++ wX5 T a7 z.2.2.2.1 ++ wX5 T a8 z.2.2.2.2 ++ wX3 T a9 S9) C hr dX6_join_69 h rfl
            · refine z_aload C dX6_join_46 4 rfl 48 rfl ?_
              refine z_aload_n C dX6_join_48 rfl 0 rfl 49 rfl ?_
              refine z_get C (in_X6_join_X6) 0 rfl rfl 1 (by decide) (List.mem_of_getElem? (i := 2) rfl) rfl rfl dX6_join_49 52 rfl ?_
              refine z_callR C (wX5 T a5 r_3.2.2.1 ++ wX1 T a2 S2) (fun v h => c_X5_joins l D T a5 a2  r_3.2.2.1 S2  v h) ⟨rfl, rfl⟩ (z_cwV C 1 gX6_join_X5_joins rfl rfl dd_X5_joins ⟨(Nat.le_of_ble_eq_true rfl), (Nat.le_of_ble_eq_true rfl)⟩) (hD.zaddr rfl) [20, 21, 22, 3, 4, 5, 6, 7] rfl rfl (fun _ => ⟨a5 99, [.ref (a2 99)], 4, 0, _, _, rfl, rfl, rfl, rfl, rfl⟩) (fun h => absurd rfl h) rfl (Nat.le_of_ble_eq_true rfl) dX6_join_52 55 rfl h (fun r_5 h => ?_)
              refine z_goto C 69 dX6_join_55 (by decide) ?_
              exact z_iretW (fun z => wX6 a0 a1 a2 a3 a4 a5 a6 a7 a8 a9 ++ wX4 T a1 S1 ++ wX1 T a2 S2 ++ wX1 T a3 S3 ++ wX0 T a4 z.1 ++ wX5 T a5 z.2.1 ++ wX5 T a6 z.2.2.1 ++ wX5 T a7 z.2.2.2.1 ++ wX5 T a8 z.2.2.2.2 ++ wX3 T a9 S9) C hr dX6_join_69 h rfl
          · refine z_bipush C (-2) dX6_join_38 (by decide) 40 rfl ?_
            exact z_iretW (fun z => wX6 a0 a1 a2 a3 a4 a5 a6 a7 a8 a9 ++ wX4 T a1 S1 ++ wX1 T a2 S2 ++ wX1 T a3 S3 ++ wX0 T a4 z.1 ++ wX5 T a5 z.2.1 ++ wX5 T a6 z.2.2.1 ++ wX5 T a7 z.2.2.2.1 ++ wX5 T a8 z.2.2.2.2 ++ wX3 T a9 S9) C hr dX6_join_40 h rfl
        · refine z_tag (t := r_3.1) 6 (fun t => if t = 5 then a5 99 else if t = 6 then a6 99 else a8 99) rfl h (fun h => ?_) (fun hx_1 h => ?_)
          · refine z_astore C [(0, .ref (a0 99)), (1, .int v1), (2, .int v2), (3, .int v3), (4, .ref (a6 99))] dX6_join_28 (Nat.le_of_ble_eq_true rfl) [1, 2, 3, 4, 0] rfl 30 rfl ?_
            refine z_aload C dX6_join_30 4 rfl 32 rfl ?_
            refine z_get C (in_X6_join_X5) 23 rfl rfl 1 (by decide) (List.mem_of_getElem? (i := 1) rfl) rfl rfl dX6_join_32 35 rfl ?_
            refine z_if_ne C 41 dX6_join_35 (by decide) 38 rfl h (fun h => ?_) (fun h => ?_)
            · refine z_iload_n C dX6_join_41 rfl 2 rfl 42 rfl ?_
              refine z_iconst C (-1) dX6_join_42 (by decide) 43 rfl ?_
              refine z_icmp_ne C 58 dX6_join_43 (by decide) 46 rfl h (fun h => ?_) (fun h => ?_)
              · refine z_aload C dX6_join_58 4 rfl 60 rfl ?_
                refine z_aload_n C dX6_join_60 rfl 0 rfl 61 rfl ?_
                refine z_get C (in_X6_join_X6) 0 rfl rfl 1 (by decide) (List.mem_of_getElem? (i := 2) rfl) rfl rfl dX6_join_61 64 rfl ?_
                refine z_iload_n C dX6_join_64 rfl 2 rfl 65 rfl ?_
                refine z_iload_n C dX6_join_65 rfl 3 rfl 66 rfl ?_
                refine z_callR C (wX5 T a6 r_3.2.2.2.1 ++ wX1 T a2 S2) (fun v h => c_X5_tellJoin l D T a6 a2  r_3.2.2.2.1 S2 v2 v3 v h) ⟨rfl, rfl⟩ (z_cwV C 3 gX6_join_X5_tellJoin rfl rfl dd_X5_tellJoin ⟨(Nat.le_of_ble_eq_true rfl), (Nat.le_of_ble_eq_true rfl)⟩) (hD.zaddr rfl) [23, 24, 25, 3, 4, 5, 6, 7] rfl rfl (fun _ => ⟨a6 99, [.ref (a2 99), .int v2, .int v3], 4, 0, _, _, rfl, rfl, rfl, rfl, rfl⟩) (fun h => absurd rfl h) rfl (Nat.le_of_ble_eq_true rfl) dX6_join_66 69 rfl h (fun r_6 h => ?_)
                exact z_iretW (fun z => wX6 a0 a1 a2 a3 a4 a5 a6 a7 a8 a9 ++ wX4 T a1 S1 ++ wX1 T a2 S2 ++ wX1 T a3 S3 ++ wX0 T a4 z.1 ++ wX5 T a5 z.2.1 ++ wX5 T a6 z.2.2.1 ++ wX5 T a7 z.2.2.2.1 ++ wX5 T a8 z.2.2.2.2 ++ wX3 T a9 S9) C hr dX6_join_69 h rfl
              · refine z_aload C dX6_join_46 4 rfl 48 rfl ?_
                refine z_aload_n C dX6_join_48 rfl 0 rfl 49 rfl ?_
                refine z_get C (in_X6_join_X6) 0 rfl rfl 1 (by decide) (List.mem_of_getElem? (i := 2) rfl) rfl rfl dX6_join_49 52 rfl ?_
                refine z_callR C (wX5 T a6 r_3.2.2.2.1 ++ wX1 T a2 S2) (fun v h => c_X5_joins l D T a6 a2  r_3.2.2.2.1 S2  v h) ⟨rfl, rfl⟩ (z_cwV C 1 gX6_join_X5_joins rfl rfl dd_X5_joins ⟨(Nat.le_of_ble_eq_true rfl), (Nat.le_of_ble_eq_true rfl)⟩) (hD.zaddr rfl) [23, 24, 25, 3, 4, 5, 6, 7] rfl rfl (fun _ => ⟨a6 99, [.ref (a2 99)], 4, 0, _, _, rfl, rfl, rfl, rfl, rfl⟩) (fun h => absurd rfl h) rfl (Nat.le_of_ble_eq_true rfl) dX6_join_52 55 rfl h (fun r_7 h => ?_)
                refine z_goto C 69 dX6_join_55 (by decide) ?_
                exact z_iretW (fun z => wX6 a0 a1 a2 a3 a4 a5 a6 a7 a8 a9 ++ wX4 T a1 S1 ++ wX1 T a2 S2 ++ wX1 T a3 S3 ++ wX0 T a4 z.1 ++ wX5 T a5 z.2.1 ++ wX5 T a6 z.2.2.1 ++ wX5 T a7 z.2.2.2.1 ++ wX5 T a8 z.2.2.2.2 ++ wX3 T a9 S9) C hr dX6_join_69 h rfl
            · refine z_bipush C (-2) dX6_join_38 (by decide) 40 rfl ?_
              exact z_iretW (fun z => wX6 a0 a1 a2 a3 a4 a5 a6 a7 a8 a9 ++ wX4 T a1 S1 ++ wX1 T a2 S2 ++ wX1 T a3 S3 ++ wX0 T a4 z.1 ++ wX5 T a5 z.2.1 ++ wX5 T a6 z.2.2.1 ++ wX5 T a7 z.2.2.2.1 ++ wX5 T a8 z.2.2.2.2 ++ wX3 T a9 S9) C hr dX6_join_40 h rfl
          · refine z_ref (b := a8 99) (by show (if _ = _ then _ else _) = _; rw [if_neg hx_0, if_neg hx_1]) ?_
            refine z_astore C [(0, .ref (a0 99)), (1, .int v1), (2, .int v2), (3, .int v3), (4, .ref (a8 99))] dX6_join_28 (Nat.le_of_ble_eq_true rfl) [1, 2, 3, 4, 0] rfl 30 rfl ?_
            refine z_aload C dX6_join_30 4 rfl 32 rfl ?_
            refine z_get C (in_X6_join_X5) 29 rfl rfl 1 (by decide) (List.mem_of_getElem? (i := 1) rfl) rfl rfl dX6_join_32 35 rfl ?_
            refine z_if_ne C 41 dX6_join_35 (by decide) 38 rfl h (fun h => ?_) (fun h => ?_)
            · refine z_iload_n C dX6_join_41 rfl 2 rfl 42 rfl ?_
              refine z_iconst C (-1) dX6_join_42 (by decide) 43 rfl ?_
              refine z_icmp_ne C 58 dX6_join_43 (by decide) 46 rfl h (fun h => ?_) (fun h => ?_)
              · refine z_aload C dX6_join_58 4 rfl 60 rfl ?_
                refine z_aload_n C dX6_join_60 rfl 0 rfl 61 rfl ?_
                refine z_get C (in_X6_join_X6) 0 rfl rfl 1 (by decide) (List.mem_of_getElem? (i := 2) rfl) rfl rfl dX6_join_61 64 rfl ?_
                refine z_iload_n C dX6_join_64 rfl 2 rfl 65 rfl ?_
                refine z_iload_n C dX6_join_65 rfl 3 rfl 66 rfl ?_
                refine z_callR C (wX5 T a8 r_3.2.2.2.2.2 ++ wX1 T a2 S2) (fun v h => c_X5_tellJoin l D T a8 a2  r_3.2.2.2.2.2 S2 v2 v3 v h) ⟨rfl, rfl⟩ (z_cwV C 3 gX6_join_X5_tellJoin rfl rfl dd_X5_tellJoin ⟨(Nat.le_of_ble_eq_true rfl), (Nat.le_of_ble_eq_true rfl)⟩) (hD.zaddr rfl) [29, 30, 31, 3, 4, 5, 6, 7] rfl rfl (fun _ => ⟨a8 99, [.ref (a2 99), .int v2, .int v3], 4, 0, _, _, rfl, rfl, rfl, rfl, rfl⟩) (fun h => absurd rfl h) rfl (Nat.le_of_ble_eq_true rfl) dX6_join_66 69 rfl h (fun r_8 h => ?_)
                exact z_iretW (fun z => wX6 a0 a1 a2 a3 a4 a5 a6 a7 a8 a9 ++ wX4 T a1 S1 ++ wX1 T a2 S2 ++ wX1 T a3 S3 ++ wX0 T a4 z.1 ++ wX5 T a5 z.2.1 ++ wX5 T a6 z.2.2.1 ++ wX5 T a7 z.2.2.2.1 ++ wX5 T a8 z.2.2.2.2 ++ wX3 T a9 S9) C hr dX6_join_69 h rfl
              · refine z_aload C dX6_join_46 4 rfl 48 rfl ?_
                refine z_aload_n C dX6_join_48 rfl 0 rfl 49 rfl ?_
                refine z_get C (in_X6_join_X6) 0 rfl rfl 1 (by decide) (List.mem_of_getElem? (i := 2) rfl) rfl rfl dX6_join_49 52 rfl ?_
                refine z_callR C (wX5 T a8 r_3.2.2.2.2.2 ++ wX1 T a2 S2) (fun v h => c_X5_joins l D T a8 a2  r_3.2.2.2.2.2 S2  v h) ⟨rfl, rfl⟩ (z_cwV C 1 gX6_join_X5_joins rfl rfl dd_X5_joins ⟨(Nat.le_of_ble_eq_true rfl), (Nat.le_of_ble_eq_true rfl)⟩) (hD.zaddr rfl) [29, 30, 31, 3, 4, 5, 6, 7] rfl rfl (fun _ => ⟨a8 99, [.ref (a2 99)], 4, 0, _, _, rfl, rfl, rfl, rfl, rfl⟩) (fun h => absurd rfl h) rfl (Nat.le_of_ble_eq_true rfl) dX6_join_52 55 rfl h (fun r_9 h => ?_)
                refine z_goto C 69 dX6_join_55 (by decide) ?_
                exact z_iretW (fun z => wX6 a0 a1 a2 a3 a4 a5 a6 a7 a8 a9 ++ wX4 T a1 S1 ++ wX1 T a2 S2 ++ wX1 T a3 S3 ++ wX0 T a4 z.1 ++ wX5 T a5 z.2.1 ++ wX5 T a6 z.2.2.1 ++ wX5 T a7 z.2.2.2.1 ++ wX5 T a8 z.2.2.2.2 ++ wX3 T a9 S9) C hr dX6_join_69 h rfl
            · refine z_bipush C (-2) dX6_join_38 (by decide) 40 rfl ?_
              exact z_iretW (fun z => wX6 a0 a1 a2 a3 a4 a5 a6 a7 a8 a9 ++ wX4 T a1 S1 ++ wX1 T a2 S2 ++ wX1 T a3 S3 ++ wX0 T a4 z.1 ++ wX5 T a5 z.2.1 ++ wX5 T a6 z.2.2.1 ++ wX5 T a7 z.2.2.2.1 ++ wX5 T a8 z.2.2.2.2 ++ wX3 T a9 S9) C hr dX6_join_40 h rfl
      · refine z_iconst C (-1) dX6_join_21 (by decide) 22 rfl ?_
        exact z_iretW (fun z => wX6 a0 a1 a2 a3 a4 a5 a6 a7 a8 a9 ++ wX4 T a1 S1 ++ wX1 T a2 S2 ++ wX1 T a3 S3 ++ wX0 T a4 z.1 ++ wX5 T a5 z.2.1 ++ wX5 T a6 z.2.2.1 ++ wX5 T a7 z.2.2.2.1 ++ wX5 T a8 z.2.2.2.2 ++ wX3 T a9 S9) C hr dX6_join_22 h rfl

end
/-! StreamTree.drawn (II)I -/
section
variable {p : Program} {l : Launch} {e : Env} {R : Room} {s : State} {m : MethodId} {args : Array Value} {below : List Frame} {meth : Method} {c : Code} {Q : State → Prop} {A : Nat → Prop} {D : va_G} {T : Nat → ClassId} {a0 : Nat → Nat} {a1 : Nat → Nat} {a2 : Nat → Nat} {a3 : Nat → Nat} {a4 : Nat → Nat} {a5 : Nat → Nat} {a6 : Nat → Nat} {a7 : Nat → Nat} {a8 : Nat → Nat} {a9 : Nat → Nat}
theorem in_X6_drawn_X6 : ∀ w ∈ u_ws RX6 TX6 9, w ∈ wsX6_drawn := fun _ h => (List.mem_cons_of_mem _ (List.mem_append_left _ (List.mem_append_left _ (List.mem_append_right _ h))))
theorem in_X6_drawn_X5 : ∀ w ∈ u_ws RX5 TX5 5, w ∈ wsX6_drawn := fun _ h => (List.mem_cons_of_mem _ (List.mem_append_left _ (List.mem_append_left _ (List.mem_append_left _ (List.mem_append_right _ h)))))
def f_X6_drawn (S1 : Nat → Nat → Int32) (S2 : Nat → Nat → Int32) (S3 : Nat → Nat → Int32) (S4 : Nat → Nat → Int32) (S5 : Nat → Nat → Int32) (S6 : Nat → Nat → Int32) (S7 : Nat → Nat → Int32) (S8 : Nat → Nat → Int32) (S9 : Nat → Nat → Int32) (v1 : Int32) (v2 : Int32) : Option (Int32 × (Nat → Nat → Int32) × (Nat → Nat → Int32) × (Nat → Nat → Int32) × (Nat → Nat → Int32) × (Nat → Nat → Int32)) := (f_X6_isTreeManner v1).bind fun r_1 => if r_1 = 0 then (some ((-1), S4, S5, S6, S7, S8)) else ((f_X6_isWithin v2 0 4).bind fun r_2 => if r_2 = 0 then (some ((-1), S4, S5, S6, S7, S8)) else ((f_X6_treeOf S1 S2 S3 S4 S5 S6 S7 S8 S9 v1).bind fun r_3 => if r_3.1 = 5 then (if (r_3.2.2.1 1 0) = 0 then (some ((-2), r_3.2.1, r_3.2.2.1, r_3.2.2.2.1, r_3.2.2.2.2.1, r_3.2.2.2.2.2)) else (if v2 = 0 then ((f_X5_bends r_3.2.2.1).bind fun r_4 => some (r_4, r_3.2.1, r_3.2.2.1, r_3.2.2.2.1, r_3.2.2.2.2.1, r_3.2.2.2.2.2)) else (if v2 = 1 then ((f_X5_couplesAcross r_3.2.2.1 S2).bind fun r_5 => some (r_5, r_3.2.1, r_3.2.2.1, r_3.2.2.2.1, r_3.2.2.2.2.1, r_3.2.2.2.2.2)) else (if v2 = 2 then ((f_X5_steps r_3.2.2.1 S2).bind fun r_6 => some (r_6, r_3.2.1, r_3.2.2.1, r_3.2.2.2.1, r_3.2.2.2.2.1, r_3.2.2.2.2.2)) else (if v2 = 3 then ((f_X5_mostOfOneRing r_3.2.2.1 S2).bind fun r_7 => some (r_7, r_3.2.1, r_3.2.2.1, r_3.2.2.2.1, r_3.2.2.2.2.1, r_3.2.2.2.2.2)) else ((f_X5_greatestWidth r_3.2.2.1 S2).bind fun r_8 => some (r_8, r_3.2.1, r_3.2.2.1, r_3.2.2.2.1, r_3.2.2.2.2.1, r_3.2.2.2.2.2))))))) else (if r_3.1 = 6 then (if (r_3.2.2.2.1 1 0) = 0 then (some ((-2), r_3.2.1, r_3.2.2.1, r_3.2.2.2.1, r_3.2.2.2.2.1, r_3.2.2.2.2.2)) else (if v2 = 0 then ((f_X5_bends r_3.2.2.2.1).bind fun r_9 => some (r_9, r_3.2.1, r_3.2.2.1, r_3.2.2.2.1, r_3.2.2.2.2.1, r_3.2.2.2.2.2)) else (if v2 = 1 then ((f_X5_couplesAcross r_3.2.2.2.1 S2).bind fun r_10 => some (r_10, r_3.2.1, r_3.2.2.1, r_3.2.2.2.1, r_3.2.2.2.2.1, r_3.2.2.2.2.2)) else (if v2 = 2 then ((f_X5_steps r_3.2.2.2.1 S2).bind fun r_11 => some (r_11, r_3.2.1, r_3.2.2.1, r_3.2.2.2.1, r_3.2.2.2.2.1, r_3.2.2.2.2.2)) else (if v2 = 3 then ((f_X5_mostOfOneRing r_3.2.2.2.1 S2).bind fun r_12 => some (r_12, r_3.2.1, r_3.2.2.1, r_3.2.2.2.1, r_3.2.2.2.2.1, r_3.2.2.2.2.2)) else ((f_X5_greatestWidth r_3.2.2.2.1 S2).bind fun r_13 => some (r_13, r_3.2.1, r_3.2.2.1, r_3.2.2.2.1, r_3.2.2.2.2.1, r_3.2.2.2.2.2))))))) else (if (r_3.2.2.2.2.2 1 0) = 0 then (some ((-2), r_3.2.1, r_3.2.2.1, r_3.2.2.2.1, r_3.2.2.2.2.1, r_3.2.2.2.2.2)) else (if v2 = 0 then ((f_X5_bends r_3.2.2.2.2.2).bind fun r_14 => some (r_14, r_3.2.1, r_3.2.2.1, r_3.2.2.2.1, r_3.2.2.2.2.1, r_3.2.2.2.2.2)) else (if v2 = 1 then ((f_X5_couplesAcross r_3.2.2.2.2.2 S2).bind fun r_15 => some (r_15, r_3.2.1, r_3.2.2.1, r_3.2.2.2.1, r_3.2.2.2.2.1, r_3.2.2.2.2.2)) else (if v2 = 2 then ((f_X5_steps r_3.2.2.2.2.2 S2).bind fun r_16 => some (r_16, r_3.2.1, r_3.2.2.1, r_3.2.2.2.1, r_3.2.2.2.2.1, r_3.2.2.2.2.2)) else (if v2 = 3 then ((f_X5_mostOfOneRing r_3.2.2.2.2.2 S2).bind fun r_17 => some (r_17, r_3.2.1, r_3.2.2.1, r_3.2.2.2.1, r_3.2.2.2.2.1, r_3.2.2.2.2.2)) else ((f_X5_greatestWidth r_3.2.2.2.2.2 S2).bind fun r_18 => some (r_18, r_3.2.1, r_3.2.2.1, r_3.2.2.2.1, r_3.2.2.2.2.1, r_3.2.2.2.2.2))))))))))
theorem dd_X6_drawn : RX6 ≠ "java/lang/invoke/MethodHandle" ∧ RX6 ≠ "java/lang/invoke/VarHandle" ∧ (parseMethodDescriptor yX6_drawn.desc).map (fun d => d.parameters.length) = some 2 := by decide +kernel
set_option maxHeartbeats 4000000 in
set_option maxRecDepth 100000 in
theorem c_X6_drawn (l : Launch) (D : va_G) (T : Nat → ClassId) (a0 : Nat → Nat) (a1 : Nat → Nat) (a2 : Nat → Nat) (a3 : Nat → Nat) (a4 : Nat → Nat) (a5 : Nat → Nat) (a6 : Nat → Nat) (a7 : Nat → Nat) (a8 : Nat → Nat) (a9 : Nat → Nat) (S1 : Nat → Nat → Int32) (S2 : Nat → Nat → Int32) (S3 : Nat → Nat → Int32) (S4 : Nat → Nat → Int32) (S5 : Nat → Nat → Int32) (S6 : Nat → Nat → Int32) (S7 : Nat → Nat → Int32) (S8 : Nat → Nat → Int32) (S9 : Nat → Nat → Int32) (v1 : Int32) (v2 : Int32) (ex : Int32 × (Nat → Nat → Int32) × (Nat → Nat → Int32) × (Nat → Nat → Int32) × (Nat → Nat → Int32) × (Nat → Nat → Int32)) (h : f_X6_drawn S1 S2 S3 S4 S5 S6 S7 S8 S9 v1 v2 = some ex) : zWI l yX6_drawn wsX6_drawn ({ frames := 6, cells := 0, slots := 0, locals := 150 } : Room) D T [.ref (a0 99), .int v1, .int v2] (wX6 a0 a1 a2 a3 a4 a5 a6 a7 a8 a9 ++ wX4 T a1 S1 ++ wX1 T a2 S2 ++ wX1 T a3 S3 ++ wX0 T a4 S4 ++ wX5 T a5 S5 ++ wX5 T a6 S6 ++ wX5 T a7 S7 ++ wX5 T a8 S8 ++ wX3 T a9 S9) ex.1 (wX6 a0 a1 a2 a3 a4 a5 a6 a7 a8 a9 ++ wX4 T a1 S1 ++ wX1 T a2 S2 ++ wX1 T a3 S3 ++ wX0 T a4 ex.2.1 ++ wX5 T a5 ex.2.2.1 ++ wX5 T a6 ex.2.2.2.1 ++ wX5 T a7 ex.2.2.2.2.1 ++ wX5 T a8 ex.2.2.2.2.2 ++ wX3 T a9 S9) := by
  refine z_begin (cc := cX6_drawn) (nL := 4) (own := RX6) (fr := 6) (lc := 150) (ret := some .int) (by decide) rfl (Nat.le_of_ble_eq_true rfl) (zA (wX6 a0 a1 a2 a3 a4 a5 a6 a7 a8 a9 ++ wX4 T a1 S1 ++ wX1 T a2 S2 ++ wX1 T a3 S3 ++ wX0 T a4 S4 ++ wX5 T a5 S5 ++ wX5 T a6 S6 ++ wX5 T a7 S7 ++ wX5 T a8 S8 ++ wX3 T a9 S9)) rfl [(0, .ref (a0 99)), (1, .int v1), (2, .int v2)] rfl ⟨rfl, rfl⟩ rfl ?_
  intro p e s m args below meth c C hr hD
  have hD := hD.zself
  unfold f_X6_drawn at h
  refine z_iload_n C dX6_drawn_0 rfl 1 rfl 1 rfl ?_
  refine z_callR C ([]) (fun v h => c_X6_isTreeManner l D T    v1 v h) ⟨rfl, rfl⟩ (z_cwS C 1 gX6_drawn_X6_isTreeManner rfl dd_X6_isTreeManner ⟨(Nat.le_of_ble_eq_true rfl), (Nat.le_of_ble_eq_true rfl)⟩) (hD.zaddr rfl) [] rfl rfl (fun h => absurd h (by decide)) (fun _ => rfl) rfl (Nat.le_of_ble_eq_true rfl) dX6_drawn_1 4 rfl h (fun r_1 h => ?_)
  refine z_if_eq C 16 dX6_drawn_4 (by decide) 7 rfl h (fun h => ?_) (fun h => ?_)
  · refine z_iconst C (-1) dX6_drawn_16 (by decide) 17 rfl ?_
    exact z_iretW (fun z => wX6 a0 a1 a2 a3 a4 a5 a6 a7 a8 a9 ++ wX4 T a1 S1 ++ wX1 T a2 S2 ++ wX1 T a3 S3 ++ wX0 T a4 z.1 ++ wX5 T a5 z.2.1 ++ wX5 T a6 z.2.2.1 ++ wX5 T a7 z.2.2.2.1 ++ wX5 T a8 z.2.2.2.2 ++ wX3 T a9 S9) C hr dX6_drawn_17 h rfl
  · refine z_iload_n C dX6_drawn_7 rfl 2 rfl 8 rfl ?_
    refine z_iconst C 0 dX6_drawn_8 (by decide) 9 rfl ?_
    refine z_iconst C 4 dX6_drawn_9 (by decide) 10 rfl ?_
    refine z_callR C ([]) (fun v h => c_X6_isWithin l D T    v2 0 4 v h) ⟨rfl, rfl⟩ (z_cwS C 3 gX6_drawn_X6_isWithin rfl dd_X6_isWithin ⟨(Nat.le_of_ble_eq_true rfl), (Nat.le_of_ble_eq_true rfl)⟩) (hD.zaddr rfl) [] rfl rfl (fun h => absurd h (by decide)) (fun _ => rfl) rfl (Nat.le_of_ble_eq_true rfl) dX6_drawn_10 13 rfl h (fun r_2 h => ?_)
    refine z_if_ne C 18 dX6_drawn_13 (by decide) 16 rfl h (fun h => ?_) (fun h => ?_)
    · refine z_aload_n C dX6_drawn_18 rfl 0 rfl 19 rfl ?_
      refine z_iload_n C dX6_drawn_19 rfl 1 rfl 20 rfl ?_
      refine z_callA C (wX6 a0 a1 a2 a3 a4 a5 a6 a7 a8 a9 ++ wX4 T a1 S1 ++ wX1 T a2 S2 ++ wX1 T a3 S3 ++ wX0 T a4 S4 ++ wX5 T a5 S5 ++ wX5 T a6 S6 ++ wX5 T a7 S7 ++ wX5 T a8 S8 ++ wX3 T a9 S9) (([] : va_W)) (fun z => if z.1 = 5 then a5 99 else if z.1 = 6 then a6 99 else a8 99) (fun z => wX6 a0 a1 a2 a3 a4 a5 a6 a7 a8 a9 ++ wX4 T a1 S1 ++ wX1 T a2 S2 ++ wX1 T a3 S3 ++ wX0 T a4 z.2.1 ++ wX5 T a5 z.2.2.1 ++ wX5 T a6 z.2.2.2.1 ++ wX5 T a7 z.2.2.2.2.1 ++ wX5 T a8 z.2.2.2.2.2 ++ wX3 T a9 S9) (fun z => wX6 a0 a1 a2 a3 a4 a5 a6 a7 a8 a9 ++ wX4 T a1 S1 ++ wX1 T a2 S2 ++ wX1 T a3 S3 ++ wX0 T a4 z.2.1 ++ wX5 T a5 z.2.2.1 ++ wX5 T a6 z.2.2.2.1 ++ wX5 T a7 z.2.2.2.2.1 ++ wX5 T a8 z.2.2.2.2.2 ++ wX3 T a9 S9) (fun z h => c_X6_treeOf l D T a0 a1 a2 a3 a4 a5 a6 a7 a8 a9  S1 S2 S3 S4 S5 S6 S7 S8 S9 v1 z h) ⟨rfl, rfl⟩ (z_cwV C 1 gX6_drawn_X6_treeOf rfl rfl dd_X6_treeOf ⟨(Nat.le_of_ble_eq_true rfl), (Nat.le_of_ble_eq_true rfl)⟩) (hD.zaddr rfl) [0, 1, 2, 3, 4, 5, 6, 7, 8, 9, 10, 11, 12, 13, 14, 15, 16, 17, 18, 19, 20, 21, 22, 23, 24, 25, 26, 27, 28, 29, 30, 31, 32, 33] [] [0, 1, 2, 3, 4, 5, 6, 7, 8, 9, 10, 11, 12, 13, 14, 15, 16, 17, 18, 19, 20, 21, 22, 23, 24, 25, 26, 27, 28, 29, 30, 31, 32, 33] rfl rfl rfl (by decide) (fun _ => rfl) (fun _ => ⟨a0 99, [.int v1], 5, 0, _, _, rfl, rfl, rfl, rfl, rfl⟩) (fun h => absurd rfl h) rfl (Nat.le_of_ble_eq_true rfl) dX6_drawn_20 23 rfl h (fun r_3 h => ?_)
      refine z_tag (t := r_3.1) 5 (fun t => if t = 5 then a5 99 else if t = 6 then a6 99 else a8 99) rfl h (fun h => ?_) (fun hx_0 h => ?_)
      · refine z_astore_n C [(0, .ref (a0 99)), (1, .int v1), (2, .int v2), (3, .ref (a5 99))] dX6_drawn_23 rfl (Nat.le_of_ble_eq_true rfl) [1, 2, 3, 0] rfl 24 rfl ?_
        refine z_aload_n C dX6_drawn_24 rfl 3 rfl 25 rfl ?_
        refine z_get C (in_X6_drawn_X5) 20 rfl rfl 1 (by decide) (List.mem_of_getElem? (i := 1) rfl) rfl rfl dX6_drawn_25 28 rfl ?_
        refine z_if_ne C 34 dX6_drawn_28 (by decide) 31 rfl h (fun h => ?_) (fun h => ?_)
        · refine z_iload_n C dX6_drawn_34 rfl 2 rfl 35 rfl ?_
          refine z_case h (fun hx h => ?_) (fun hx_0 h => ?_)
          · refine z_tableIn C 64 dX6_drawn_35 hx (by decide) (by decide) (by decide) (by decide) ?_
            refine z_aload_n C dX6_drawn_64 rfl 3 rfl 65 rfl ?_
            refine z_callR C (wX5 T a5 r_3.2.2.1) (fun v h => c_X5_bends l D T a5  r_3.2.2.1  v h) ⟨rfl, rfl⟩ (z_cwV C 0 gX6_drawn_X5_bends rfl rfl dd_X5_bends ⟨(Nat.le_of_ble_eq_true rfl), (Nat.le_of_ble_eq_true rfl)⟩) (hD.zaddr rfl) [20, 21, 22] rfl rfl (fun _ => ⟨a5 99, [], 4, 0, _, _, rfl, rfl, rfl, rfl, rfl⟩) (fun h => absurd rfl h) rfl (Nat.le_of_ble_eq_true rfl) dX6_drawn_65 68 rfl h (fun r_4 h => ?_)
            exact z_iretW (fun z => wX6 a0 a1 a2 a3 a4 a5 a6 a7 a8 a9 ++ wX4 T a1 S1 ++ wX1 T a2 S2 ++ wX1 T a3 S3 ++ wX0 T a4 z.1 ++ wX5 T a5 z.2.1 ++ wX5 T a6 z.2.2.1 ++ wX5 T a7 z.2.2.2.1 ++ wX5 T a8 z.2.2.2.2 ++ wX3 T a9 S9) C hr dX6_drawn_68 h rfl
          · refine z_case h (fun hx h => ?_) (fun hx_1 h => ?_)
            · refine z_tableIn C 69 dX6_drawn_35 hx (by decide) (by decide) (by decide) (by decide) ?_
              refine z_aload_n C dX6_drawn_69 rfl 3 rfl 70 rfl ?_
              refine z_aload_n C dX6_drawn_70 rfl 0 rfl 71 rfl ?_
              refine z_get C (in_X6_drawn_X6) 0 rfl rfl 1 (by decide) (List.mem_of_getElem? (i := 2) rfl) rfl rfl dX6_drawn_71 74 rfl ?_
              refine z_callR C (wX5 T a5 r_3.2.2.1 ++ wX1 T a2 S2) (fun v h => c_X5_couplesAcross l D T a5 a2  r_3.2.2.1 S2  v h) ⟨rfl, rfl⟩ (z_cwV C 1 gX6_drawn_X5_couplesAcross rfl rfl dd_X5_couplesAcross ⟨(Nat.le_of_ble_eq_true rfl), (Nat.le_of_ble_eq_true rfl)⟩) (hD.zaddr rfl) [20, 21, 22, 3, 4, 5, 6, 7] rfl rfl (fun _ => ⟨a5 99, [.ref (a2 99)], 4, 0, _, _, rfl, rfl, rfl, rfl, rfl⟩) (fun h => absurd rfl h) rfl (Nat.le_of_ble_eq_true rfl) dX6_drawn_74 77 rfl h (fun r_5 h => ?_)
              exact z_iretW (fun z => wX6 a0 a1 a2 a3 a4 a5 a6 a7 a8 a9 ++ wX4 T a1 S1 ++ wX1 T a2 S2 ++ wX1 T a3 S3 ++ wX0 T a4 z.1 ++ wX5 T a5 z.2.1 ++ wX5 T a6 z.2.2.1 ++ wX5 T a7 z.2.2.2.1 ++ wX5 T a8 z.2.2.2.2 ++ wX3 T a9 S9) C hr dX6_drawn_77 h rfl
            · refine z_case h (fun hx h => ?_) (fun hx_2 h => ?_)
              · refine z_tableIn C 78 dX6_drawn_35 hx (by decide) (by decide) (by decide) (by decide) ?_
                refine z_aload_n C dX6_drawn_78 rfl 3 rfl 79 rfl ?_
                refine z_aload_n C dX6_drawn_79 rfl 0 rfl 80 rfl ?_
                refine z_get C (in_X6_drawn_X6) 0 rfl rfl 1 (by decide) (List.mem_of_getElem? (i := 2) rfl) rfl rfl dX6_drawn_80 83 rfl ?_
                refine z_callR C (wX5 T a5 r_3.2.2.1 ++ wX1 T a2 S2) (fun v h => c_X5_steps l D T a5 a2  r_3.2.2.1 S2  v h) ⟨rfl, rfl⟩ (z_cwV C 1 gX6_drawn_X5_steps rfl rfl dd_X5_steps ⟨(Nat.le_of_ble_eq_true rfl), (Nat.le_of_ble_eq_true rfl)⟩) (hD.zaddr rfl) [20, 21, 22, 3, 4, 5, 6, 7] rfl rfl (fun _ => ⟨a5 99, [.ref (a2 99)], 4, 0, _, _, rfl, rfl, rfl, rfl, rfl⟩) (fun h => absurd rfl h) rfl (Nat.le_of_ble_eq_true rfl) dX6_drawn_83 86 rfl h (fun r_6 h => ?_)
                exact z_iretW (fun z => wX6 a0 a1 a2 a3 a4 a5 a6 a7 a8 a9 ++ wX4 T a1 S1 ++ wX1 T a2 S2 ++ wX1 T a3 S3 ++ wX0 T a4 z.1 ++ wX5 T a5 z.2.1 ++ wX5 T a6 z.2.2.1 ++ wX5 T a7 z.2.2.2.1 ++ wX5 T a8 z.2.2.2.2 ++ wX3 T a9 S9) C hr dX6_drawn_86 h rfl
              · refine z_case h (fun hx h => ?_) (fun hx_3 h => ?_)
                · refine z_tableIn C 87 dX6_drawn_35 hx (by decide) (by decide) (by decide) (by decide) ?_
                  refine z_aload_n C dX6_drawn_87 rfl 3 rfl 88 rfl ?_
                  refine z_aload_n C dX6_drawn_88 rfl 0 rfl 89 rfl ?_
                  refine z_get C (in_X6_drawn_X6) 0 rfl rfl 1 (by decide) (List.mem_of_getElem? (i := 2) rfl) rfl rfl dX6_drawn_89 92 rfl ?_
                  refine z_callR C (wX5 T a5 r_3.2.2.1 ++ wX1 T a2 S2) (fun v h => c_X5_mostOfOneRing l D T a5 a2  r_3.2.2.1 S2  v h) ⟨rfl, rfl⟩ (z_cwV C 1 gX6_drawn_X5_mostOfOneRing rfl rfl dd_X5_mostOfOneRing ⟨(Nat.le_of_ble_eq_true rfl), (Nat.le_of_ble_eq_true rfl)⟩) (hD.zaddr rfl) [20, 21, 22, 3, 4, 5, 6, 7] rfl rfl (fun _ => ⟨a5 99, [.ref (a2 99)], 4, 0, _, _, rfl, rfl, rfl, rfl, rfl⟩) (fun h => absurd rfl h) rfl (Nat.le_of_ble_eq_true rfl) dX6_drawn_92 95 rfl h (fun r_7 h => ?_)
                  exact z_iretW (fun z => wX6 a0 a1 a2 a3 a4 a5 a6 a7 a8 a9 ++ wX4 T a1 S1 ++ wX1 T a2 S2 ++ wX1 T a3 S3 ++ wX0 T a4 z.1 ++ wX5 T a5 z.2.1 ++ wX5 T a6 z.2.2.1 ++ wX5 T a7 z.2.2.2.1 ++ wX5 T a8 z.2.2.2.2 ++ wX3 T a9 S9) C hr dX6_drawn_95 h rfl
                · refine z_tableOut C 96 dX6_drawn_35 (by have := z_ne_toInt hx_0; have := z_ne_toInt hx_1; have := z_ne_toInt hx_2; have := z_ne_toInt hx_3; omega) (by decide) ?_
                  refine z_aload_n C dX6_drawn_96 rfl 3 rfl 97 rfl ?_
                  refine z_aload_n C dX6_drawn_97 rfl 0 rfl 98 rfl ?_
                  refine z_get C (in_X6_drawn_X6) 0 rfl rfl 1 (by decide) (List.mem_of_getElem? (i := 2) rfl) rfl rfl dX6_drawn_98 101 rfl ?_
                  refine z_callR C (wX5 T a5 r_3.2.2.1 ++ wX1 T a2 S2) (fun v h => c_X5_greatestWidth l D T a5 a2  r_3.2.2.1 S2  v h) ⟨rfl, rfl⟩ (z_cwV C 1 gX6_drawn_X5_greatestWidth rfl rfl dd_X5_greatestWidth ⟨(Nat.le_of_ble_eq_true rfl), (Nat.le_of_ble_eq_true rfl)⟩) (hD.zaddr rfl) [20, 21, 22, 3, 4, 5, 6, 7] rfl rfl (fun _ => ⟨a5 99, [.ref (a2 99)], 4, 0, _, _, rfl, rfl, rfl, rfl, rfl⟩) (fun h => absurd rfl h) rfl (Nat.le_of_ble_eq_true rfl) dX6_drawn_101 104 rfl h (fun r_8 h => ?_)
                  exact z_iretW (fun z => wX6 a0 a1 a2 a3 a4 a5 a6 a7 a8 a9 ++ wX4 T a1 S1 ++ wX1 T a2 S2 ++ wX1 T a3 S3 ++ wX0 T a4 z.1 ++ wX5 T a5 z.2.1 ++ wX5 T a6 z.2.2.1 ++ wX5 T a7 z.2.2.2.1 ++ wX5 T a8 z.2.2.2.2 ++ wX3 T a9 S9) C hr dX6_drawn_104 h rfl
        · refine z_bipush C (-2) dX6_drawn_31 (by decide) 33 rfl ?_
          exact z_iretW (fun z => wX6 a0 a1 a2 a3 a4 a5 a6 a7 a8 a9 ++ wX4 T a1 S1 ++ wX1 T a2 S2 ++ wX1 T a3 S3 ++ wX0 T a4 z.1 ++ wX5 T a5 z.2.1 ++ wX5 T a6 z.2.2.1 ++ wX5 T a7 z.2.2.2.1 ++ wX5 T a8 z.2.2.2.2 ++ wX3 T a9 S9) C hr dX6_drawn_33 h rfl
      · refine z_tag (t := r_3.1) 6 (fun t => if t = 5 then a5 99 else if t = 6 then a6 99 else a8 99) rfl h (fun h => ?_) (fun hx_1 h => ?_)
        · refine z_astore_n C [(0, .ref (a0 99)), (1, .int v1), (2, .int v2), (3, .ref (a6 99))] dX6_drawn_23 rfl (Nat.le_of_ble_eq_true rfl) [1, 2, 3, 0] rfl 24 rfl ?_
          refine z_aload_n C dX6_drawn_24 rfl 3 rfl 25 rfl ?_
          refine z_get C (in_X6_drawn_X5) 23 rfl rfl 1 (by decide) (List.mem_of_getElem? (i := 1) rfl) rfl rfl dX6_drawn_25 28 rfl ?_
          refine z_if_ne C 34 dX6_drawn_28 (by decide) 31 rfl h (fun h => ?_) (fun h => ?_)
          · refine z_iload_n C dX6_drawn_34 rfl 2 rfl 35 rfl ?_
            refine z_case h (fun hx h => ?_) (fun hx_0 h => ?_)
            · refine z_tableIn C 64 dX6_drawn_35 hx (by decide) (by decide) (by decide) (by decide) ?_
              refine z_aload_n C dX6_drawn_64 rfl 3 rfl 65 rfl ?_
              refine z_callR C (wX5 T a6 r_3.2.2.2.1) (fun v h => c_X5_bends l D T a6  r_3.2.2.2.1  v h) ⟨rfl, rfl⟩ (z_cwV C 0 gX6_drawn_X5_bends rfl rfl dd_X5_bends ⟨(Nat.le_of_ble_eq_true rfl), (Nat.le_of_ble_eq_true rfl)⟩) (hD.zaddr rfl) [23, 24, 25] rfl rfl (fun _ => ⟨a6 99, [], 4, 0, _, _, rfl, rfl, rfl, rfl, rfl⟩) (fun h => absurd rfl h) rfl (Nat.le_of_ble_eq_true rfl) dX6_drawn_65 68 rfl h (fun r_9 h => ?_)
              exact z_iretW (fun z => wX6 a0 a1 a2 a3 a4 a5 a6 a7 a8 a9 ++ wX4 T a1 S1 ++ wX1 T a2 S2 ++ wX1 T a3 S3 ++ wX0 T a4 z.1 ++ wX5 T a5 z.2.1 ++ wX5 T a6 z.2.2.1 ++ wX5 T a7 z.2.2.2.1 ++ wX5 T a8 z.2.2.2.2 ++ wX3 T a9 S9) C hr dX6_drawn_68 h rfl
            · refine z_case h (fun hx h => ?_) (fun hx_1 h => ?_)
              · refine z_tableIn C 69 dX6_drawn_35 hx (by decide) (by decide) (by decide) (by decide) ?_
                refine z_aload_n C dX6_drawn_69 rfl 3 rfl 70 rfl ?_
                refine z_aload_n C dX6_drawn_70 rfl 0 rfl 71 rfl ?_
                refine z_get C (in_X6_drawn_X6) 0 rfl rfl 1 (by decide) (List.mem_of_getElem? (i := 2) rfl) rfl rfl dX6_drawn_71 74 rfl ?_
                refine z_callR C (wX5 T a6 r_3.2.2.2.1 ++ wX1 T a2 S2) (fun v h => c_X5_couplesAcross l D T a6 a2  r_3.2.2.2.1 S2  v h) ⟨rfl, rfl⟩ (z_cwV C 1 gX6_drawn_X5_couplesAcross rfl rfl dd_X5_couplesAcross ⟨(Nat.le_of_ble_eq_true rfl), (Nat.le_of_ble_eq_true rfl)⟩) (hD.zaddr rfl) [23, 24, 25, 3, 4, 5, 6, 7] rfl rfl (fun _ => ⟨a6 99, [.ref (a2 99)], 4, 0, _, _, rfl, rfl, rfl, rfl, rfl⟩) (fun h => absurd rfl h) rfl (Nat.le_of_ble_eq_true rfl) dX6_drawn_74 77 rfl h (fun r_10 h => ?_)
                exact z_iretW (fun z => wX6 a0 a1 a2 a3 a4 a5 a6 a7 a8 a9 ++ wX4 T a1 S1 ++ wX1 T a2 S2 ++ wX1 T a3 S3 ++ wX0 T a4 z.1 ++ wX5 T a5 z.2.1 ++ wX5 T a6 z.2.2.1 ++ wX5 T a7 z.2.2.2.1 ++ wX5 T a8 z.2.2.2.2 ++ wX3 T a9 S9) C hr dX6_drawn_77 h rfl
              · refine z_case h (fun hx h => ?_) (fun hx_2 h => ?_)
                · refine z_tableIn C 78 dX6_drawn_35 hx (by decide) (by decide) (by decide) (by decide) ?_
                  refine z_aload_n C dX6_drawn_78 rfl 3 rfl 79 rfl ?_
                  refine z_aload_n C dX6_drawn_79 rfl 0 rfl 80 rfl ?_
                  refine z_get C (in_X6_drawn_X6) 0 rfl rfl 1 (by decide) (List.mem_of_getElem? (i := 2) rfl) rfl rfl dX6_drawn_80 83 rfl ?_
                  refine z_callR C (wX5 T a6 r_3.2.2.2.1 ++ wX1 T a2 S2) (fun v h => c_X5_steps l D T a6 a2  r_3.2.2.2.1 S2  v h) ⟨rfl, rfl⟩ (z_cwV C 1 gX6_drawn_X5_steps rfl rfl dd_X5_steps ⟨(Nat.le_of_ble_eq_true rfl), (Nat.le_of_ble_eq_true rfl)⟩) (hD.zaddr rfl) [23, 24, 25, 3, 4, 5, 6, 7] rfl rfl (fun _ => ⟨a6 99, [.ref (a2 99)], 4, 0, _, _, rfl, rfl, rfl, rfl, rfl⟩) (fun h => absurd rfl h) rfl (Nat.le_of_ble_eq_true rfl) dX6_drawn_83 86 rfl h (fun r_11 h => ?_)
                  exact z_iretW (fun z => wX6 a0 a1 a2 a3 a4 a5 a6 a7 a8 a9 ++ wX4 T a1 S1 ++ wX1 T a2 S2 ++ wX1 T a3 S3 ++ wX0 T a4 z.1 ++ wX5 T a5 z.2.1 ++ wX5 T a6 z.2.2.1 ++ wX5 T a7 z.2.2.2.1 ++ wX5 T a8 z.2.2.2.2 ++ wX3 T a9 S9) C hr dX6_drawn_86 h rfl
                · refine z_case h (fun hx h => ?_) (fun hx_3 h => ?_)
                  · refine z_tableIn C 87 dX6_drawn_35 hx (by decide) (by decide) (by decide) (by decide) ?_
                    refine z_aload_n C dX6_drawn_87 rfl 3 rfl 88 rfl ?_
                    refine z_aload_n C dX6_drawn_88 rfl 0 rfl 89 rfl ?_
                    refine z_get C (in_X6_drawn_X6) 0 rfl rfl 1 (by decide) (List.mem_of_getElem? (i := 2) rfl) rfl rfl dX6_drawn_89 92 rfl ?_
                    refine z_callR C (wX5 T a6 r_3.2.2.2.1 ++ wX1 T a2 S2) (fun v h => c_X5_mostOfOneRing l D T a6 a2  r_3.2.2.2.1 S2  v h) ⟨rfl, rfl⟩ (z_cwV C 1 gX6_drawn_X5_mostOfOneRing rfl rfl dd_X5_mostOfOneRing ⟨(Nat.le_of_ble_eq_true rfl), (Nat.le_of_ble_eq_true rfl)⟩) (hD.zaddr rfl) [23, 24, 25, 3, 4, 5, 6, 7] rfl rfl (fun _ => ⟨a6 99, [.ref (a2 99)], 4, 0, _, _, rfl, rfl, rfl, rfl, rfl⟩) (fun h => absurd rfl h) rfl (Nat.le_of_ble_eq_true rfl) dX6_drawn_92 95 rfl h (fun r_12 h => ?_)
                    exact z_iretW (fun z => wX6 a0 a1 a2 a3 a4 a5 a6 a7 a8 a9 ++ wX4 T a1 S1 ++ wX1 T a2 S2 ++ wX1 T a3 S3 ++ wX0 T a4 z.1 ++ wX5 T a5 z.2.1 ++ wX5 T a6 z.2.2.1 ++ wX5 T a7 z.2.2.2.1 ++ wX5 T a8 z.2.2.2.2 ++ wX3 T a9 S9) C hr dX6_drawn_95 h rfl
                  · refine z_tableOut C 96 dX6_drawn_35 (by have := z_ne_toInt hx_0; have := z_ne_toInt hx_1; have := z_ne_toInt hx_2; have := z_ne_toInt hx_3; omega) (by decide) ?_
                    refine z_aload_n C dX6_drawn_96 rfl 3 rfl 97 rfl ?_
                    refine z_aload_n C dX6_drawn_97 rfl 0 rfl 98 rfl ?_
                    refine z_get C (in_X6_drawn_X6) 0 rfl rfl 1 (by decide) (List.mem_of_getElem? (i := 2) rfl) rfl rfl dX6_drawn_98 101 rfl ?_
                    refine z_callR C (wX5 T a6 r_3.2.2.2.1 ++ wX1 T a2 S2) (fun v h => c_X5_greatestWidth l D T a6 a2  r_3.2.2.2.1 S2  v h) ⟨rfl, rfl⟩ (z_cwV C 1 gX6_drawn_X5_greatestWidth rfl rfl dd_X5_greatestWidth ⟨(Nat.le_of_ble_eq_true rfl), (Nat.le_of_ble_eq_true rfl)⟩) (hD.zaddr rfl) [23, 24, 25, 3, 4, 5, 6, 7] rfl rfl (fun _ => ⟨a6 99, [.ref (a2 99)], 4, 0, _, _, rfl, rfl, rfl, rfl, rfl⟩) (fun h => absurd rfl h) rfl (Nat.le_of_ble_eq_true rfl) dX6_drawn_101 104 rfl h (fun r_13 h => ?_)
                    exact z_iretW (fun z => wX6 a0 a1 a2 a3 a4 a5 a6 a7 a8 a9 ++ wX4 T a1 S1 ++ wX1 T a2 S2 ++ wX1 T a3 S3 ++ wX0 T a4 z.1 ++ wX5 T a5 z.2.1 ++ wX5 T a6 z.2.2.1 ++ wX5 T a7 z.2.2.2.1 ++ wX5 T a8 z.2.2.2.2 ++ wX3 T a9 S9) C hr dX6_drawn_104 h rfl
          · refine z_bipush C (-2) dX6_drawn_31 (by decide) 33 rfl ?_
            exact z_iretW (fun z => wX6 a0 a1 a2 a3 a4 a5 a6 a7 a8 a9 ++ wX4 T a1 S1 ++ wX1 T a2 S2 ++ wX1 T a3 S3 ++ wX0 T a4 z.1 ++ wX5 T a5 z.2.1 ++ wX5 T a6 z.2.2.1 ++ wX5 T a7 z.2.2.2.1 ++ wX5 T a8 z.2.2.2.2 ++ wX3 T a9 S9) C hr dX6_drawn_33 h rfl
        · refine z_ref (b := a8 99) (by show (if _ = _ then _ else _) = _; rw [if_neg hx_0, if_neg hx_1]) ?_
          refine z_astore_n C [(0, .ref (a0 99)), (1, .int v1), (2, .int v2), (3, .ref (a8 99))] dX6_drawn_23 rfl (Nat.le_of_ble_eq_true rfl) [1, 2, 3, 0] rfl 24 rfl ?_
          refine z_aload_n C dX6_drawn_24 rfl 3 rfl 25 rfl ?_
          refine z_get C (in_X6_drawn_X5) 29 rfl rfl 1 (by decide) (List.mem_of_getElem? (i := 1) rfl) rfl rfl dX6_drawn_25 28 rfl ?_
          refine z_if_ne C 34 dX6_drawn_28 (by decide) 31 rfl h (fun h => ?_) (fun h => ?_)
          · refine z_iload_n C dX6_drawn_34 rfl 2 rfl 35 rfl ?_
            refine z_case h (fun hx h => ?_) (fun hx_0 h => ?_)
            · refine z_tableIn C 64 dX6_drawn_35 hx (by decide) (by decide) (by decide) (by decide) ?_
              refine z_aload_n C dX6_drawn_64 rfl 3 rfl 65 rfl ?_
              refine z_callR C (wX5 T a8 r_3.2.2.2.2.2) (fun v h => c_X5_bends l D T a8  r_3.2.2.2.2.2  v h) ⟨rfl, rfl⟩ (z_cwV C 0 gX6_drawn_X5_bends rfl rfl dd_X5_bends ⟨(Nat.le_of_ble_eq_true rfl), (Nat.le_of_ble_eq_true rfl)⟩) (hD.zaddr rfl) [29, 30, 31] rfl rfl (fun _ => ⟨a8 99, [], 4, 0, _, _, rfl, rfl, rfl, rfl, rfl⟩) (fun h => absurd rfl h) rfl (Nat.le_of_ble_eq_true rfl) dX6_drawn_65 68 rfl h (fun r_14 h => ?_)
              exact z_iretW (fun z => wX6 a0 a1 a2 a3 a4 a5 a6 a7 a8 a9 ++ wX4 T a1 S1 ++ wX1 T a2 S2 ++ wX1 T a3 S3 ++ wX0 T a4 z.1 ++ wX5 T a5 z.2.1 ++ wX5 T a6 z.2.2.1 ++ wX5 T a7 z.2.2.2.1 ++ wX5 T a8 z.2.2.2.2 ++ wX3 T a9 S9) C hr dX6_drawn_68 h rfl
            · refine z_case h (fun hx h => ?_) (fun hx_1 h => ?_)
              · refine z_tableIn C 69 dX6_drawn_35 hx (by decide) (by decide) (by decide) (by decide) ?_
                refine z_aload_n C dX6_drawn_69 rfl 3 rfl 70 rfl ?_
                refine z_aload_n C dX6_drawn_70 rfl 0 rfl 71 rfl ?_
                refine z_get C (in_X6_drawn_X6) 0 rfl rfl 1 (by decide) (List.mem_of_getElem? (i := 2) rfl) rfl rfl dX6_drawn_71 74 rfl ?_
                refine z_callR C (wX5 T a8 r_3.2.2.2.2.2 ++ wX1 T a2 S2) (fun v h => c_X5_couplesAcross l D T a8 a2  r_3.2.2.2.2.2 S2  v h) ⟨rfl, rfl⟩ (z_cwV C 1 gX6_drawn_X5_couplesAcross rfl rfl dd_X5_couplesAcross ⟨(Nat.le_of_ble_eq_true rfl), (Nat.le_of_ble_eq_true rfl)⟩) (hD.zaddr rfl) [29, 30, 31, 3, 4, 5, 6, 7] rfl rfl (fun _ => ⟨a8 99, [.ref (a2 99)], 4, 0, _, _, rfl, rfl, rfl, rfl, rfl⟩) (fun h => absurd rfl h) rfl (Nat.le_of_ble_eq_true rfl) dX6_drawn_74 77 rfl h (fun r_15 h => ?_)
                exact z_iretW (fun z => wX6 a0 a1 a2 a3 a4 a5 a6 a7 a8 a9 ++ wX4 T a1 S1 ++ wX1 T a2 S2 ++ wX1 T a3 S3 ++ wX0 T a4 z.1 ++ wX5 T a5 z.2.1 ++ wX5 T a6 z.2.2.1 ++ wX5 T a7 z.2.2.2.1 ++ wX5 T a8 z.2.2.2.2 ++ wX3 T a9 S9) C hr dX6_drawn_77 h rfl
              · refine z_case h (fun hx h => ?_) (fun hx_2 h => ?_)
                · refine z_tableIn C 78 dX6_drawn_35 hx (by decide) (by decide) (by decide) (by decide) ?_
                  refine z_aload_n C dX6_drawn_78 rfl 3 rfl 79 rfl ?_
                  refine z_aload_n C dX6_drawn_79 rfl 0 rfl 80 rfl ?_
                  refine z_get C (in_X6_drawn_X6) 0 rfl rfl 1 (by decide) (List.mem_of_getElem? (i := 2) rfl) rfl rfl dX6_drawn_80 83 rfl ?_
                  refine z_callR C (wX5 T a8 r_3.2.2.2.2.2 ++ wX1 T a2 S2) (fun v h => c_X5_steps l D T a8 a2  r_3.2.2.2.2.2 S2  v h) ⟨rfl, rfl⟩ (z_cwV C 1 gX6_drawn_X5_steps rfl rfl dd_X5_steps ⟨(Nat.le_of_ble_eq_true rfl), (Nat.le_of_ble_eq_true rfl)⟩) (hD.zaddr rfl) [29, 30, 31, 3, 4, 5, 6, 7] rfl rfl (fun _ => ⟨a8 99, [.ref (a2 99)], 4, 0, _, _, rfl, rfl, rfl, rfl, rfl⟩) (fun h => absurd rfl h) rfl (Nat.le_of_ble_eq_true rfl) dX6_drawn_83 86 rfl h (fun r_16 h => ?_)
                  exact z_iretW (fun z => wX6 a0 a1 a2 a3 a4 a5 a6 a7 a8 a9 ++ wX4 T a1 S1 ++ wX1 T a2 S2 ++ wX1 T a3 S3 ++ wX0 T a4 z.1 ++ wX5 T a5 z.2.1 ++ wX5 T a6 z.2.2.1 ++ wX5 T a7 z.2.2.2.1 ++ wX5 T a8 z.2.2.2.2 ++ wX3 T a9 S9) C hr dX6_drawn_86 h rfl
                · refine z_case h (fun hx h => ?_) (fun hx_3 h => ?_)
                  · refine z_tableIn C 87 dX6_drawn_35 hx (by decide) (by decide) (by decide) (by decide) ?_
                    refine z_aload_n C dX6_drawn_87 rfl 3 rfl 88 rfl ?_
                    refine z_aload_n C dX6_drawn_88 rfl 0 rfl 89 rfl ?_
                    refine z_get C (in_X6_drawn_X6) 0 rfl rfl 1 (by decide) (List.mem_of_getElem? (i := 2) rfl) rfl rfl dX6_drawn_89 92 rfl ?_
                    refine z_callR C (wX5 T a8 r_3.2.2.2.2.2 ++ wX1 T a2 S2) (fun v h => c_X5_mostOfOneRing l D T a8 a2  r_3.2.2.2.2.2 S2  v h) ⟨rfl, rfl⟩ (z_cwV C 1 gX6_drawn_X5_mostOfOneRing rfl rfl dd_X5_mostOfOneRing ⟨(Nat.le_of_ble_eq_true rfl), (Nat.le_of_ble_eq_true rfl)⟩) (hD.zaddr rfl) [29, 30, 31, 3, 4, 5, 6, 7] rfl rfl (fun _ => ⟨a8 99, [.ref (a2 99)], 4, 0, _, _, rfl, rfl, rfl, rfl, rfl⟩) (fun h => absurd rfl h) rfl (Nat.le_of_ble_eq_true rfl) dX6_drawn_92 95 rfl h (fun r_17 h => ?_)
                    exact z_iretW (fun z => wX6 a0 a1 a2 a3 a4 a5 a6 a7 a8 a9 ++ wX4 T a1 S1 ++ wX1 T a2 S2 ++ wX1 T a3 S3 ++ wX0 T a4 z.1 ++ wX5 T a5 z.2.1 ++ wX5 T a6 z.2.2.1 ++ wX5 T a7 z.2.2.2.1 ++ wX5 T a8 z.2.2.2.2 ++ wX3 T a9 S9) C hr dX6_drawn_95 h rfl
                  · refine z_tableOut C 96 dX6_drawn_35 (by have := z_ne_toInt hx_0; have := z_ne_toInt hx_1; have := z_ne_toInt hx_2; have := z_ne_toInt hx_3; omega) (by decide) ?_
                    refine z_aload_n C dX6_drawn_96 rfl 3 rfl 97 rfl ?_
                    refine z_aload_n C dX6_drawn_97 rfl 0 rfl 98 rfl ?_
                    refine z_get C (in_X6_drawn_X6) 0 rfl rfl 1 (by decide) (List.mem_of_getElem? (i := 2) rfl) rfl rfl dX6_drawn_98 101 rfl ?_
                    refine z_callR C (wX5 T a8 r_3.2.2.2.2.2 ++ wX1 T a2 S2) (fun v h => c_X5_greatestWidth l D T a8 a2  r_3.2.2.2.2.2 S2  v h) ⟨rfl, rfl⟩ (z_cwV C 1 gX6_drawn_X5_greatestWidth rfl rfl dd_X5_greatestWidth ⟨(Nat.le_of_ble_eq_true rfl), (Nat.le_of_ble_eq_true rfl)⟩) (hD.zaddr rfl) [29, 30, 31, 3, 4, 5, 6, 7] rfl rfl (fun _ => ⟨a8 99, [.ref (a2 99)], 4, 0, _, _, rfl, rfl, rfl, rfl, rfl⟩) (fun h => absurd rfl h) rfl (Nat.le_of_ble_eq_true rfl) dX6_drawn_101 104 rfl h (fun r_18 h => ?_)
                    exact z_iretW (fun z => wX6 a0 a1 a2 a3 a4 a5 a6 a7 a8 a9 ++ wX4 T a1 S1 ++ wX1 T a2 S2 ++ wX1 T a3 S3 ++ wX0 T a4 z.1 ++ wX5 T a5 z.2.1 ++ wX5 T a6 z.2.2.1 ++ wX5 T a7 z.2.2.2.1 ++ wX5 T a8 z.2.2.2.2 ++ wX3 T a9 S9) C hr dX6_drawn_104 h rfl
          · refine z_bipush C (-2) dX6_drawn_31 (by decide) 33 rfl ?_
            exact z_iretW (fun z => wX6 a0 a1 a2 a3 a4 a5 a6 a7 a8 a9 ++ wX4 T a1 S1 ++ wX1 T a2 S2 ++ wX1 T a3 S3 ++ wX0 T a4 z.1 ++ wX5 T a5 z.2.1 ++ wX5 T a6 z.2.2.1 ++ wX5 T a7 z.2.2.2.1 ++ wX5 T a8 z.2.2.2.2 ++ wX3 T a9 S9) C hr dX6_drawn_33 h rfl
    · refine z_iconst C (-1) dX6_drawn_16 (by decide) 17 rfl ?_
      exact z_iretW (fun z => wX6 a0 a1 a2 a3 a4 a5 a6 a7 a8 a9 ++ wX4 T a1 S1 ++ wX1 T a2 S2 ++ wX1 T a3 S3 ++ wX0 T a4 z.1 ++ wX5 T a5 z.2.1 ++ wX5 T a6 z.2.2.1 ++ wX5 T a7 z.2.2.2.1 ++ wX5 T a8 z.2.2.2.2 ++ wX3 T a9 S9) C hr dX6_drawn_17 h rfl

end
/-! StreamTree.way (III)I -/
section
variable {p : Program} {l : Launch} {e : Env} {R : Room} {s : State} {m : MethodId} {args : Array Value} {below : List Frame} {meth : Method} {c : Code} {Q : State → Prop} {A : Nat → Prop} {D : va_G} {T : Nat → ClassId} {a0 : Nat → Nat} {a1 : Nat → Nat} {a2 : Nat → Nat} {a3 : Nat → Nat} {a4 : Nat → Nat} {a5 : Nat → Nat} {a6 : Nat → Nat} {a7 : Nat → Nat} {a8 : Nat → Nat} {a9 : Nat → Nat}
theorem in_X6_way_X5 : ∀ w ∈ u_ws RX5 TX5 5, w ∈ wsX6_way := fun _ h => (List.mem_cons_of_mem _ (List.mem_append_left _ (List.mem_append_right _ h)))
theorem in_X6_way_X1 : ∀ w ∈ u_ws RX1 TX1 10, w ∈ wsX6_way := fun _ h => (List.mem_cons_of_mem _ (List.mem_append_left _ (List.mem_append_left _ (List.mem_append_right _ h))))
theorem in_X6_way_X6 : ∀ w ∈ u_ws RX6 TX6 9, w ∈ wsX6_way := fun _ h => (List.mem_cons_of_mem _ (List.mem_append_left _ (List.mem_append_left _ (List.mem_append_left _ (List.mem_append_right _ h)))))
def f_X6_way (S1 : Nat → Nat → Int32) (S2 : Nat → Nat → Int32) (S3 : Nat → Nat → Int32) (S4 : Nat → Nat → Int32) (S5 : Nat → Nat → Int32) (S6 : Nat → Nat → Int32) (S7 : Nat → Nat → Int32) (S8 : Nat → Nat → Int32) (S9 : Nat → Nat → Int32) (v1 : Int32) (v2 : Int32) (v3 : Int32) : Option (Int32 × (Nat → Nat → Int32) × (Nat → Nat → Int32) × (Nat → Nat → Int32) × (Nat → Nat → Int32) × (Nat → Nat → Int32)) := (f_X6_isTreeManner v1).bind fun r_1 => if r_1 = 0 then (some ((-1), S4, S5, S6, S7, S8)) else ((f_X6_hasPlace S1 S2 S3 S4 S5 S6 S7 S8 S9 v2).bind fun r_2 => if r_2 = 0 then (some ((-1), S4, S5, S6, S7, S8)) else ((f_X6_isWithin v3 0 (S2 0 0)).bind fun r_3 => if r_3 = 0 then (some ((-1), S4, S5, S6, S7, S8)) else ((f_X6_treeOf S1 S2 S3 S4 S5 S6 S7 S8 S9 v1).bind fun r_4 => if r_4.1 = 5 then (if (r_4.2.2.1 1 0) = 0 then (some ((-2), r_4.2.1, r_4.2.2.1, r_4.2.2.2.1, r_4.2.2.2.2.1, r_4.2.2.2.2.2)) else (zix v2 7 fun _ => if v3 ≤ (S2 6 (Int32.toNatClampNeg v2)) then ((f_X5_turnOnWay r_4.2.2.1 S2 v2 v3).bind fun r_5 => some (r_5, r_4.2.1, r_4.2.2.1, r_4.2.2.2.1, r_4.2.2.2.2.1, r_4.2.2.2.2.2)) else (some ((-1), r_4.2.1, r_4.2.2.1, r_4.2.2.2.1, r_4.2.2.2.2.1, r_4.2.2.2.2.2)))) else (if r_4.1 = 6 then (if (r_4.2.2.2.1 1 0) = 0 then (some ((-2), r_4.2.1, r_4.2.2.1, r_4.2.2.2.1, r_4.2.2.2.2.1, r_4.2.2.2.2.2)) else (zix v2 7 fun _ => if v3 ≤ (S2 6 (Int32.toNatClampNeg v2)) then ((f_X5_turnOnWay r_4.2.2.2.1 S2 v2 v3).bind fun r_6 => some (r_6, r_4.2.1, r_4.2.2.1, r_4.2.2.2.1, r_4.2.2.2.2.1, r_4.2.2.2.2.2)) else (some ((-1), r_4.2.1, r_4.2.2.1, r_4.2.2.2.1, r_4.2.2.2.2.1, r_4.2.2.2.2.2)))) else (if (r_4.2.2.2.2.2 1 0) = 0 then (some ((-2), r_4.2.1, r_4.2.2.1, r_4.2.2.2.1, r_4.2.2.2.2.1, r_4.2.2.2.2.2)) else (zix v2 7 fun _ => if v3 ≤ (S2 6 (Int32.toNatClampNeg v2)) then ((f_X5_turnOnWay r_4.2.2.2.2.2 S2 v2 v3).bind fun r_7 => some (r_7, r_4.2.1, r_4.2.2.1, r_4.2.2.2.1, r_4.2.2.2.2.1, r_4.2.2.2.2.2)) else (some ((-1), r_4.2.1, r_4.2.2.1, r_4.2.2.2.1, r_4.2.2.2.2.1, r_4.2.2.2.2.2))))))))
theorem dd_X6_way : RX6 ≠ "java/lang/invoke/MethodHandle" ∧ RX6 ≠ "java/lang/invoke/VarHandle" ∧ (parseMethodDescriptor yX6_way.desc).map (fun d => d.parameters.length) = some 3 := by decide +kernel
set_option maxHeartbeats 4000000 in
set_option maxRecDepth 100000 in
theorem c_X6_way (l : Launch) (D : va_G) (T : Nat → ClassId) (a0 : Nat → Nat) (a1 : Nat → Nat) (a2 : Nat → Nat) (a3 : Nat → Nat) (a4 : Nat → Nat) (a5 : Nat → Nat) (a6 : Nat → Nat) (a7 : Nat → Nat) (a8 : Nat → Nat) (a9 : Nat → Nat) (S1 : Nat → Nat → Int32) (S2 : Nat → Nat → Int32) (S3 : Nat → Nat → Int32) (S4 : Nat → Nat → Int32) (S5 : Nat → Nat → Int32) (S6 : Nat → Nat → Int32) (S7 : Nat → Nat → Int32) (S8 : Nat → Nat → Int32) (S9 : Nat → Nat → Int32) (v1 : Int32) (v2 : Int32) (v3 : Int32) (ex : Int32 × (Nat → Nat → Int32) × (Nat → Nat → Int32) × (Nat → Nat → Int32) × (Nat → Nat → Int32) × (Nat → Nat → Int32)) (h : f_X6_way S1 S2 S3 S4 S5 S6 S7 S8 S9 v1 v2 v3 = some ex) : zWI l yX6_way wsX6_way ({ frames := 6, cells := 0, slots := 0, locals := 150 } : Room) D T [.ref (a0 99), .int v1, .int v2, .int v3] (wX6 a0 a1 a2 a3 a4 a5 a6 a7 a8 a9 ++ wX4 T a1 S1 ++ wX1 T a2 S2 ++ wX1 T a3 S3 ++ wX0 T a4 S4 ++ wX5 T a5 S5 ++ wX5 T a6 S6 ++ wX5 T a7 S7 ++ wX5 T a8 S8 ++ wX3 T a9 S9) ex.1 (wX6 a0 a1 a2 a3 a4 a5 a6 a7 a8 a9 ++ wX4 T a1 S1 ++ wX1 T a2 S2 ++ wX1 T a3 S3 ++ wX0 T a4 ex.2.1 ++ wX5 T a5 ex.2.2.1 ++ wX5 T a6 ex.2.2.2.1 ++ wX5 T a7 ex.2.2.2.2.1 ++ wX5 T a8 ex.2.2.2.2.2 ++ wX3 T a9 S9) := by
  refine z_begin (cc := cX6_way) (nL := 5) (own := RX6) (fr := 6) (lc := 150) (ret := some .int) (by decide) rfl (Nat.le_of_ble_eq_true rfl) (zA (wX6 a0 a1 a2 a3 a4 a5 a6 a7 a8 a9 ++ wX4 T a1 S1 ++ wX1 T a2 S2 ++ wX1 T a3 S3 ++ wX0 T a4 S4 ++ wX5 T a5 S5 ++ wX5 T a6 S6 ++ wX5 T a7 S7 ++ wX5 T a8 S8 ++ wX3 T a9 S9)) rfl [(0, .ref (a0 99)), (1, .int v1), (2, .int v2), (3, .int v3)] rfl ⟨rfl, rfl⟩ rfl ?_
  intro p e s m args below meth c C hr hD
  have hD := hD.zself
  unfold f_X6_way at h
  refine z_iload_n C dX6_way_0 rfl 1 rfl 1 rfl ?_
  refine z_callR C ([]) (fun v h => c_X6_isTreeManner l D T    v1 v h) ⟨rfl, rfl⟩ (z_cwS C 1 gX6_way_X6_isTreeManner rfl dd_X6_isTreeManner ⟨(Nat.le_of_ble_eq_true rfl), (Nat.le_of_ble_eq_true rfl)⟩) (hD.zaddr rfl) [] rfl rfl (fun h => absurd h (by decide)) (fun _ => rfl) rfl (Nat.le_of_ble_eq_true rfl) dX6_way_1 4 rfl h (fun r_1 h => ?_)
  refine z_if_eq C 30 dX6_way_4 (by decide) 7 rfl h (fun h => ?_) (fun h => ?_)
  · refine z_iconst C (-1) dX6_way_30 (by decide) 31 rfl ?_
    exact z_iretW (fun z => wX6 a0 a1 a2 a3 a4 a5 a6 a7 a8 a9 ++ wX4 T a1 S1 ++ wX1 T a2 S2 ++ wX1 T a3 S3 ++ wX0 T a4 z.1 ++ wX5 T a5 z.2.1 ++ wX5 T a6 z.2.2.1 ++ wX5 T a7 z.2.2.2.1 ++ wX5 T a8 z.2.2.2.2 ++ wX3 T a9 S9) C hr dX6_way_31 h rfl
  · refine z_aload_n C dX6_way_7 rfl 0 rfl 8 rfl ?_
    refine z_iload_n C dX6_way_8 rfl 2 rfl 9 rfl ?_
    refine z_callR C (wX6 a0 a1 a2 a3 a4 a5 a6 a7 a8 a9 ++ wX4 T a1 S1 ++ wX1 T a2 S2 ++ wX1 T a3 S3 ++ wX0 T a4 S4 ++ wX5 T a5 S5 ++ wX5 T a6 S6 ++ wX5 T a7 S7 ++ wX5 T a8 S8 ++ wX3 T a9 S9) (fun v h => c_X6_hasPlace l D T a0 a1 a2 a3 a4 a5 a6 a7 a8 a9  S1 S2 S3 S4 S5 S6 S7 S8 S9 v2 v h) ⟨rfl, rfl⟩ (z_cwV C 1 gX6_way_X6_hasPlace rfl rfl dd_X6_hasPlace ⟨(Nat.le_of_ble_eq_true rfl), (Nat.le_of_ble_eq_true rfl)⟩) (hD.zaddr rfl) [0, 1, 2, 3, 4, 5, 6, 7, 8, 9, 10, 11, 12, 13, 14, 15, 16, 17, 18, 19, 20, 21, 22, 23, 24, 25, 26, 27, 28, 29, 30, 31, 32, 33] rfl rfl (fun _ => ⟨a0 99, [.int v2], 5, 0, _, _, rfl, rfl, rfl, rfl, rfl⟩) (fun h => absurd rfl h) rfl (Nat.le_of_ble_eq_true rfl) dX6_way_9 12 rfl h (fun r_2 h => ?_)
    refine z_if_eq C 30 dX6_way_12 (by decide) 15 rfl h (fun h => ?_) (fun h => ?_)
    · refine z_iconst C (-1) dX6_way_30 (by decide) 31 rfl ?_
      exact z_iretW (fun z => wX6 a0 a1 a2 a3 a4 a5 a6 a7 a8 a9 ++ wX4 T a1 S1 ++ wX1 T a2 S2 ++ wX1 T a3 S3 ++ wX0 T a4 z.1 ++ wX5 T a5 z.2.1 ++ wX5 T a6 z.2.2.1 ++ wX5 T a7 z.2.2.2.1 ++ wX5 T a8 z.2.2.2.2 ++ wX3 T a9 S9) C hr dX6_way_31 h rfl
    · refine z_iload_n C dX6_way_15 rfl 3 rfl 16 rfl ?_
      refine z_iconst C 0 dX6_way_16 (by decide) 17 rfl ?_
      refine z_aload_n C dX6_way_17 rfl 0 rfl 18 rfl ?_
      refine z_get C (in_X6_way_X6) 0 rfl rfl 1 (by decide) (List.mem_of_getElem? (i := 1) rfl) rfl rfl dX6_way_18 21 rfl ?_
      refine z_get C (in_X6_way_X1) 3 rfl rfl 0 (by decide) (List.mem_of_getElem? (i := 2) rfl) rfl rfl dX6_way_21 24 rfl ?_
      refine z_callR C ([]) (fun v h => c_X6_isWithin l D T    v3 0 (S2 0 0) v h) ⟨rfl, rfl⟩ (z_cwS C 3 gX6_way_X6_isWithin rfl dd_X6_isWithin ⟨(Nat.le_of_ble_eq_true rfl), (Nat.le_of_ble_eq_true rfl)⟩) (hD.zaddr rfl) [] rfl rfl (fun h => absurd h (by decide)) (fun _ => rfl) rfl (Nat.le_of_ble_eq_true rfl) dX6_way_24 27 rfl h (fun r_3 h => ?_)
      refine z_if_ne C 32 dX6_way_27 (by decide) 30 rfl h (fun h => ?_) (fun h => ?_)
      · refine z_aload_n C dX6_way_32 rfl 0 rfl 33 rfl ?_
        refine z_iload_n C dX6_way_33 rfl 1 rfl 34 rfl ?_
        refine z_callA C (wX6 a0 a1 a2 a3 a4 a5 a6 a7 a8 a9 ++ wX4 T a1 S1 ++ wX1 T a2 S2 ++ wX1 T a3 S3 ++ wX0 T a4 S4 ++ wX5 T a5 S5 ++ wX5 T a6 S6 ++ wX5 T a7 S7 ++ wX5 T a8 S8 ++ wX3 T a9 S9) (([] : va_W)) (fun z => if z.1 = 5 then a5 99 else if z.1 = 6 then a6 99 else a8 99) (fun z => wX6 a0 a1 a2 a3 a4 a5 a6 a7 a8 a9 ++ wX4 T a1 S1 ++ wX1 T a2 S2 ++ wX1 T a3 S3 ++ wX0 T a4 z.2.1 ++ wX5 T a5 z.2.2.1 ++ wX5 T a6 z.2.2.2.1 ++ wX5 T a7 z.2.2.2.2.1 ++ wX5 T a8 z.2.2.2.2.2 ++ wX3 T a9 S9) (fun z => wX6 a0 a1 a2 a3 a4 a5 a6 a7 a8 a9 ++ wX4 T a1 S1 ++ wX1 T a2 S2 ++ wX1 T a3 S3 ++ wX0 T a4 z.2.1 ++ wX5 T a5 z.2.2.1 ++ wX5 T a6 z.2.2.2.1 ++ wX5 T a7 z.2.2.2.2.1 ++ wX5 T a8 z.2.2.2.2.2 ++ wX3 T a9 S9) (fun z h => c_X6_treeOf l D T a0 a1 a2 a3 a4 a5 a6 a7 a8 a9  S1 S2 S3 S4 S5 S6 S7 S8 S9 v1 z h) ⟨rfl, rfl⟩ (z_cwV C 1 gX6_way_X6_treeOf rfl rfl dd_X6_treeOf ⟨(Nat.le_of_ble_eq_true rfl), (Nat.le_of_ble_eq_true rfl)⟩) (hD.zaddr rfl) [0, 1, 2, 3, 4, 5, 6, 7, 8, 9, 10, 11, 12, 13, 14, 15, 16, 17, 18, 19, 20, 21, 22, 23, 24, 25, 26, 27, 28, 29, 30, 31, 32, 33] [] [0, 1, 2, 3, 4, 5, 6, 7, 8, 9, 10, 11, 12, 13, 14, 15, 16, 17, 18, 19, 20, 21, 22, 23, 24, 25, 26, 27, 28, 29, 30, 31, 32, 33] rfl rfl rfl (by decide) (fun _ => rfl) (fun _ => ⟨a0 99, [.int v1], 5, 0, _, _, rfl, rfl, rfl, rfl, rfl⟩) (fun h => absurd rfl h) rfl (Nat.le_of_ble_eq_true rfl) dX6_way_34 37 rfl h (fun r_4 h => ?_)
        refine z_tag (t := r_4.1) 5 (fun t => if t = 5 then a5 99 else if t = 6 then a6 99 else a8 99) rfl h (fun h => ?_) (fun hx_0 h => ?_)
        · refine z_astore C [(0, .ref (a0 99)), (1, .int v1), (2, .int v2), (3, .int v3), (4, .ref (a5 99))] dX6_way_37 (Nat.le_of_ble_eq_true rfl) [1, 2, 3, 4, 0] rfl 39 rfl ?_
          refine z_aload C dX6_way_39 4 rfl 41 rfl ?_
          refine z_get C (in_X6_way_X5) 20 rfl rfl 1 (by decide) (List.mem_of_getElem? (i := 3) rfl) rfl rfl dX6_way_41 44 rfl ?_
          refine z_if_ne C 50 dX6_way_44 (by decide) 47 rfl h (fun h => ?_) (fun h => ?_)
          · refine z_iload_n C dX6_way_50 rfl 3 rfl 51 rfl ?_
            refine z_aload_n C dX6_way_51 rfl 0 rfl 52 rfl ?_
            refine z_get C (in_X6_way_X6) 0 rfl rfl 1 (by decide) (List.mem_of_getElem? (i := 1) rfl) rfl rfl dX6_way_52 55 rfl ?_
            refine z_get C (in_X6_way_X1) 3 rfl rfl 6 (by decide) (List.mem_of_getElem? (i := 4) rfl) rfl rfl dX6_way_55 58 rfl ?_
            refine z_iload_n C dX6_way_58 rfl 2 rfl 59 rfl ?_
            refine z_iald C 4 rfl rfl dX6_way_59 60 rfl h (fun h => ?_)
            refine z_icmp_le C 67 dX6_way_60 (by decide) 63 rfl h (fun h => ?_) (fun h => ?_)
            · refine z_aload C dX6_way_67 4 rfl 69 rfl ?_
              refine z_aload_n C dX6_way_69 rfl 0 rfl 70 rfl ?_
              refine z_get C (in_X6_way_X6) 0 rfl rfl 1 (by decide) (List.mem_of_getElem? (i := 1) rfl) rfl rfl dX6_way_70 73 rfl ?_
              refine z_iload_n C dX6_way_73 rfl 2 rfl 74 rfl ?_
              refine z_iload_n C dX6_way_74 rfl 3 rfl 75 rfl ?_
              refine z_callR C (wX5 T a5 r_4.2.2.1 ++ wX1 T a2 S2) (fun v h => c_X5_turnOnWay l D T a5 a2  r_4.2.2.1 S2 v2 v3 v h) ⟨rfl, rfl⟩ (z_cwV C 3 gX6_way_X5_turnOnWay rfl rfl dd_X5_turnOnWay ⟨(Nat.le_of_ble_eq_true rfl), (Nat.le_of_ble_eq_true rfl)⟩) (hD.zaddr rfl) [20, 21, 22, 3, 4, 5, 6, 7] rfl rfl (fun _ => ⟨a5 99, [.ref (a2 99), .int v2, .int v3], 4, 0, _, _, rfl, rfl, rfl, rfl, rfl⟩) (fun h => absurd rfl h) rfl (Nat.le_of_ble_eq_true rfl) dX6_way_75 78 rfl h (fun r_5 h => ?_)
              exact z_iretW (fun z => wX6 a0 a1 a2 a3 a4 a5 a6 a7 a8 a9 ++ wX4 T a1 S1 ++ wX1 T a2 S2 ++ wX1 T a3 S3 ++ wX0 T a4 z.1 ++ wX5 T a5 z.2.1 ++ wX5 T a6 z.2.2.1 ++ wX5 T a7 z.2.2.2.1 ++ wX5 T a8 z.2.2.2.2 ++ wX3 T a9 S9) C hr dX6_way_78 h rfl
            · refine z_iconst C (-1) dX6_way_63 (by decide) 64 rfl ?_
              refine z_goto C 78 dX6_way_64 (by decide) ?_
              exact z_iretW (fun z => wX6 a0 a1 a2 a3 a4 a5 a6 a7 a8 a9 ++ wX4 T a1 S1 ++ wX1 T a2 S2 ++ wX1 T a3 S3 ++ wX0 T a4 z.1 ++ wX5 T a5 z.2.1 ++ wX5 T a6 z.2.2.1 ++ wX5 T a7 z.2.2.2.1 ++ wX5 T a8 z.2.2.2.2 ++ wX3 T a9 S9) C hr dX6_way_78 h rfl
          · refine z_bipush C (-2) dX6_way_47 (by decide) 49 rfl ?_
            exact z_iretW (fun z => wX6 a0 a1 a2 a3 a4 a5 a6 a7 a8 a9 ++ wX4 T a1 S1 ++ wX1 T a2 S2 ++ wX1 T a3 S3 ++ wX0 T a4 z.1 ++ wX5 T a5 z.2.1 ++ wX5 T a6 z.2.2.1 ++ wX5 T a7 z.2.2.2.1 ++ wX5 T a8 z.2.2.2.2 ++ wX3 T a9 S9) C hr dX6_way_49 h rfl
        · refine z_tag (t := r_4.1) 6 (fun t => if t = 5 then a5 99 else if t = 6 then a6 99 else a8 99) rfl h (fun h => ?_) (fun hx_1 h => ?_)
          · refine z_astore C [(0, .ref (a0 99)), (1, .int v1), (2, .int v2), (3, .int v3), (4, .ref (a6 99))] dX6_way_37 (Nat.le_of_ble_eq_true rfl) [1, 2, 3, 4, 0] rfl 39 rfl ?_
            refine z_aload C dX6_way_39 4 rfl 41 rfl ?_
            refine z_get C (in_X6_way_X5) 23 rfl rfl 1 (by decide) (List.mem_of_getElem? (i := 3) rfl) rfl rfl dX6_way_41 44 rfl ?_
            refine z_if_ne C 50 dX6_way_44 (by decide) 47 rfl h (fun h => ?_) (fun h => ?_)
            · refine z_iload_n C dX6_way_50 rfl 3 rfl 51 rfl ?_
              refine z_aload_n C dX6_way_51 rfl 0 rfl 52 rfl ?_
              refine z_get C (in_X6_way_X6) 0 rfl rfl 1 (by decide) (List.mem_of_getElem? (i := 1) rfl) rfl rfl dX6_way_52 55 rfl ?_
              refine z_get C (in_X6_way_X1) 3 rfl rfl 6 (by decide) (List.mem_of_getElem? (i := 4) rfl) rfl rfl dX6_way_55 58 rfl ?_
              refine z_iload_n C dX6_way_58 rfl 2 rfl 59 rfl ?_
              refine z_iald C 4 rfl rfl dX6_way_59 60 rfl h (fun h => ?_)
              refine z_icmp_le C 67 dX6_way_60 (by decide) 63 rfl h (fun h => ?_) (fun h => ?_)
              · refine z_aload C dX6_way_67 4 rfl 69 rfl ?_
                refine z_aload_n C dX6_way_69 rfl 0 rfl 70 rfl ?_
                refine z_get C (in_X6_way_X6) 0 rfl rfl 1 (by decide) (List.mem_of_getElem? (i := 1) rfl) rfl rfl dX6_way_70 73 rfl ?_
                refine z_iload_n C dX6_way_73 rfl 2 rfl 74 rfl ?_
                refine z_iload_n C dX6_way_74 rfl 3 rfl 75 rfl ?_
                refine z_callR C (wX5 T a6 r_4.2.2.2.1 ++ wX1 T a2 S2) (fun v h => c_X5_turnOnWay l D T a6 a2  r_4.2.2.2.1 S2 v2 v3 v h) ⟨rfl, rfl⟩ (z_cwV C 3 gX6_way_X5_turnOnWay rfl rfl dd_X5_turnOnWay ⟨(Nat.le_of_ble_eq_true rfl), (Nat.le_of_ble_eq_true rfl)⟩) (hD.zaddr rfl) [23, 24, 25, 3, 4, 5, 6, 7] rfl rfl (fun _ => ⟨a6 99, [.ref (a2 99), .int v2, .int v3], 4, 0, _, _, rfl, rfl, rfl, rfl, rfl⟩) (fun h => absurd rfl h) rfl (Nat.le_of_ble_eq_true rfl) dX6_way_75 78 rfl h (fun r_6 h => ?_)
                exact z_iretW (fun z => wX6 a0 a1 a2 a3 a4 a5 a6 a7 a8 a9 ++ wX4 T a1 S1 ++ wX1 T a2 S2 ++ wX1 T a3 S3 ++ wX0 T a4 z.1 ++ wX5 T a5 z.2.1 ++ wX5 T a6 z.2.2.1 ++ wX5 T a7 z.2.2.2.1 ++ wX5 T a8 z.2.2.2.2 ++ wX3 T a9 S9) C hr dX6_way_78 h rfl
              · refine z_iconst C (-1) dX6_way_63 (by decide) 64 rfl ?_
                refine z_goto C 78 dX6_way_64 (by decide) ?_
                exact z_iretW (fun z => wX6 a0 a1 a2 a3 a4 a5 a6 a7 a8 a9 ++ wX4 T a1 S1 ++ wX1 T a2 S2 ++ wX1 T a3 S3 ++ wX0 T a4 z.1 ++ wX5 T a5 z.2.1 ++ wX5 T a6 z.2.2.1 ++ wX5 T a7 z.2.2.2.1 ++ wX5 T a8 z.2.2.2.2 ++ wX3 T a9 S9) C hr dX6_way_78 h rfl
            · refine z_bipush C (-2) dX6_way_47 (by decide) 49 rfl ?_
              exact z_iretW (fun z => wX6 a0 a1 a2 a3 a4 a5 a6 a7 a8 a9 ++ wX4 T a1 S1 ++ wX1 T a2 S2 ++ wX1 T a3 S3 ++ wX0 T a4 z.1 ++ wX5 T a5 z.2.1 ++ wX5 T a6 z.2.2.1 ++ wX5 T a7 z.2.2.2.1 ++ wX5 T a8 z.2.2.2.2 ++ wX3 T a9 S9) C hr dX6_way_49 h rfl
          · refine z_ref (b := a8 99) (by show (if _ = _ then _ else _) = _; rw [if_neg hx_0, if_neg hx_1]) ?_
            refine z_astore C [(0, .ref (a0 99)), (1, .int v1), (2, .int v2), (3, .int v3), (4, .ref (a8 99))] dX6_way_37 (Nat.le_of_ble_eq_true rfl) [1, 2, 3, 4, 0] rfl 39 rfl ?_
            refine z_aload C dX6_way_39 4 rfl 41 rfl ?_
            refine z_get C (in_X6_way_X5) 29 rfl rfl 1 (by decide) (List.mem_of_getElem? (i := 3) rfl) rfl rfl dX6_way_41 44 rfl ?_
            refine z_if_ne C 50 dX6_way_44 (by decide) 47 rfl h (fun h => ?_) (fun h => ?_)
            · refine z_iload_n C dX6_way_50 rfl 3 rfl 51 rfl ?_
              refine z_aload_n C dX6_way_51 rfl 0 rfl 52 rfl ?_
              refine z_get C (in_X6_way_X6) 0 rfl rfl 1 (by decide) (List.mem_of_getElem? (i := 1) rfl) rfl rfl dX6_way_52 55 rfl ?_
              refine z_get C (in_X6_way_X1) 3 rfl rfl 6 (by decide) (List.mem_of_getElem? (i := 4) rfl) rfl rfl dX6_way_55 58 rfl ?_
              refine z_iload_n C dX6_way_58 rfl 2 rfl 59 rfl ?_
              refine z_iald C 4 rfl rfl dX6_way_59 60 rfl h (fun h => ?_)
              refine z_icmp_le C 67 dX6_way_60 (by decide) 63 rfl h (fun h => ?_) (fun h => ?_)
              · refine z_aload C dX6_way_67 4 rfl 69 rfl ?_
                refine z_aload_n C dX6_way_69 rfl 0 rfl 70 rfl ?_
                refine z_get C (in_X6_way_X6) 0 rfl rfl 1 (by decide) (List.mem_of_getElem? (i := 1) rfl) rfl rfl dX6_way_70 73 rfl ?_
                refine z_iload_n C dX6_way_73 rfl 2 rfl 74 rfl ?_
                refine z_iload_n C dX6_way_74 rfl 3 rfl 75 rfl ?_
                refine z_callR C (wX5 T a8 r_4.2.2.2.2.2 ++ wX1 T a2 S2) (fun v h => c_X5_turnOnWay l D T a8 a2  r_4.2.2.2.2.2 S2 v2 v3 v h) ⟨rfl, rfl⟩ (z_cwV C 3 gX6_way_X5_turnOnWay rfl rfl dd_X5_turnOnWay ⟨(Nat.le_of_ble_eq_true rfl), (Nat.le_of_ble_eq_true rfl)⟩) (hD.zaddr rfl) [29, 30, 31, 3, 4, 5, 6, 7] rfl rfl (fun _ => ⟨a8 99, [.ref (a2 99), .int v2, .int v3], 4, 0, _, _, rfl, rfl, rfl, rfl, rfl⟩) (fun h => absurd rfl h) rfl (Nat.le_of_ble_eq_true rfl) dX6_way_75 78 rfl h (fun r_7 h => ?_)
                exact z_iretW (fun z => wX6 a0 a1 a2 a3 a4 a5 a6 a7 a8 a9 ++ wX4 T a1 S1 ++ wX1 T a2 S2 ++ wX1 T a3 S3 ++ wX0 T a4 z.1 ++ wX5 T a5 z.2.1 ++ wX5 T a6 z.2.2.1 ++ wX5 T a7 z.2.2.2.1 ++ wX5 T a8 z.2.2.2.2 ++ wX3 T a9 S9) C hr dX6_way_78 h rfl
              · refine z_iconst C (-1) dX6_way_63 (by decide) 64 rfl ?_
                refine z_goto C 78 dX6_way_64 (by decide) ?_
                exact z_iretW (fun z => wX6 a0 a1 a2 a3 a4 a5 a6 a7 a8 a9 ++ wX4 T a1 S1 ++ wX1 T a2 S2 ++ wX1 T a3 S3 ++ wX0 T a4 z.1 ++ wX5 T a5 z.2.1 ++ wX5 T a6 z.2.2.1 ++ wX5 T a7 z.2.2.2.1 ++ wX5 T a8 z.2.2.2.2 ++ wX3 T a9 S9) C hr dX6_way_78 h rfl
            · refine z_bipush C (-2) dX6_way_47 (by decide) 49 rfl ?_
              exact z_iretW (fun z => wX6 a0 a1 a2 a3 a4 a5 a6 a7 a8 a9 ++ wX4 T a1 S1 ++ wX1 T a2 S2 ++ wX1 T a3 S3 ++ wX0 T a4 z.1 ++ wX5 T a5 z.2.1 ++ wX5 T a6 z.2.2.1 ++ wX5 T a7 z.2.2.2.1 ++ wX5 T a8 z.2.2.2.2 ++ wX3 T a9 S9) C hr dX6_way_49 h rfl
      · refine z_iconst C (-1) dX6_way_30 (by decide) 31 rfl ?_
        exact z_iretW (fun z => wX6 a0 a1 a2 a3 a4 a5 a6 a7 a8 a9 ++ wX4 T a1 S1 ++ wX1 T a2 S2 ++ wX1 T a3 S3 ++ wX0 T a4 z.1 ++ wX5 T a5 z.2.1 ++ wX5 T a6 z.2.2.1 ++ wX5 T a7 z.2.2.2.1 ++ wX5 T a8 z.2.2.2.2 ++ wX3 T a9 S9) C hr dX6_way_31 h rfl

end
/-! StreamTree.borne (III)I -/
section
variable {p : Program} {l : Launch} {e : Env} {R : Room} {s : State} {m : MethodId} {args : Array Value} {below : List Frame} {meth : Method} {c : Code} {Q : State → Prop} {A : Nat → Prop} {D : va_G} {T : Nat → ClassId} {a0 : Nat → Nat} {a1 : Nat → Nat} {a2 : Nat → Nat} {a3 : Nat → Nat} {a4 : Nat → Nat} {a5 : Nat → Nat} {a6 : Nat → Nat} {a7 : Nat → Nat} {a8 : Nat → Nat} {a9 : Nat → Nat}
theorem in_X6_borne_X5 : ∀ w ∈ u_ws RX5 TX5 5, w ∈ wsX6_borne := fun _ h => (List.mem_cons_of_mem _ (List.mem_append_left _ (List.mem_append_left _ (List.mem_append_right _ h))))
theorem in_X6_borne_X6 : ∀ w ∈ u_ws RX6 TX6 9, w ∈ wsX6_borne := fun _ h => (List.mem_cons_of_mem _ (List.mem_append_left _ (List.mem_append_left _ (List.mem_append_left _ (List.mem_append_right _ h)))))
def f_X6_borne (S1 : Nat → Nat → Int32) (S2 : Nat → Nat → Int32) (S3 : Nat → Nat → Int32) (S4 : Nat → Nat → Int32) (S5 : Nat → Nat → Int32) (S6 : Nat → Nat → Int32) (S7 : Nat → Nat → Int32) (S8 : Nat → Nat → Int32) (S9 : Nat → Nat → Int32) (v1 : Int32) (v2 : Int32) (v3 : Int32) : Option (Int32 × (Nat → Nat → Int32) × (Nat → Nat → Int32) × (Nat → Nat → Int32) × (Nat → Nat → Int32) × (Nat → Nat → Int32)) := (f_X6_isTreeManner v1).bind fun r_1 => if r_1 = 0 then (some ((-1), S4, S5, S6, S7, S8)) else ((f_X1_hasCell S2 v2 v3).bind fun r_2 => if r_2 = 0 then (some ((-1), S4, S5, S6, S7, S8)) else ((f_X6_treeOf S1 S2 S3 S4 S5 S6 S7 S8 S9 v1).bind fun r_3 => if r_3.1 = 5 then (if (r_3.2.2.1 1 0) = 0 then (some ((-2), r_3.2.1, r_3.2.2.1, r_3.2.2.2.1, r_3.2.2.2.2.1, r_3.2.2.2.2.2)) else ((f_X6_cellOf v2 v3).bind fun r_4 => zix r_4 240 fun _ => some ((r_3.2.2.1 3 (Int32.toNatClampNeg r_4)), r_3.2.1, r_3.2.2.1, r_3.2.2.2.1, r_3.2.2.2.2.1, r_3.2.2.2.2.2))) else (if r_3.1 = 6 then (if (r_3.2.2.2.1 1 0) = 0 then (some ((-2), r_3.2.1, r_3.2.2.1, r_3.2.2.2.1, r_3.2.2.2.2.1, r_3.2.2.2.2.2)) else ((f_X6_cellOf v2 v3).bind fun r_5 => zix r_5 240 fun _ => some ((r_3.2.2.2.1 3 (Int32.toNatClampNeg r_5)), r_3.2.1, r_3.2.2.1, r_3.2.2.2.1, r_3.2.2.2.2.1, r_3.2.2.2.2.2))) else (if (r_3.2.2.2.2.2 1 0) = 0 then (some ((-2), r_3.2.1, r_3.2.2.1, r_3.2.2.2.1, r_3.2.2.2.2.1, r_3.2.2.2.2.2)) else ((f_X6_cellOf v2 v3).bind fun r_6 => zix r_6 240 fun _ => some ((r_3.2.2.2.2.2 3 (Int32.toNatClampNeg r_6)), r_3.2.1, r_3.2.2.1, r_3.2.2.2.1, r_3.2.2.2.2.1, r_3.2.2.2.2.2))))))
theorem dd_X6_borne : RX6 ≠ "java/lang/invoke/MethodHandle" ∧ RX6 ≠ "java/lang/invoke/VarHandle" ∧ (parseMethodDescriptor yX6_borne.desc).map (fun d => d.parameters.length) = some 3 := by decide +kernel
set_option maxHeartbeats 4000000 in
set_option maxRecDepth 100000 in
theorem c_X6_borne (l : Launch) (D : va_G) (T : Nat → ClassId) (a0 : Nat → Nat) (a1 : Nat → Nat) (a2 : Nat → Nat) (a3 : Nat → Nat) (a4 : Nat → Nat) (a5 : Nat → Nat) (a6 : Nat → Nat) (a7 : Nat → Nat) (a8 : Nat → Nat) (a9 : Nat → Nat) (S1 : Nat → Nat → Int32) (S2 : Nat → Nat → Int32) (S3 : Nat → Nat → Int32) (S4 : Nat → Nat → Int32) (S5 : Nat → Nat → Int32) (S6 : Nat → Nat → Int32) (S7 : Nat → Nat → Int32) (S8 : Nat → Nat → Int32) (S9 : Nat → Nat → Int32) (v1 : Int32) (v2 : Int32) (v3 : Int32) (ex : Int32 × (Nat → Nat → Int32) × (Nat → Nat → Int32) × (Nat → Nat → Int32) × (Nat → Nat → Int32) × (Nat → Nat → Int32)) (h : f_X6_borne S1 S2 S3 S4 S5 S6 S7 S8 S9 v1 v2 v3 = some ex) : zWI l yX6_borne wsX6_borne ({ frames := 6, cells := 0, slots := 0, locals := 150 } : Room) D T [.ref (a0 99), .int v1, .int v2, .int v3] (wX6 a0 a1 a2 a3 a4 a5 a6 a7 a8 a9 ++ wX4 T a1 S1 ++ wX1 T a2 S2 ++ wX1 T a3 S3 ++ wX0 T a4 S4 ++ wX5 T a5 S5 ++ wX5 T a6 S6 ++ wX5 T a7 S7 ++ wX5 T a8 S8 ++ wX3 T a9 S9) ex.1 (wX6 a0 a1 a2 a3 a4 a5 a6 a7 a8 a9 ++ wX4 T a1 S1 ++ wX1 T a2 S2 ++ wX1 T a3 S3 ++ wX0 T a4 ex.2.1 ++ wX5 T a5 ex.2.2.1 ++ wX5 T a6 ex.2.2.2.1 ++ wX5 T a7 ex.2.2.2.2.1 ++ wX5 T a8 ex.2.2.2.2.2 ++ wX3 T a9 S9) := by
  refine z_begin (cc := cX6_borne) (nL := 5) (own := RX6) (fr := 6) (lc := 150) (ret := some .int) (by decide) rfl (Nat.le_of_ble_eq_true rfl) (zA (wX6 a0 a1 a2 a3 a4 a5 a6 a7 a8 a9 ++ wX4 T a1 S1 ++ wX1 T a2 S2 ++ wX1 T a3 S3 ++ wX0 T a4 S4 ++ wX5 T a5 S5 ++ wX5 T a6 S6 ++ wX5 T a7 S7 ++ wX5 T a8 S8 ++ wX3 T a9 S9)) rfl [(0, .ref (a0 99)), (1, .int v1), (2, .int v2), (3, .int v3)] rfl ⟨rfl, rfl⟩ rfl ?_
  intro p e s m args below meth c C hr hD
  have hD := hD.zself
  unfold f_X6_borne at h
  refine z_iload_n C dX6_borne_0 rfl 1 rfl 1 rfl ?_
  refine z_callR C ([]) (fun v h => c_X6_isTreeManner l D T    v1 v h) ⟨rfl, rfl⟩ (z_cwS C 1 gX6_borne_X6_isTreeManner rfl dd_X6_isTreeManner ⟨(Nat.le_of_ble_eq_true rfl), (Nat.le_of_ble_eq_true rfl)⟩) (hD.zaddr rfl) [] rfl rfl (fun h => absurd h (by decide)) (fun _ => rfl) rfl (Nat.le_of_ble_eq_true rfl) dX6_borne_1 4 rfl h (fun r_1 h => ?_)
  refine z_if_eq C 19 dX6_borne_4 (by decide) 7 rfl h (fun h => ?_) (fun h => ?_)
  · refine z_iconst C (-1) dX6_borne_19 (by decide) 20 rfl ?_
    exact z_iretW (fun z => wX6 a0 a1 a2 a3 a4 a5 a6 a7 a8 a9 ++ wX4 T a1 S1 ++ wX1 T a2 S2 ++ wX1 T a3 S3 ++ wX0 T a4 z.1 ++ wX5 T a5 z.2.1 ++ wX5 T a6 z.2.2.1 ++ wX5 T a7 z.2.2.2.1 ++ wX5 T a8 z.2.2.2.2 ++ wX3 T a9 S9) C hr dX6_borne_20 h rfl
  · refine z_aload_n C dX6_borne_7 rfl 0 rfl 8 rfl ?_
    refine z_get C (in_X6_borne_X6) 0 rfl rfl 1 (by decide) (List.mem_of_getElem? (i := 1) rfl) rfl rfl dX6_borne_8 11 rfl ?_
    refine z_iload_n C dX6_borne_11 rfl 2 rfl 12 rfl ?_
    refine z_iload_n C dX6_borne_12 rfl 3 rfl 13 rfl ?_
    refine z_callR C (wX1 T a2 S2) (fun v h => c_X1_hasCell l D T a2  S2 v2 v3 v h) ⟨rfl, rfl⟩ (z_cwV C 2 gX6_borne_X1_hasCell rfl rfl dd_X1_hasCell ⟨(Nat.le_of_ble_eq_true rfl), (Nat.le_of_ble_eq_true rfl)⟩) (hD.zaddr rfl) [3, 4, 5, 6, 7] rfl rfl (fun _ => ⟨a2 99, [.int v2, .int v3], 1, 0, _, _, rfl, rfl, rfl, rfl, rfl⟩) (fun h => absurd rfl h) rfl (Nat.le_of_ble_eq_true rfl) dX6_borne_13 16 rfl h (fun r_2 h => ?_)
    refine z_if_ne C 21 dX6_borne_16 (by decide) 19 rfl h (fun h => ?_) (fun h => ?_)
    · refine z_aload_n C dX6_borne_21 rfl 0 rfl 22 rfl ?_
      refine z_iload_n C dX6_borne_22 rfl 1 rfl 23 rfl ?_
      refine z_callA C (wX6 a0 a1 a2 a3 a4 a5 a6 a7 a8 a9 ++ wX4 T a1 S1 ++ wX1 T a2 S2 ++ wX1 T a3 S3 ++ wX0 T a4 S4 ++ wX5 T a5 S5 ++ wX5 T a6 S6 ++ wX5 T a7 S7 ++ wX5 T a8 S8 ++ wX3 T a9 S9) (([] : va_W)) (fun z => if z.1 = 5 then a5 99 else if z.1 = 6 then a6 99 else a8 99) (fun z => wX6 a0 a1 a2 a3 a4 a5 a6 a7 a8 a9 ++ wX4 T a1 S1 ++ wX1 T a2 S2 ++ wX1 T a3 S3 ++ wX0 T a4 z.2.1 ++ wX5 T a5 z.2.2.1 ++ wX5 T a6 z.2.2.2.1 ++ wX5 T a7 z.2.2.2.2.1 ++ wX5 T a8 z.2.2.2.2.2 ++ wX3 T a9 S9) (fun z => wX6 a0 a1 a2 a3 a4 a5 a6 a7 a8 a9 ++ wX4 T a1 S1 ++ wX1 T a2 S2 ++ wX1 T a3 S3 ++ wX0 T a4 z.2.1 ++ wX5 T a5 z.2.2.1 ++ wX5 T a6 z.2.2.2.1 ++ wX5 T a7 z.2.2.2.2.1 ++ wX5 T a8 z.2.2.2.2.2 ++ wX3 T a9 S9) (fun z h => c_X6_treeOf l D T a0 a1 a2 a3 a4 a5 a6 a7 a8 a9  S1 S2 S3 S4 S5 S6 S7 S8 S9 v1 z h) ⟨rfl, rfl⟩ (z_cwV C 1 gX6_borne_X6_treeOf rfl rfl dd_X6_treeOf ⟨(Nat.le_of_ble_eq_true rfl), (Nat.le_of_ble_eq_true rfl)⟩) (hD.zaddr rfl) [0, 1, 2, 3, 4, 5, 6, 7, 8, 9, 10, 11, 12, 13, 14, 15, 16, 17, 18, 19, 20, 21, 22, 23, 24, 25, 26, 27, 28, 29, 30, 31, 32, 33] [] [0, 1, 2, 3, 4, 5, 6, 7, 8, 9, 10, 11, 12, 13, 14, 15, 16, 17, 18, 19, 20, 21, 22, 23, 24, 25, 26, 27, 28, 29, 30, 31, 32, 33] rfl rfl rfl (by decide) (fun _ => rfl) (fun _ => ⟨a0 99, [.int v1], 5, 0, _, _, rfl, rfl, rfl, rfl, rfl⟩) (fun h => absurd rfl h) rfl (Nat.le_of_ble_eq_true rfl) dX6_borne_23 26 rfl h (fun r_3 h => ?_)
      refine z_tag (t := r_3.1) 5 (fun t => if t = 5 then a5 99 else if t = 6 then a6 99 else a8 99) rfl h (fun h => ?_) (fun hx_0 h => ?_)
      · refine z_astore C [(0, .ref (a0 99)), (1, .int v1), (2, .int v2), (3, .int v3), (4, .ref (a5 99))] dX6_borne_26 (Nat.le_of_ble_eq_true rfl) [1, 2, 3, 4, 0] rfl 28 rfl ?_
        refine z_aload C dX6_borne_28 4 rfl 30 rfl ?_
        refine z_get C (in_X6_borne_X5) 20 rfl rfl 1 (by decide) (List.mem_of_getElem? (i := 2) rfl) rfl rfl dX6_borne_30 33 rfl ?_
        refine z_if_eq C 50 dX6_borne_33 (by decide) 36 rfl h (fun h => ?_) (fun h => ?_)
        · refine z_bipush C (-2) dX6_borne_50 (by decide) 52 rfl ?_
          exact z_iretW (fun z => wX6 a0 a1 a2 a3 a4 a5 a6 a7 a8 a9 ++ wX4 T a1 S1 ++ wX1 T a2 S2 ++ wX1 T a3 S3 ++ wX0 T a4 z.1 ++ wX5 T a5 z.2.1 ++ wX5 T a6 z.2.2.1 ++ wX5 T a7 z.2.2.2.1 ++ wX5 T a8 z.2.2.2.2 ++ wX3 T a9 S9) C hr dX6_borne_52 h rfl
        · refine z_aload C dX6_borne_36 4 rfl 38 rfl ?_
          refine z_get C (in_X6_borne_X5) 20 rfl rfl 3 (by decide) (List.mem_of_getElem? (i := 3) rfl) rfl rfl dX6_borne_38 41 rfl ?_
          refine z_iload_n C dX6_borne_41 rfl 2 rfl 42 rfl ?_
          refine z_iload_n C dX6_borne_42 rfl 3 rfl 43 rfl ?_
          refine z_callR C ([]) (fun v h => c_X6_cellOf l D T    v2 v3 v h) ⟨rfl, rfl⟩ (z_cwS C 2 gX6_borne_X6_cellOf rfl dd_X6_cellOf ⟨(Nat.le_of_ble_eq_true rfl), (Nat.le_of_ble_eq_true rfl)⟩) (hD.zaddr rfl) [] rfl rfl (fun h => absurd h (by decide)) (fun _ => rfl) rfl (Nat.le_of_ble_eq_true rfl) dX6_borne_43 46 rfl h (fun r_4 h => ?_)
          refine z_iald C 21 rfl rfl dX6_borne_46 47 rfl h (fun h => ?_)
          refine z_goto C 52 dX6_borne_47 (by decide) ?_
          exact z_iretW (fun z => wX6 a0 a1 a2 a3 a4 a5 a6 a7 a8 a9 ++ wX4 T a1 S1 ++ wX1 T a2 S2 ++ wX1 T a3 S3 ++ wX0 T a4 z.1 ++ wX5 T a5 z.2.1 ++ wX5 T a6 z.2.2.1 ++ wX5 T a7 z.2.2.2.1 ++ wX5 T a8 z.2.2.2.2 ++ wX3 T a9 S9) C hr dX6_borne_52 h rfl
      · refine z_tag (t := r_3.1) 6 (fun t => if t = 5 then a5 99 else if t = 6 then a6 99 else a8 99) rfl h (fun h => ?_) (fun hx_1 h => ?_)
        · refine z_astore C [(0, .ref (a0 99)), (1, .int v1), (2, .int v2), (3, .int v3), (4, .ref (a6 99))] dX6_borne_26 (Nat.le_of_ble_eq_true rfl) [1, 2, 3, 4, 0] rfl 28 rfl ?_
          refine z_aload C dX6_borne_28 4 rfl 30 rfl ?_
          refine z_get C (in_X6_borne_X5) 23 rfl rfl 1 (by decide) (List.mem_of_getElem? (i := 2) rfl) rfl rfl dX6_borne_30 33 rfl ?_
          refine z_if_eq C 50 dX6_borne_33 (by decide) 36 rfl h (fun h => ?_) (fun h => ?_)
          · refine z_bipush C (-2) dX6_borne_50 (by decide) 52 rfl ?_
            exact z_iretW (fun z => wX6 a0 a1 a2 a3 a4 a5 a6 a7 a8 a9 ++ wX4 T a1 S1 ++ wX1 T a2 S2 ++ wX1 T a3 S3 ++ wX0 T a4 z.1 ++ wX5 T a5 z.2.1 ++ wX5 T a6 z.2.2.1 ++ wX5 T a7 z.2.2.2.1 ++ wX5 T a8 z.2.2.2.2 ++ wX3 T a9 S9) C hr dX6_borne_52 h rfl
          · refine z_aload C dX6_borne_36 4 rfl 38 rfl ?_
            refine z_get C (in_X6_borne_X5) 23 rfl rfl 3 (by decide) (List.mem_of_getElem? (i := 3) rfl) rfl rfl dX6_borne_38 41 rfl ?_
            refine z_iload_n C dX6_borne_41 rfl 2 rfl 42 rfl ?_
            refine z_iload_n C dX6_borne_42 rfl 3 rfl 43 rfl ?_
            refine z_callR C ([]) (fun v h => c_X6_cellOf l D T    v2 v3 v h) ⟨rfl, rfl⟩ (z_cwS C 2 gX6_borne_X6_cellOf rfl dd_X6_cellOf ⟨(Nat.le_of_ble_eq_true rfl), (Nat.le_of_ble_eq_true rfl)⟩) (hD.zaddr rfl) [] rfl rfl (fun h => absurd h (by decide)) (fun _ => rfl) rfl (Nat.le_of_ble_eq_true rfl) dX6_borne_43 46 rfl h (fun r_5 h => ?_)
            refine z_iald C 24 rfl rfl dX6_borne_46 47 rfl h (fun h => ?_)
            refine z_goto C 52 dX6_borne_47 (by decide) ?_
            exact z_iretW (fun z => wX6 a0 a1 a2 a3 a4 a5 a6 a7 a8 a9 ++ wX4 T a1 S1 ++ wX1 T a2 S2 ++ wX1 T a3 S3 ++ wX0 T a4 z.1 ++ wX5 T a5 z.2.1 ++ wX5 T a6 z.2.2.1 ++ wX5 T a7 z.2.2.2.1 ++ wX5 T a8 z.2.2.2.2 ++ wX3 T a9 S9) C hr dX6_borne_52 h rfl
        · refine z_ref (b := a8 99) (by show (if _ = _ then _ else _) = _; rw [if_neg hx_0, if_neg hx_1]) ?_
          refine z_astore C [(0, .ref (a0 99)), (1, .int v1), (2, .int v2), (3, .int v3), (4, .ref (a8 99))] dX6_borne_26 (Nat.le_of_ble_eq_true rfl) [1, 2, 3, 4, 0] rfl 28 rfl ?_
          refine z_aload C dX6_borne_28 4 rfl 30 rfl ?_
          refine z_get C (in_X6_borne_X5) 29 rfl rfl 1 (by decide) (List.mem_of_getElem? (i := 2) rfl) rfl rfl dX6_borne_30 33 rfl ?_
          refine z_if_eq C 50 dX6_borne_33 (by decide) 36 rfl h (fun h => ?_) (fun h => ?_)
          · refine z_bipush C (-2) dX6_borne_50 (by decide) 52 rfl ?_
            exact z_iretW (fun z => wX6 a0 a1 a2 a3 a4 a5 a6 a7 a8 a9 ++ wX4 T a1 S1 ++ wX1 T a2 S2 ++ wX1 T a3 S3 ++ wX0 T a4 z.1 ++ wX5 T a5 z.2.1 ++ wX5 T a6 z.2.2.1 ++ wX5 T a7 z.2.2.2.1 ++ wX5 T a8 z.2.2.2.2 ++ wX3 T a9 S9) C hr dX6_borne_52 h rfl
          · refine z_aload C dX6_borne_36 4 rfl 38 rfl ?_
            refine z_get C (in_X6_borne_X5) 29 rfl rfl 3 (by decide) (List.mem_of_getElem? (i := 3) rfl) rfl rfl dX6_borne_38 41 rfl ?_
            refine z_iload_n C dX6_borne_41 rfl 2 rfl 42 rfl ?_
            refine z_iload_n C dX6_borne_42 rfl 3 rfl 43 rfl ?_
            refine z_callR C ([]) (fun v h => c_X6_cellOf l D T    v2 v3 v h) ⟨rfl, rfl⟩ (z_cwS C 2 gX6_borne_X6_cellOf rfl dd_X6_cellOf ⟨(Nat.le_of_ble_eq_true rfl), (Nat.le_of_ble_eq_true rfl)⟩) (hD.zaddr rfl) [] rfl rfl (fun h => absurd h (by decide)) (fun _ => rfl) rfl (Nat.le_of_ble_eq_true rfl) dX6_borne_43 46 rfl h (fun r_6 h => ?_)
            refine z_iald C 30 rfl rfl dX6_borne_46 47 rfl h (fun h => ?_)
            refine z_goto C 52 dX6_borne_47 (by decide) ?_
            exact z_iretW (fun z => wX6 a0 a1 a2 a3 a4 a5 a6 a7 a8 a9 ++ wX4 T a1 S1 ++ wX1 T a2 S2 ++ wX1 T a3 S3 ++ wX0 T a4 z.1 ++ wX5 T a5 z.2.1 ++ wX5 T a6 z.2.2.1 ++ wX5 T a7 z.2.2.2.1 ++ wX5 T a8 z.2.2.2.2 ++ wX3 T a9 S9) C hr dX6_borne_52 h rfl
    · refine z_iconst C (-1) dX6_borne_19 (by decide) 20 rfl ?_
      exact z_iretW (fun z => wX6 a0 a1 a2 a3 a4 a5 a6 a7 a8 a9 ++ wX4 T a1 S1 ++ wX1 T a2 S2 ++ wX1 T a3 S3 ++ wX0 T a4 z.1 ++ wX5 T a5 z.2.1 ++ wX5 T a6 z.2.2.1 ++ wX5 T a7 z.2.2.2.1 ++ wX5 T a8 z.2.2.2.2 ++ wX3 T a9 S9) C hr dX6_borne_20 h rfl

end
/-! StreamTree.alone (I)I -/
section
variable {p : Program} {l : Launch} {e : Env} {R : Room} {s : State} {m : MethodId} {args : Array Value} {below : List Frame} {meth : Method} {c : Code} {Q : State → Prop} {A : Nat → Prop} {D : va_G} {T : Nat → ClassId} {a0 : Nat → Nat} {a1 : Nat → Nat} {a2 : Nat → Nat} {a3 : Nat → Nat} {a4 : Nat → Nat} {a5 : Nat → Nat} {a6 : Nat → Nat} {a7 : Nat → Nat} {a8 : Nat → Nat} {a9 : Nat → Nat}
def f_X6_alone (S1 : Nat → Nat → Int32) (S2 : Nat → Nat → Int32) (S3 : Nat → Nat → Int32) (S4 : Nat → Nat → Int32) (S5 : Nat → Nat → Int32) (S6 : Nat → Nat → Int32) (S7 : Nat → Nat → Int32) (S8 : Nat → Nat → Int32) (S9 : Nat → Nat → Int32) (v1 : Int32) : Option (Int32 × (Nat → Nat → Int32)) := (f_X6_hasPlace S1 S2 S3 S4 S5 S6 S7 S8 S9 v1).bind fun r_1 => if r_1 = 0 then (some ((-1), S4)) else ((f_X6_knownBests S1 S2 S3 S4 S5 S6 S7 S8 S9).bind fun r_2 => (f_X0_inkOf r_2 0 (1 <<< (v1 &&& 31))).bind fun r_3 => some (r_3, r_2))
theorem dd_X6_alone : RX6 ≠ "java/lang/invoke/MethodHandle" ∧ RX6 ≠ "java/lang/invoke/VarHandle" ∧ (parseMethodDescriptor yX6_alone.desc).map (fun d => d.parameters.length) = some 1 := by decide +kernel
set_option maxHeartbeats 4000000 in
set_option maxRecDepth 100000 in
theorem c_X6_alone (l : Launch) (D : va_G) (T : Nat → ClassId) (a0 : Nat → Nat) (a1 : Nat → Nat) (a2 : Nat → Nat) (a3 : Nat → Nat) (a4 : Nat → Nat) (a5 : Nat → Nat) (a6 : Nat → Nat) (a7 : Nat → Nat) (a8 : Nat → Nat) (a9 : Nat → Nat) (S1 : Nat → Nat → Int32) (S2 : Nat → Nat → Int32) (S3 : Nat → Nat → Int32) (S4 : Nat → Nat → Int32) (S5 : Nat → Nat → Int32) (S6 : Nat → Nat → Int32) (S7 : Nat → Nat → Int32) (S8 : Nat → Nat → Int32) (S9 : Nat → Nat → Int32) (v1 : Int32) (ex : Int32 × (Nat → Nat → Int32)) (h : f_X6_alone S1 S2 S3 S4 S5 S6 S7 S8 S9 v1 = some ex) : zWI l yX6_alone wsX6_alone ({ frames := 6, cells := 0, slots := 0, locals := 148 } : Room) D T [.ref (a0 99), .int v1] (wX6 a0 a1 a2 a3 a4 a5 a6 a7 a8 a9 ++ wX4 T a1 S1 ++ wX1 T a2 S2 ++ wX1 T a3 S3 ++ wX0 T a4 S4 ++ wX5 T a5 S5 ++ wX5 T a6 S6 ++ wX5 T a7 S7 ++ wX5 T a8 S8 ++ wX3 T a9 S9) ex.1 (wX6 a0 a1 a2 a3 a4 a5 a6 a7 a8 a9 ++ wX4 T a1 S1 ++ wX1 T a2 S2 ++ wX1 T a3 S3 ++ wX0 T a4 ex.2 ++ wX5 T a5 S5 ++ wX5 T a6 S6 ++ wX5 T a7 S7 ++ wX5 T a8 S8 ++ wX3 T a9 S9) := by
  refine z_begin (cc := cX6_alone) (nL := 2) (own := RX6) (fr := 6) (lc := 148) (ret := some .int) (by decide) rfl (Nat.le_of_ble_eq_true rfl) (zA (wX6 a0 a1 a2 a3 a4 a5 a6 a7 a8 a9 ++ wX4 T a1 S1 ++ wX1 T a2 S2 ++ wX1 T a3 S3 ++ wX0 T a4 S4 ++ wX5 T a5 S5 ++ wX5 T a6 S6 ++ wX5 T a7 S7 ++ wX5 T a8 S8 ++ wX3 T a9 S9)) rfl [(0, .ref (a0 99)), (1, .int v1)] rfl ⟨rfl, rfl⟩ rfl ?_
  intro p e s m args below meth c C hr hD
  have hD := hD.zself
  unfold f_X6_alone at h
  refine z_aload_n C dX6_alone_0 rfl 0 rfl 1 rfl ?_
  refine z_iload_n C dX6_alone_1 rfl 1 rfl 2 rfl ?_
  refine z_callR C (wX6 a0 a1 a2 a3 a4 a5 a6 a7 a8 a9 ++ wX4 T a1 S1 ++ wX1 T a2 S2 ++ wX1 T a3 S3 ++ wX0 T a4 S4 ++ wX5 T a5 S5 ++ wX5 T a6 S6 ++ wX5 T a7 S7 ++ wX5 T a8 S8 ++ wX3 T a9 S9) (fun v h => c_X6_hasPlace l D T a0 a1 a2 a3 a4 a5 a6 a7 a8 a9  S1 S2 S3 S4 S5 S6 S7 S8 S9 v1 v h) ⟨rfl, rfl⟩ (z_cwV C 1 gX6_alone_X6_hasPlace rfl rfl dd_X6_hasPlace ⟨(Nat.le_of_ble_eq_true rfl), (Nat.le_of_ble_eq_true rfl)⟩) (hD.zaddr rfl) [0, 1, 2, 3, 4, 5, 6, 7, 8, 9, 10, 11, 12, 13, 14, 15, 16, 17, 18, 19, 20, 21, 22, 23, 24, 25, 26, 27, 28, 29, 30, 31, 32, 33] rfl rfl (fun _ => ⟨a0 99, [.int v1], 5, 0, _, _, rfl, rfl, rfl, rfl, rfl⟩) (fun h => absurd rfl h) rfl (Nat.le_of_ble_eq_true rfl) dX6_alone_2 5 rfl h (fun r_1 h => ?_)
  refine z_if_ne C 10 dX6_alone_5 (by decide) 8 rfl h (fun h => ?_) (fun h => ?_)
  · refine z_aload_n C dX6_alone_10 rfl 0 rfl 11 rfl ?_
    refine z_callA C (wX6 a0 a1 a2 a3 a4 a5 a6 a7 a8 a9 ++ wX4 T a1 S1 ++ wX1 T a2 S2 ++ wX1 T a3 S3 ++ wX0 T a4 S4 ++ wX5 T a5 S5 ++ wX5 T a6 S6 ++ wX5 T a7 S7 ++ wX5 T a8 S8 ++ wX3 T a9 S9) (([] : va_W)) (fun z => a4 99) (fun z => wX6 a0 a1 a2 a3 a4 a5 a6 a7 a8 a9 ++ wX4 T a1 S1 ++ wX1 T a2 S2 ++ wX1 T a3 S3 ++ wX0 T a4 z ++ wX5 T a5 S5 ++ wX5 T a6 S6 ++ wX5 T a7 S7 ++ wX5 T a8 S8 ++ wX3 T a9 S9) (fun z => wX6 a0 a1 a2 a3 a4 a5 a6 a7 a8 a9 ++ wX4 T a1 S1 ++ wX1 T a2 S2 ++ wX1 T a3 S3 ++ wX0 T a4 z ++ wX5 T a5 S5 ++ wX5 T a6 S6 ++ wX5 T a7 S7 ++ wX5 T a8 S8 ++ wX3 T a9 S9) (fun z h => c_X6_knownBests l D T a0 a1 a2 a3 a4 a5 a6 a7 a8 a9  S1 S2 S3 S4 S5 S6 S7 S8 S9  z h) ⟨rfl, rfl⟩ (z_cwV C 0 gX6_alone_X6_knownBests rfl rfl dd_X6_knownBests ⟨(Nat.le_of_ble_eq_true rfl), (Nat.le_of_ble_eq_true rfl)⟩) (hD.zaddr rfl) [0, 1, 2, 3, 4, 5, 6, 7, 8, 9, 10, 11, 12, 13, 14, 15, 16, 17, 18, 19, 20, 21, 22, 23, 24, 25, 26, 27, 28, 29, 30, 31, 32, 33] [] [0, 1, 2, 3, 4, 5, 6, 7, 8, 9, 10, 11, 12, 13, 14, 15, 16, 17, 18, 19, 20, 21, 22, 23, 24, 25, 26, 27, 28, 29, 30, 31, 32, 33] rfl rfl rfl (by decide) (fun _ => rfl) (fun _ => ⟨a0 99, [], 5, 0, _, _, rfl, rfl, rfl, rfl, rfl⟩) (fun h => absurd rfl h) rfl (Nat.le_of_ble_eq_true rfl) dX6_alone_11 14 rfl h (fun r_2 h => ?_)
    refine z_iconst C 0 dX6_alone_14 (by decide) 15 rfl ?_
    refine z_iconst C 1 dX6_alone_15 (by decide) 16 rfl ?_
    refine z_iload_n C dX6_alone_16 rfl 1 rfl 17 rfl ?_
    refine z_ishl C dX6_alone_17 18 rfl ?_
    refine z_callR C (wX0 T a4 r_2) (fun v h => c_X0_inkOf l D T a4  r_2 0 (1 <<< (v1 &&& 31)) v h) ⟨rfl, rfl⟩ (z_cwV C 2 gX6_alone_X0_inkOf rfl rfl dd_X0_inkOf ⟨(Nat.le_of_ble_eq_true rfl), (Nat.le_of_ble_eq_true rfl)⟩) (hD.zaddr rfl) [13, 14, 15, 16, 17, 18, 19] rfl rfl (fun _ => ⟨a4 99, [.int 0, .int (1 <<< (v1 &&& 31))], 0, 0, _, _, rfl, rfl, rfl, rfl, rfl⟩) (fun h => absurd rfl h) rfl (Nat.le_of_ble_eq_true rfl) dX6_alone_18 21 rfl h (fun r_3 h => ?_)
    exact z_iretW (fun z => wX6 a0 a1 a2 a3 a4 a5 a6 a7 a8 a9 ++ wX4 T a1 S1 ++ wX1 T a2 S2 ++ wX1 T a3 S3 ++ wX0 T a4 z ++ wX5 T a5 S5 ++ wX5 T a6 S6 ++ wX5 T a7 S7 ++ wX5 T a8 S8 ++ wX3 T a9 S9) C hr dX6_alone_21 h rfl
  · refine z_iconst C (-1) dX6_alone_8 (by decide) 9 rfl ?_
    exact z_iretW (fun z => wX6 a0 a1 a2 a3 a4 a5 a6 a7 a8 a9 ++ wX4 T a1 S1 ++ wX1 T a2 S2 ++ wX1 T a3 S3 ++ wX0 T a4 z ++ wX5 T a5 S5 ++ wX5 T a6 S6 ++ wX5 T a7 S7 ++ wX5 T a8 S8 ++ wX3 T a9 S9) C hr dX6_alone_9 h rfl

end
/-! StreamTree.costs (I)I -/
section
variable {p : Program} {l : Launch} {e : Env} {R : Room} {s : State} {m : MethodId} {args : Array Value} {below : List Frame} {meth : Method} {c : Code} {Q : State → Prop} {A : Nat → Prop} {D : va_G} {T : Nat → ClassId} {a0 : Nat → Nat} {a1 : Nat → Nat} {a2 : Nat → Nat} {a3 : Nat → Nat} {a4 : Nat → Nat} {a5 : Nat → Nat} {a6 : Nat → Nat} {a7 : Nat → Nat} {a8 : Nat → Nat} {a9 : Nat → Nat}
theorem in_X6_costs_X6 : ∀ w ∈ u_ws RX6 TX6 9, w ∈ wsX6_costs := fun _ h => (List.mem_cons_of_mem _ (List.mem_append_left _ (List.mem_append_left _ (List.mem_append_right _ h))))
def f_X6_costs (S1 : Nat → Nat → Int32) (S2 : Nat → Nat → Int32) (S3 : Nat → Nat → Int32) (S4 : Nat → Nat → Int32) (S5 : Nat → Nat → Int32) (S6 : Nat → Nat → Int32) (S7 : Nat → Nat → Int32) (S8 : Nat → Nat → Int32) (S9 : Nat → Nat → Int32) (v1 : Int32) : Option (Int32 × (Nat → Nat → Int32)) := (f_X6_hasPlace S1 S2 S3 S4 S5 S6 S7 S8 S9 v1).bind fun r_1 => if r_1 = 0 then (some ((-1), S4)) else ((f_X1_allPlaces S2).bind fun r_2 => (f_X6_knownBests S1 S2 S3 S4 S5 S6 S7 S8 S9).bind fun r_3 => (f_X0_inkOf r_3 0 r_2).bind fun r_4 => if r_4 = (-2) then (some ((-2), r_3)) else ((f_X0_inkOf r_3 0 (r_2 ^^^ (1 <<< (v1 &&& 31)))).bind fun r_5 => some ((r_4 - r_5), r_3)))
theorem dd_X6_costs : RX6 ≠ "java/lang/invoke/MethodHandle" ∧ RX6 ≠ "java/lang/invoke/VarHandle" ∧ (parseMethodDescriptor yX6_costs.desc).map (fun d => d.parameters.length) = some 1 := by decide +kernel
set_option maxHeartbeats 4000000 in
set_option maxRecDepth 100000 in
theorem c_X6_costs (l : Launch) (D : va_G) (T : Nat → ClassId) (a0 : Nat → Nat) (a1 : Nat → Nat) (a2 : Nat → Nat) (a3 : Nat → Nat) (a4 : Nat → Nat) (a5 : Nat → Nat) (a6 : Nat → Nat) (a7 : Nat → Nat) (a8 : Nat → Nat) (a9 : Nat → Nat) (S1 : Nat → Nat → Int32) (S2 : Nat → Nat → Int32) (S3 : Nat → Nat → Int32) (S4 : Nat → Nat → Int32) (S5 : Nat → Nat → Int32) (S6 : Nat → Nat → Int32) (S7 : Nat → Nat → Int32) (S8 : Nat → Nat → Int32) (S9 : Nat → Nat → Int32) (v1 : Int32) (ex : Int32 × (Nat → Nat → Int32)) (h : f_X6_costs S1 S2 S3 S4 S5 S6 S7 S8 S9 v1 = some ex) : zWI l yX6_costs wsX6_costs ({ frames := 6, cells := 0, slots := 0, locals := 148 } : Room) D T [.ref (a0 99), .int v1] (wX6 a0 a1 a2 a3 a4 a5 a6 a7 a8 a9 ++ wX4 T a1 S1 ++ wX1 T a2 S2 ++ wX1 T a3 S3 ++ wX0 T a4 S4 ++ wX5 T a5 S5 ++ wX5 T a6 S6 ++ wX5 T a7 S7 ++ wX5 T a8 S8 ++ wX3 T a9 S9) ex.1 (wX6 a0 a1 a2 a3 a4 a5 a6 a7 a8 a9 ++ wX4 T a1 S1 ++ wX1 T a2 S2 ++ wX1 T a3 S3 ++ wX0 T a4 ex.2 ++ wX5 T a5 S5 ++ wX5 T a6 S6 ++ wX5 T a7 S7 ++ wX5 T a8 S8 ++ wX3 T a9 S9) := by
  refine z_begin (cc := cX6_costs) (nL := 4) (own := RX6) (fr := 6) (lc := 148) (ret := some .int) (by decide) rfl (Nat.le_of_ble_eq_true rfl) (zA (wX6 a0 a1 a2 a3 a4 a5 a6 a7 a8 a9 ++ wX4 T a1 S1 ++ wX1 T a2 S2 ++ wX1 T a3 S3 ++ wX0 T a4 S4 ++ wX5 T a5 S5 ++ wX5 T a6 S6 ++ wX5 T a7 S7 ++ wX5 T a8 S8 ++ wX3 T a9 S9)) rfl [(0, .ref (a0 99)), (1, .int v1)] rfl ⟨rfl, rfl⟩ rfl ?_
  intro p e s m args below meth c C hr hD
  have hD := hD.zself
  unfold f_X6_costs at h
  refine z_aload_n C dX6_costs_0 rfl 0 rfl 1 rfl ?_
  refine z_iload_n C dX6_costs_1 rfl 1 rfl 2 rfl ?_
  refine z_callR C (wX6 a0 a1 a2 a3 a4 a5 a6 a7 a8 a9 ++ wX4 T a1 S1 ++ wX1 T a2 S2 ++ wX1 T a3 S3 ++ wX0 T a4 S4 ++ wX5 T a5 S5 ++ wX5 T a6 S6 ++ wX5 T a7 S7 ++ wX5 T a8 S8 ++ wX3 T a9 S9) (fun v h => c_X6_hasPlace l D T a0 a1 a2 a3 a4 a5 a6 a7 a8 a9  S1 S2 S3 S4 S5 S6 S7 S8 S9 v1 v h) ⟨rfl, rfl⟩ (z_cwV C 1 gX6_costs_X6_hasPlace rfl rfl dd_X6_hasPlace ⟨(Nat.le_of_ble_eq_true rfl), (Nat.le_of_ble_eq_true rfl)⟩) (hD.zaddr rfl) [0, 1, 2, 3, 4, 5, 6, 7, 8, 9, 10, 11, 12, 13, 14, 15, 16, 17, 18, 19, 20, 21, 22, 23, 24, 25, 26, 27, 28, 29, 30, 31, 32, 33] rfl rfl (fun _ => ⟨a0 99, [.int v1], 5, 0, _, _, rfl, rfl, rfl, rfl, rfl⟩) (fun h => absurd rfl h) rfl (Nat.le_of_ble_eq_true rfl) dX6_costs_2 5 rfl h (fun r_1 h => ?_)
  refine z_if_ne C 10 dX6_costs_5 (by decide) 8 rfl h (fun h => ?_) (fun h => ?_)
  · refine z_aload_n C dX6_costs_10 rfl 0 rfl 11 rfl ?_
    refine z_get C (in_X6_costs_X6) 0 rfl rfl 1 (by decide) (List.mem_of_getElem? (i := 1) rfl) rfl rfl dX6_costs_11 14 rfl ?_
    refine z_callR C (wX1 T a2 S2) (fun v h => c_X1_allPlaces l D T a2  S2  v h) ⟨rfl, rfl⟩ (z_cwV C 0 gX6_costs_X1_allPlaces rfl rfl dd_X1_allPlaces ⟨(Nat.le_of_ble_eq_true rfl), (Nat.le_of_ble_eq_true rfl)⟩) (hD.zaddr rfl) [3, 4, 5, 6, 7] rfl rfl (fun _ => ⟨a2 99, [], 1, 0, _, _, rfl, rfl, rfl, rfl, rfl⟩) (fun h => absurd rfl h) rfl (Nat.le_of_ble_eq_true rfl) dX6_costs_14 17 rfl h (fun r_2 h => ?_)
    refine z_istore_n C [(0, .ref (a0 99)), (1, .int v1), (2, .int r_2)] dX6_costs_17 rfl (Nat.le_of_ble_eq_true rfl) [1, 2, 0] rfl 18 rfl ?_
    refine z_aload_n C dX6_costs_18 rfl 0 rfl 19 rfl ?_
    refine z_callA C (wX6 a0 a1 a2 a3 a4 a5 a6 a7 a8 a9 ++ wX4 T a1 S1 ++ wX1 T a2 S2 ++ wX1 T a3 S3 ++ wX0 T a4 S4 ++ wX5 T a5 S5 ++ wX5 T a6 S6 ++ wX5 T a7 S7 ++ wX5 T a8 S8 ++ wX3 T a9 S9) (([] : va_W)) (fun z => a4 99) (fun z => wX6 a0 a1 a2 a3 a4 a5 a6 a7 a8 a9 ++ wX4 T a1 S1 ++ wX1 T a2 S2 ++ wX1 T a3 S3 ++ wX0 T a4 z ++ wX5 T a5 S5 ++ wX5 T a6 S6 ++ wX5 T a7 S7 ++ wX5 T a8 S8 ++ wX3 T a9 S9) (fun z => wX6 a0 a1 a2 a3 a4 a5 a6 a7 a8 a9 ++ wX4 T a1 S1 ++ wX1 T a2 S2 ++ wX1 T a3 S3 ++ wX0 T a4 z ++ wX5 T a5 S5 ++ wX5 T a6 S6 ++ wX5 T a7 S7 ++ wX5 T a8 S8 ++ wX3 T a9 S9) (fun z h => c_X6_knownBests l D T a0 a1 a2 a3 a4 a5 a6 a7 a8 a9  S1 S2 S3 S4 S5 S6 S7 S8 S9  z h) ⟨rfl, rfl⟩ (z_cwV C 0 gX6_costs_X6_knownBests rfl rfl dd_X6_knownBests ⟨(Nat.le_of_ble_eq_true rfl), (Nat.le_of_ble_eq_true rfl)⟩) (hD.zaddr rfl) [0, 1, 2, 3, 4, 5, 6, 7, 8, 9, 10, 11, 12, 13, 14, 15, 16, 17, 18, 19, 20, 21, 22, 23, 24, 25, 26, 27, 28, 29, 30, 31, 32, 33] [] [0, 1, 2, 3, 4, 5, 6, 7, 8, 9, 10, 11, 12, 13, 14, 15, 16, 17, 18, 19, 20, 21, 22, 23, 24, 25, 26, 27, 28, 29, 30, 31, 32, 33] rfl rfl rfl (by decide) (fun _ => rfl) (fun _ => ⟨a0 99, [], 5, 0, _, _, rfl, rfl, rfl, rfl, rfl⟩) (fun h => absurd rfl h) rfl (Nat.le_of_ble_eq_true rfl) dX6_costs_19 22 rfl h (fun r_3 h => ?_)
    refine z_iconst C 0 dX6_costs_22 (by decide) 23 rfl ?_
    refine z_iload_n C dX6_costs_23 rfl 2 rfl 24 rfl ?_
    refine z_callR C (wX0 T a4 r_3) (fun v h => c_X0_inkOf l D T a4  r_3 0 r_2 v h) ⟨rfl, rfl⟩ (z_cwV C 2 gX6_costs_X0_inkOf rfl rfl dd_X0_inkOf ⟨(Nat.le_of_ble_eq_true rfl), (Nat.le_of_ble_eq_true rfl)⟩) (hD.zaddr rfl) [13, 14, 15, 16, 17, 18, 19] rfl rfl (fun _ => ⟨a4 99, [.int 0, .int r_2], 0, 0, _, _, rfl, rfl, rfl, rfl, rfl⟩) (fun h => absurd rfl h) rfl (Nat.le_of_ble_eq_true rfl) dX6_costs_24 27 rfl h (fun r_4 h => ?_)
    refine z_istore_n C [(0, .ref (a0 99)), (1, .int v1), (2, .int r_2), (3, .int r_4)] dX6_costs_27 rfl (Nat.le_of_ble_eq_true rfl) [1, 2, 3, 0] rfl 28 rfl ?_
    refine z_iload_n C dX6_costs_28 rfl 3 rfl 29 rfl ?_
    refine z_bipush C (-2) dX6_costs_29 (by decide) 31 rfl ?_
    refine z_icmp_ne C 39 dX6_costs_31 (by decide) 34 rfl h (fun h => ?_) (fun h => ?_)
    · refine z_iload_n C dX6_costs_39 rfl 3 rfl 40 rfl ?_
      refine z_aload_n C dX6_costs_40 rfl 0 rfl 41 rfl ?_
      refine z_get C (in_X6_costs_X6) 0 rfl rfl 3 (by decide) (List.mem_of_getElem? (i := 2) rfl) rfl rfl dX6_costs_41 44 rfl ?_
      refine z_iconst C 0 dX6_costs_44 (by decide) 45 rfl ?_
      refine z_iload_n C dX6_costs_45 rfl 2 rfl 46 rfl ?_
      refine z_iconst C 1 dX6_costs_46 (by decide) 47 rfl ?_
      refine z_iload_n C dX6_costs_47 rfl 1 rfl 48 rfl ?_
      refine z_ishl C dX6_costs_48 49 rfl ?_
      refine z_ixor C dX6_costs_49 50 rfl ?_
      refine z_callR C (wX0 T a4 r_3) (fun v h => c_X0_inkOf l D T a4  r_3 0 (r_2 ^^^ (1 <<< (v1 &&& 31))) v h) ⟨rfl, rfl⟩ (z_cwV C 2 gX6_costs_X0_inkOf rfl rfl dd_X0_inkOf ⟨(Nat.le_of_ble_eq_true rfl), (Nat.le_of_ble_eq_true rfl)⟩) (hD.zaddr rfl) [13, 14, 15, 16, 17, 18, 19] rfl rfl (fun _ => ⟨a4 99, [.int 0, .int (r_2 ^^^ (1 <<< (v1 &&& 31)))], 0, 0, _, _, rfl, rfl, rfl, rfl, rfl⟩) (fun h => absurd rfl h) rfl (Nat.le_of_ble_eq_true rfl) dX6_costs_50 53 rfl h (fun r_5 h => ?_)
      refine z_isub C dX6_costs_53 54 rfl ?_
      exact z_iretW (fun z => wX6 a0 a1 a2 a3 a4 a5 a6 a7 a8 a9 ++ wX4 T a1 S1 ++ wX1 T a2 S2 ++ wX1 T a3 S3 ++ wX0 T a4 z ++ wX5 T a5 S5 ++ wX5 T a6 S6 ++ wX5 T a7 S7 ++ wX5 T a8 S8 ++ wX3 T a9 S9) C hr dX6_costs_54 h rfl
    · refine z_bipush C (-2) dX6_costs_34 (by decide) 36 rfl ?_
      refine z_goto C 54 dX6_costs_36 (by decide) ?_
      exact z_iretW (fun z => wX6 a0 a1 a2 a3 a4 a5 a6 a7 a8 a9 ++ wX4 T a1 S1 ++ wX1 T a2 S2 ++ wX1 T a3 S3 ++ wX0 T a4 z ++ wX5 T a5 S5 ++ wX5 T a6 S6 ++ wX5 T a7 S7 ++ wX5 T a8 S8 ++ wX3 T a9 S9) C hr dX6_costs_54 h rfl
  · refine z_iconst C (-1) dX6_costs_8 (by decide) 9 rfl ?_
    exact z_iretW (fun z => wX6 a0 a1 a2 a3 a4 a5 a6 a7 a8 a9 ++ wX4 T a1 S1 ++ wX1 T a2 S2 ++ wX1 T a3 S3 ++ wX0 T a4 z ++ wX5 T a5 S5 ++ wX5 T a6 S6 ++ wX5 T a7 S7 ++ wX5 T a8 S8 ++ wX3 T a9 S9) C hr dX6_costs_9 h rfl

end
/-! StreamTree.bars (II)I -/
section
variable {p : Program} {l : Launch} {e : Env} {R : Room} {s : State} {m : MethodId} {args : Array Value} {below : List Frame} {meth : Method} {c : Code} {Q : State → Prop} {A : Nat → Prop} {D : va_G} {T : Nat → ClassId} {a0 : Nat → Nat} {a1 : Nat → Nat} {a2 : Nat → Nat} {a3 : Nat → Nat} {a4 : Nat → Nat} {a5 : Nat → Nat} {a6 : Nat → Nat} {a7 : Nat → Nat} {a8 : Nat → Nat} {a9 : Nat → Nat}
theorem in_X6_bars_X5 : ∀ w ∈ u_ws RX5 TX5 5, w ∈ wsX6_bars := fun _ h => (List.mem_cons_of_mem _ (List.mem_append_left _ (List.mem_append_right _ h)))
theorem in_X6_bars_X1 : ∀ w ∈ u_ws RX1 TX1 10, w ∈ wsX6_bars := fun _ h => (List.mem_cons_of_mem _ (List.mem_append_left _ (List.mem_append_left _ (List.mem_append_right _ h))))
theorem in_X6_bars_X6 : ∀ w ∈ u_ws RX6 TX6 9, w ∈ wsX6_bars := fun _ h => (List.mem_cons_of_mem _ (List.mem_append_left _ (List.mem_append_left _ (List.mem_append_left _ (List.mem_append_right _ h)))))
def f_X6_bars (S1 : Nat → Nat → Int32) (S2 : Nat → Nat → Int32) (S3 : Nat → Nat → Int32) (S4 : Nat → Nat → Int32) (S5 : Nat → Nat → Int32) (S6 : Nat → Nat → Int32) (S7 : Nat → Nat → Int32) (S8 : Nat → Nat → Int32) (S9 : Nat → Nat → Int32) (v1 : Int32) (v2 : Int32) : Option (Int32 × (Nat → Nat → Int32) × (Nat → Nat → Int32) × (Nat → Nat → Int32) × (Nat → Nat → Int32) × (Nat → Nat → Int32) × (Nat → Nat → Int32)) := (f_X1_hasCell S2 v1 v2).bind fun r_1 => if r_1 = 0 then (some ((-1), S2, S4, S5, S6, S7, S8)) else ((f_X6_cellOf v1 v2).bind fun r_2 => zix r_2 240 fun _ => if (S2 9 (Int32.toNatClampNeg r_2)) = 0 then (some ((-1), S2, S4, S5, S6, S7, S8)) else ((f_X6_treeOf S1 S2 S3 S4 S5 S6 S7 S8 S9 4).bind fun r_3 => if r_3.1 = 5 then (if (r_3.2.2.1 1 0) = 0 then (some ((-2), S2, r_3.2.1, r_3.2.2.1, r_3.2.2.2.1, r_3.2.2.2.2.1, r_3.2.2.2.2.2)) else ((f_X6_cellOf v1 v2).bind fun r_4 => (f_X6_leastInkWithoutRock S1 S2 S3 r_3.2.1 r_3.2.2.1 r_3.2.2.2.1 r_3.2.2.2.2.1 r_3.2.2.2.2.2 S9 r_4).bind fun r_5 => some (((r_3.2.2.1 2 0) - r_5.1), r_5.2.1, r_5.2.2, r_3.2.2.1, r_3.2.2.2.1, r_3.2.2.2.2.1, r_3.2.2.2.2.2))) else (if r_3.1 = 6 then (if (r_3.2.2.2.1 1 0) = 0 then (some ((-2), S2, r_3.2.1, r_3.2.2.1, r_3.2.2.2.1, r_3.2.2.2.2.1, r_3.2.2.2.2.2)) else ((f_X6_cellOf v1 v2).bind fun r_6 => (f_X6_leastInkWithoutRock S1 S2 S3 r_3.2.1 r_3.2.2.1 r_3.2.2.2.1 r_3.2.2.2.2.1 r_3.2.2.2.2.2 S9 r_6).bind fun r_7 => some (((r_3.2.2.2.1 2 0) - r_7.1), r_7.2.1, r_7.2.2, r_3.2.2.1, r_3.2.2.2.1, r_3.2.2.2.2.1, r_3.2.2.2.2.2))) else (if (r_3.2.2.2.2.2 1 0) = 0 then (some ((-2), S2, r_3.2.1, r_3.2.2.1, r_3.2.2.2.1, r_3.2.2.2.2.1, r_3.2.2.2.2.2)) else ((f_X6_cellOf v1 v2).bind fun r_8 => (f_X6_leastInkWithoutRock S1 S2 S3 r_3.2.1 r_3.2.2.1 r_3.2.2.2.1 r_3.2.2.2.2.1 r_3.2.2.2.2.2 S9 r_8).bind fun r_9 => some (((r_3.2.2.2.2.2 2 0) - r_9.1), r_9.2.1, r_9.2.2, r_3.2.2.1, r_3.2.2.2.1, r_3.2.2.2.2.1, r_3.2.2.2.2.2))))))
theorem dd_X6_bars : RX6 ≠ "java/lang/invoke/MethodHandle" ∧ RX6 ≠ "java/lang/invoke/VarHandle" ∧ (parseMethodDescriptor yX6_bars.desc).map (fun d => d.parameters.length) = some 2 := by decide +kernel
set_option maxHeartbeats 4000000 in
set_option maxRecDepth 100000 in
theorem c_X6_bars (l : Launch) (D : va_G) (T : Nat → ClassId) (a0 : Nat → Nat) (a1 : Nat → Nat) (a2 : Nat → Nat) (a3 : Nat → Nat) (a4 : Nat → Nat) (a5 : Nat → Nat) (a6 : Nat → Nat) (a7 : Nat → Nat) (a8 : Nat → Nat) (a9 : Nat → Nat) (S1 : Nat → Nat → Int32) (S2 : Nat → Nat → Int32) (S3 : Nat → Nat → Int32) (S4 : Nat → Nat → Int32) (S5 : Nat → Nat → Int32) (S6 : Nat → Nat → Int32) (S7 : Nat → Nat → Int32) (S8 : Nat → Nat → Int32) (S9 : Nat → Nat → Int32) (v1 : Int32) (v2 : Int32) (ex : Int32 × (Nat → Nat → Int32) × (Nat → Nat → Int32) × (Nat → Nat → Int32) × (Nat → Nat → Int32) × (Nat → Nat → Int32) × (Nat → Nat → Int32)) (h : f_X6_bars S1 S2 S3 S4 S5 S6 S7 S8 S9 v1 v2 = some ex) : zWI l yX6_bars wsX6_bars ({ frames := 6, cells := 0, slots := 0, locals := 150 } : Room) D T [.ref (a0 99), .int v1, .int v2] (wX6 a0 a1 a2 a3 a4 a5 a6 a7 a8 a9 ++ wX4 T a1 S1 ++ wX1 T a2 S2 ++ wX1 T a3 S3 ++ wX0 T a4 S4 ++ wX5 T a5 S5 ++ wX5 T a6 S6 ++ wX5 T a7 S7 ++ wX5 T a8 S8 ++ wX3 T a9 S9) ex.1 (wX6 a0 a1 a2 a3 a4 a5 a6 a7 a8 a9 ++ wX4 T a1 S1 ++ wX1 T a2 ex.2.1 ++ wX1 T a3 S3 ++ wX0 T a4 ex.2.2.1 ++ wX5 T a5 ex.2.2.2.1 ++ wX5 T a6 ex.2.2.2.2.1 ++ wX5 T a7 ex.2.2.2.2.2.1 ++ wX5 T a8 ex.2.2.2.2.2.2 ++ wX3 T a9 S9) := by
  refine z_begin (cc := cX6_bars) (nL := 4) (own := RX6) (fr := 6) (lc := 150) (ret := some .int) (by decide) rfl (Nat.le_of_ble_eq_true rfl) (zA (wX6 a0 a1 a2 a3 a4 a5 a6 a7 a8 a9 ++ wX4 T a1 S1 ++ wX1 T a2 S2 ++ wX1 T a3 S3 ++ wX0 T a4 S4 ++ wX5 T a5 S5 ++ wX5 T a6 S6 ++ wX5 T a7 S7 ++ wX5 T a8 S8 ++ wX3 T a9 S9)) rfl [(0, .ref (a0 99)), (1, .int v1), (2, .int v2)] rfl ⟨rfl, rfl⟩ rfl ?_
  intro p e s m args below meth c C hr hD
  have hD := hD.zself
  unfold f_X6_bars at h
  refine z_aload_n C dX6_bars_0 rfl 0 rfl 1 rfl ?_
  refine z_get C (in_X6_bars_X6) 0 rfl rfl 1 (by decide) (List.mem_of_getElem? (i := 1) rfl) rfl rfl dX6_bars_1 4 rfl ?_
  refine z_iload_n C dX6_bars_4 rfl 1 rfl 5 rfl ?_
  refine z_iload_n C dX6_bars_5 rfl 2 rfl 6 rfl ?_
  refine z_callR C (wX1 T a2 S2) (fun v h => c_X1_hasCell l D T a2  S2 v1 v2 v h) ⟨rfl, rfl⟩ (z_cwV C 2 gX6_bars_X1_hasCell rfl rfl dd_X1_hasCell ⟨(Nat.le_of_ble_eq_true rfl), (Nat.le_of_ble_eq_true rfl)⟩) (hD.zaddr rfl) [3, 4, 5, 6, 7] rfl rfl (fun _ => ⟨a2 99, [.int v1, .int v2], 1, 0, _, _, rfl, rfl, rfl, rfl, rfl⟩) (fun h => absurd rfl h) rfl (Nat.le_of_ble_eq_true rfl) dX6_bars_6 9 rfl h (fun r_1 h => ?_)
  refine z_if_eq C 28 dX6_bars_9 (by decide) 12 rfl h (fun h => ?_) (fun h => ?_)
  · refine z_iconst C (-1) dX6_bars_28 (by decide) 29 rfl ?_
    exact z_iretW (fun z => wX6 a0 a1 a2 a3 a4 a5 a6 a7 a8 a9 ++ wX4 T a1 S1 ++ wX1 T a2 z.1 ++ wX1 T a3 S3 ++ wX0 T a4 z.2.1 ++ wX5 T a5 z.2.2.1 ++ wX5 T a6 z.2.2.2.1 ++ wX5 T a7 z.2.2.2.2.1 ++ wX5 T a8 z.2.2.2.2.2 ++ wX3 T a9 S9) C hr dX6_bars_29 h rfl
  · refine z_aload_n C dX6_bars_12 rfl 0 rfl 13 rfl ?_
    refine z_get C (in_X6_bars_X6) 0 rfl rfl 1 (by decide) (List.mem_of_getElem? (i := 1) rfl) rfl rfl dX6_bars_13 16 rfl ?_
    refine z_get C (in_X6_bars_X1) 3 rfl rfl 9 (by decide) (List.mem_of_getElem? (i := 2) rfl) rfl rfl dX6_bars_16 19 rfl ?_
    refine z_iload_n C dX6_bars_19 rfl 1 rfl 20 rfl ?_
    refine z_iload_n C dX6_bars_20 rfl 2 rfl 21 rfl ?_
    refine z_callR C ([]) (fun v h => c_X6_cellOf l D T    v1 v2 v h) ⟨rfl, rfl⟩ (z_cwS C 2 gX6_bars_X6_cellOf rfl dd_X6_cellOf ⟨(Nat.le_of_ble_eq_true rfl), (Nat.le_of_ble_eq_true rfl)⟩) (hD.zaddr rfl) [] rfl rfl (fun h => absurd h (by decide)) (fun _ => rfl) rfl (Nat.le_of_ble_eq_true rfl) dX6_bars_21 24 rfl h (fun r_2 h => ?_)
    refine z_zald C 7 rfl rfl dX6_bars_24 25 rfl h (fun h => ?_)
    refine z_if_ne C 30 dX6_bars_25 (by decide) 28 rfl h (fun h => ?_) (fun h => ?_)
    · refine z_aload_n C dX6_bars_30 rfl 0 rfl 31 rfl ?_
      refine z_iconst C 4 dX6_bars_31 (by decide) 32 rfl ?_
      refine z_callA C (wX6 a0 a1 a2 a3 a4 a5 a6 a7 a8 a9 ++ wX4 T a1 S1 ++ wX1 T a2 S2 ++ wX1 T a3 S3 ++ wX0 T a4 S4 ++ wX5 T a5 S5 ++ wX5 T a6 S6 ++ wX5 T a7 S7 ++ wX5 T a8 S8 ++ wX3 T a9 S9) (([] : va_W)) (fun z => if z.1 = 5 then a5 99 else if z.1 = 6 then a6 99 else a8 99) (fun z => wX6 a0 a1 a2 a3 a4 a5 a6 a7 a8 a9 ++ wX4 T a1 S1 ++ wX1 T a2 S2 ++ wX1 T a3 S3 ++ wX0 T a4 z.2.1 ++ wX5 T a5 z.2.2.1 ++ wX5 T a6 z.2.2.2.1 ++ wX5 T a7 z.2.2.2.2.1 ++ wX5 T a8 z.2.2.2.2.2 ++ wX3 T a9 S9) (fun z => wX6 a0 a1 a2 a3 a4 a5 a6 a7 a8 a9 ++ wX4 T a1 S1 ++ wX1 T a2 S2 ++ wX1 T a3 S3 ++ wX0 T a4 z.2.1 ++ wX5 T a5 z.2.2.1 ++ wX5 T a6 z.2.2.2.1 ++ wX5 T a7 z.2.2.2.2.1 ++ wX5 T a8 z.2.2.2.2.2 ++ wX3 T a9 S9) (fun z h => c_X6_treeOf l D T a0 a1 a2 a3 a4 a5 a6 a7 a8 a9  S1 S2 S3 S4 S5 S6 S7 S8 S9 4 z h) ⟨rfl, rfl⟩ (z_cwV C 1 gX6_bars_X6_treeOf rfl rfl dd_X6_treeOf ⟨(Nat.le_of_ble_eq_true rfl), (Nat.le_of_ble_eq_true rfl)⟩) (hD.zaddr rfl) [0, 1, 2, 3, 4, 5, 6, 7, 8, 9, 10, 11, 12, 13, 14, 15, 16, 17, 18, 19, 20, 21, 22, 23, 24, 25, 26, 27, 28, 29, 30, 31, 32, 33] [] [0, 1, 2, 3, 4, 5, 6, 7, 8, 9, 10, 11, 12, 13, 14, 15, 16, 17, 18, 19, 20, 21, 22, 23, 24, 25, 26, 27, 28, 29, 30, 31, 32, 33] rfl rfl rfl (by decide) (fun _ => rfl) (fun _ => ⟨a0 99, [.int 4], 5, 0, _, _, rfl, rfl, rfl, rfl, rfl⟩) (fun h => absurd rfl h) rfl (Nat.le_of_ble_eq_true rfl) dX6_bars_32 35 rfl h (fun r_3 h => ?_)
      refine z_tag (t := r_3.1) 5 (fun t => if t = 5 then a5 99 else if t = 6 then a6 99 else a8 99) rfl h (fun h => ?_) (fun hx_0 h => ?_)
      · refine z_astore_n C [(0, .ref (a0 99)), (1, .int v1), (2, .int v2), (3, .ref (a5 99))] dX6_bars_35 rfl (Nat.le_of_ble_eq_true rfl) [1, 2, 3, 0] rfl 36 rfl ?_
        refine z_aload_n C dX6_bars_36 rfl 3 rfl 37 rfl ?_
        refine z_get C (in_X6_bars_X5) 20 rfl rfl 1 (by decide) (List.mem_of_getElem? (i := 3) rfl) rfl rfl dX6_bars_37 40 rfl ?_
        refine z_if_eq C 60 dX6_bars_40 (by decide) 43 rfl h (fun h => ?_) (fun h => ?_)
        · refine z_bipush C (-2) dX6_bars_60 (by decide) 62 rfl ?_
          exact z_iretW (fun z => wX6 a0 a1 a2 a3 a4 a5 a6 a7 a8 a9 ++ wX4 T a1 S1 ++ wX1 T a2 z.1 ++ wX1 T a3 S3 ++ wX0 T a4 z.2.1 ++ wX5 T a5 z.2.2.1 ++ wX5 T a6 z.2.2.2.1 ++ wX5 T a7 z.2.2.2.2.1 ++ wX5 T a8 z.2.2.2.2.2 ++ wX3 T a9 S9) C hr dX6_bars_62 h rfl
        · refine z_aload_n C dX6_bars_43 rfl 3 rfl 44 rfl ?_
          refine z_get C (in_X6_bars_X5) 20 rfl rfl 2 (by decide) (List.mem_of_getElem? (i := 4) rfl) rfl rfl dX6_bars_44 47 rfl ?_
          refine z_aload_n C dX6_bars_47 rfl 0 rfl 48 rfl ?_
          refine z_iload_n C dX6_bars_48 rfl 1 rfl 49 rfl ?_
          refine z_iload_n C dX6_bars_49 rfl 2 rfl 50 rfl ?_
          refine z_callR C ([]) (fun v h => c_X6_cellOf l D T    v1 v2 v h) ⟨rfl, rfl⟩ (z_cwS C 2 gX6_bars_X6_cellOf rfl dd_X6_cellOf ⟨(Nat.le_of_ble_eq_true rfl), (Nat.le_of_ble_eq_true rfl)⟩) (hD.zaddr rfl) [] rfl rfl (fun h => absurd h (by decide)) (fun _ => rfl) rfl (Nat.le_of_ble_eq_true rfl) dX6_bars_50 53 rfl h (fun r_4 h => ?_)
          refine z_callW C (wX6 a0 a1 a2 a3 a4 a5 a6 a7 a8 a9 ++ wX4 T a1 S1 ++ wX1 T a2 S2 ++ wX1 T a3 S3 ++ wX0 T a4 r_3.2.1 ++ wX5 T a5 r_3.2.2.1 ++ wX5 T a6 r_3.2.2.2.1 ++ wX5 T a7 r_3.2.2.2.2.1 ++ wX5 T a8 r_3.2.2.2.2.2 ++ wX3 T a9 S9) (([] : va_W)) (fun z => z.1) (fun z => wX6 a0 a1 a2 a3 a4 a5 a6 a7 a8 a9 ++ wX4 T a1 S1 ++ wX1 T a2 z.2.1 ++ wX1 T a3 S3 ++ wX0 T a4 z.2.2 ++ wX5 T a5 r_3.2.2.1 ++ wX5 T a6 r_3.2.2.2.1 ++ wX5 T a7 r_3.2.2.2.2.1 ++ wX5 T a8 r_3.2.2.2.2.2 ++ wX3 T a9 S9) (fun z => wX6 a0 a1 a2 a3 a4 a5 a6 a7 a8 a9 ++ wX4 T a1 S1 ++ wX1 T a2 z.2.1 ++ wX1 T a3 S3 ++ wX0 T a4 z.2.2 ++ wX5 T a5 r_3.2.2.1 ++ wX5 T a6 r_3.2.2.2.1 ++ wX5 T a7 r_3.2.2.2.2.1 ++ wX5 T a8 r_3.2.2.2.2.2 ++ wX3 T a9 S9) (fun z h => c_X6_leastInkWithoutRock l D T a0 a1 a2 a3 a4 a5 a6 a7 a8 a9  S1 S2 S3 r_3.2.1 r_3.2.2.1 r_3.2.2.2.1 r_3.2.2.2.2.1 r_3.2.2.2.2.2 S9 r_4 z h) ⟨rfl, rfl⟩ (z_cwV C 1 gX6_bars_X6_leastInkWithoutRock rfl rfl dd_X6_leastInkWithoutRock ⟨(Nat.le_of_ble_eq_true rfl), (Nat.le_of_ble_eq_true rfl)⟩) (hD.zaddr rfl) [0, 1, 2, 3, 4, 5, 6, 7, 8, 9, 10, 11, 12, 13, 14, 15, 16, 17, 18, 19, 20, 21, 22, 23, 24, 25, 26, 27, 28, 29, 30, 31, 32, 33] [] [0, 1, 2, 3, 4, 5, 6, 7, 8, 9, 10, 11, 12, 13, 14, 15, 16, 17, 18, 19, 20, 21, 22, 23, 24, 25, 26, 27, 28, 29, 30, 31, 32, 33] rfl rfl rfl (by decide) (fun _ => rfl) (fun _ => ⟨a0 99, [.int r_4], 5, 0, _, _, rfl, rfl, rfl, rfl, rfl⟩) (fun h => absurd rfl h) rfl (Nat.le_of_ble_eq_true rfl) dX6_bars_53 56 rfl h (fun r_5 h => ?_)
          refine z_isub C dX6_bars_56 57 rfl ?_
          refine z_goto C 62 dX6_bars_57 (by decide) ?_
          exact z_iretW (fun z => wX6 a0 a1 a2 a3 a4 a5 a6 a7 a8 a9 ++ wX4 T a1 S1 ++ wX1 T a2 z.1 ++ wX1 T a3 S3 ++ wX0 T a4 z.2.1 ++ wX5 T a5 z.2.2.1 ++ wX5 T a6 z.2.2.2.1 ++ wX5 T a7 z.2.2.2.2.1 ++ wX5 T a8 z.2.2.2.2.2 ++ wX3 T a9 S9) C hr dX6_bars_62 h rfl
      · refine z_tag (t := r_3.1) 6 (fun t => if t = 5 then a5 99 else if t = 6 then a6 99 else a8 99) rfl h (fun h => ?_) (fun hx_1 h => ?_)
        · refine z_astore_n C [(0, .ref (a0 99)), (1, .int v1), (2, .int v2), (3, .ref (a6 99))] dX6_bars_35 rfl (Nat.le_of_ble_eq_true rfl) [1, 2, 3, 0] rfl 36 rfl ?_
          refine z_aload_n C dX6_bars_36 rfl 3 rfl 37 rfl ?_
          refine z_get C (in_X6_bars_X5) 23 rfl rfl 1 (by decide) (List.mem_of_getElem? (i := 3) rfl) rfl rfl dX6_bars_37 40 rfl ?_
          refine z_if_eq C 60 dX6_bars_40 (by decide) 43 rfl h (fun h => ?_) (fun h => ?_)
          · refine z_bipush C (-2) dX6_bars_60 (by decide) 62 rfl ?_
            exact z_iretW (fun z => wX6 a0 a1 a2 a3 a4 a5 a6 a7 a8 a9 ++ wX4 T a1 S1 ++ wX1 T a2 z.1 ++ wX1 T a3 S3 ++ wX0 T a4 z.2.1 ++ wX5 T a5 z.2.2.1 ++ wX5 T a6 z.2.2.2.1 ++ wX5 T a7 z.2.2.2.2.1 ++ wX5 T a8 z.2.2.2.2.2 ++ wX3 T a9 S9) C hr dX6_bars_62 h rfl
          · refine z_aload_n C dX6_bars_43 rfl 3 rfl 44 rfl ?_
            refine z_get C (in_X6_bars_X5) 23 rfl rfl 2 (by decide) (List.mem_of_getElem? (i := 4) rfl) rfl rfl dX6_bars_44 47 rfl ?_
            refine z_aload_n C dX6_bars_47 rfl 0 rfl 48 rfl ?_
            refine z_iload_n C dX6_bars_48 rfl 1 rfl 49 rfl ?_
            refine z_iload_n C dX6_bars_49 rfl 2 rfl 50 rfl ?_
            refine z_callR C ([]) (fun v h => c_X6_cellOf l D T    v1 v2 v h) ⟨rfl, rfl⟩ (z_cwS C 2 gX6_bars_X6_cellOf rfl dd_X6_cellOf ⟨(Nat.le_of_ble_eq_true rfl), (Nat.le_of_ble_eq_true rfl)⟩) (hD.zaddr rfl) [] rfl rfl (fun h => absurd h (by decide)) (fun _ => rfl) rfl (Nat.le_of_ble_eq_true rfl) dX6_bars_50 53 rfl h (fun r_6 h => ?_)
            refine z_callW C (wX6 a0 a1 a2 a3 a4 a5 a6 a7 a8 a9 ++ wX4 T a1 S1 ++ wX1 T a2 S2 ++ wX1 T a3 S3 ++ wX0 T a4 r_3.2.1 ++ wX5 T a5 r_3.2.2.1 ++ wX5 T a6 r_3.2.2.2.1 ++ wX5 T a7 r_3.2.2.2.2.1 ++ wX5 T a8 r_3.2.2.2.2.2 ++ wX3 T a9 S9) (([] : va_W)) (fun z => z.1) (fun z => wX6 a0 a1 a2 a3 a4 a5 a6 a7 a8 a9 ++ wX4 T a1 S1 ++ wX1 T a2 z.2.1 ++ wX1 T a3 S3 ++ wX0 T a4 z.2.2 ++ wX5 T a5 r_3.2.2.1 ++ wX5 T a6 r_3.2.2.2.1 ++ wX5 T a7 r_3.2.2.2.2.1 ++ wX5 T a8 r_3.2.2.2.2.2 ++ wX3 T a9 S9) (fun z => wX6 a0 a1 a2 a3 a4 a5 a6 a7 a8 a9 ++ wX4 T a1 S1 ++ wX1 T a2 z.2.1 ++ wX1 T a3 S3 ++ wX0 T a4 z.2.2 ++ wX5 T a5 r_3.2.2.1 ++ wX5 T a6 r_3.2.2.2.1 ++ wX5 T a7 r_3.2.2.2.2.1 ++ wX5 T a8 r_3.2.2.2.2.2 ++ wX3 T a9 S9) (fun z h => c_X6_leastInkWithoutRock l D T a0 a1 a2 a3 a4 a5 a6 a7 a8 a9  S1 S2 S3 r_3.2.1 r_3.2.2.1 r_3.2.2.2.1 r_3.2.2.2.2.1 r_3.2.2.2.2.2 S9 r_6 z h) ⟨rfl, rfl⟩ (z_cwV C 1 gX6_bars_X6_leastInkWithoutRock rfl rfl dd_X6_leastInkWithoutRock ⟨(Nat.le_of_ble_eq_true rfl), (Nat.le_of_ble_eq_true rfl)⟩) (hD.zaddr rfl) [0, 1, 2, 3, 4, 5, 6, 7, 8, 9, 10, 11, 12, 13, 14, 15, 16, 17, 18, 19, 20, 21, 22, 23, 24, 25, 26, 27, 28, 29, 30, 31, 32, 33] [] [0, 1, 2, 3, 4, 5, 6, 7, 8, 9, 10, 11, 12, 13, 14, 15, 16, 17, 18, 19, 20, 21, 22, 23, 24, 25, 26, 27, 28, 29, 30, 31, 32, 33] rfl rfl rfl (by decide) (fun _ => rfl) (fun _ => ⟨a0 99, [.int r_6], 5, 0, _, _, rfl, rfl, rfl, rfl, rfl⟩) (fun h => absurd rfl h) rfl (Nat.le_of_ble_eq_true rfl) dX6_bars_53 56 rfl h (fun r_7 h => ?_)
            refine z_isub C dX6_bars_56 57 rfl ?_
            refine z_goto C 62 dX6_bars_57 (by decide) ?_
            exact z_iretW (fun z => wX6 a0 a1 a2 a3 a4 a5 a6 a7 a8 a9 ++ wX4 T a1 S1 ++ wX1 T a2 z.1 ++ wX1 T a3 S3 ++ wX0 T a4 z.2.1 ++ wX5 T a5 z.2.2.1 ++ wX5 T a6 z.2.2.2.1 ++ wX5 T a7 z.2.2.2.2.1 ++ wX5 T a8 z.2.2.2.2.2 ++ wX3 T a9 S9) C hr dX6_bars_62 h rfl
        · refine z_ref (b := a8 99) (by show (if _ = _ then _ else _) = _; rw [if_neg hx_0, if_neg hx_1]) ?_
          refine z_astore_n C [(0, .ref (a0 99)), (1, .int v1), (2, .int v2), (3, .ref (a8 99))] dX6_bars_35 rfl (Nat.le_of_ble_eq_true rfl) [1, 2, 3, 0] rfl 36 rfl ?_
          refine z_aload_n C dX6_bars_36 rfl 3 rfl 37 rfl ?_
          refine z_get C (in_X6_bars_X5) 29 rfl rfl 1 (by decide) (List.mem_of_getElem? (i := 3) rfl) rfl rfl dX6_bars_37 40 rfl ?_
          refine z_if_eq C 60 dX6_bars_40 (by decide) 43 rfl h (fun h => ?_) (fun h => ?_)
          · refine z_bipush C (-2) dX6_bars_60 (by decide) 62 rfl ?_
            exact z_iretW (fun z => wX6 a0 a1 a2 a3 a4 a5 a6 a7 a8 a9 ++ wX4 T a1 S1 ++ wX1 T a2 z.1 ++ wX1 T a3 S3 ++ wX0 T a4 z.2.1 ++ wX5 T a5 z.2.2.1 ++ wX5 T a6 z.2.2.2.1 ++ wX5 T a7 z.2.2.2.2.1 ++ wX5 T a8 z.2.2.2.2.2 ++ wX3 T a9 S9) C hr dX6_bars_62 h rfl
          · refine z_aload_n C dX6_bars_43 rfl 3 rfl 44 rfl ?_
            refine z_get C (in_X6_bars_X5) 29 rfl rfl 2 (by decide) (List.mem_of_getElem? (i := 4) rfl) rfl rfl dX6_bars_44 47 rfl ?_
            refine z_aload_n C dX6_bars_47 rfl 0 rfl 48 rfl ?_
            refine z_iload_n C dX6_bars_48 rfl 1 rfl 49 rfl ?_
            refine z_iload_n C dX6_bars_49 rfl 2 rfl 50 rfl ?_
            refine z_callR C ([]) (fun v h => c_X6_cellOf l D T    v1 v2 v h) ⟨rfl, rfl⟩ (z_cwS C 2 gX6_bars_X6_cellOf rfl dd_X6_cellOf ⟨(Nat.le_of_ble_eq_true rfl), (Nat.le_of_ble_eq_true rfl)⟩) (hD.zaddr rfl) [] rfl rfl (fun h => absurd h (by decide)) (fun _ => rfl) rfl (Nat.le_of_ble_eq_true rfl) dX6_bars_50 53 rfl h (fun r_8 h => ?_)
            refine z_callW C (wX6 a0 a1 a2 a3 a4 a5 a6 a7 a8 a9 ++ wX4 T a1 S1 ++ wX1 T a2 S2 ++ wX1 T a3 S3 ++ wX0 T a4 r_3.2.1 ++ wX5 T a5 r_3.2.2.1 ++ wX5 T a6 r_3.2.2.2.1 ++ wX5 T a7 r_3.2.2.2.2.1 ++ wX5 T a8 r_3.2.2.2.2.2 ++ wX3 T a9 S9) (([] : va_W)) (fun z => z.1) (fun z => wX6 a0 a1 a2 a3 a4 a5 a6 a7 a8 a9 ++ wX4 T a1 S1 ++ wX1 T a2 z.2.1 ++ wX1 T a3 S3 ++ wX0 T a4 z.2.2 ++ wX5 T a5 r_3.2.2.1 ++ wX5 T a6 r_3.2.2.2.1 ++ wX5 T a7 r_3.2.2.2.2.1 ++ wX5 T a8 r_3.2.2.2.2.2 ++ wX3 T a9 S9) (fun z => wX6 a0 a1 a2 a3 a4 a5 a6 a7 a8 a9 ++ wX4 T a1 S1 ++ wX1 T a2 z.2.1 ++ wX1 T a3 S3 ++ wX0 T a4 z.2.2 ++ wX5 T a5 r_3.2.2.1 ++ wX5 T a6 r_3.2.2.2.1 ++ wX5 T a7 r_3.2.2.2.2.1 ++ wX5 T a8 r_3.2.2.2.2.2 ++ wX3 T a9 S9) (fun z h => c_X6_leastInkWithoutRock l D T a0 a1 a2 a3 a4 a5 a6 a7 a8 a9  S1 S2 S3 r_3.2.1 r_3.2.2.1 r_3.2.2.2.1 r_3.2.2.2.2.1 r_3.2.2.2.2.2 S9 r_8 z h) ⟨rfl, rfl⟩ (z_cwV C 1 gX6_bars_X6_leastInkWithoutRock rfl rfl dd_X6_leastInkWithoutRock ⟨(Nat.le_of_ble_eq_true rfl), (Nat.le_of_ble_eq_true rfl)⟩) (hD.zaddr rfl) [0, 1, 2, 3, 4, 5, 6, 7, 8, 9, 10, 11, 12, 13, 14, 15, 16, 17, 18, 19, 20, 21, 22, 23, 24, 25, 26, 27, 28, 29, 30, 31, 32, 33] [] [0, 1, 2, 3, 4, 5, 6, 7, 8, 9, 10, 11, 12, 13, 14, 15, 16, 17, 18, 19, 20, 21, 22, 23, 24, 25, 26, 27, 28, 29, 30, 31, 32, 33] rfl rfl rfl (by decide) (fun _ => rfl) (fun _ => ⟨a0 99, [.int r_8], 5, 0, _, _, rfl, rfl, rfl, rfl, rfl⟩) (fun h => absurd rfl h) rfl (Nat.le_of_ble_eq_true rfl) dX6_bars_53 56 rfl h (fun r_9 h => ?_)
            refine z_isub C dX6_bars_56 57 rfl ?_
            refine z_goto C 62 dX6_bars_57 (by decide) ?_
            exact z_iretW (fun z => wX6 a0 a1 a2 a3 a4 a5 a6 a7 a8 a9 ++ wX4 T a1 S1 ++ wX1 T a2 z.1 ++ wX1 T a3 S3 ++ wX0 T a4 z.2.1 ++ wX5 T a5 z.2.2.1 ++ wX5 T a6 z.2.2.2.1 ++ wX5 T a7 z.2.2.2.2.1 ++ wX5 T a8 z.2.2.2.2.2 ++ wX3 T a9 S9) C hr dX6_bars_62 h rfl
    · refine z_iconst C (-1) dX6_bars_28 (by decide) 29 rfl ?_
      exact z_iretW (fun z => wX6 a0 a1 a2 a3 a4 a5 a6 a7 a8 a9 ++ wX4 T a1 S1 ++ wX1 T a2 z.1 ++ wX1 T a3 S3 ++ wX0 T a4 z.2.1 ++ wX5 T a5 z.2.2.1 ++ wX5 T a6 z.2.2.2.1 ++ wX5 T a7 z.2.2.2.2.1 ++ wX5 T a8 z.2.2.2.2.2 ++ wX3 T a9 S9) C hr dX6_bars_29 h rfl

end
/-! StreamTree.more (IIII)I -/
section
variable {p : Program} {l : Launch} {e : Env} {R : Room} {s : State} {m : MethodId} {args : Array Value} {below : List Frame} {meth : Method} {c : Code} {Q : State → Prop} {A : Nat → Prop} {D : va_G} {T : Nat → ClassId} {a0 : Nat → Nat} {a1 : Nat → Nat} {a2 : Nat → Nat} {a3 : Nat → Nat} {a4 : Nat → Nat} {a5 : Nat → Nat} {a6 : Nat → Nat} {a7 : Nat → Nat} {a8 : Nat → Nat} {a9 : Nat → Nat}
theorem in_X6_more_X3 : ∀ w ∈ u_ws RX3 TX3 5, w ∈ wsX6_more := fun _ h => (List.mem_cons_of_mem _ (List.mem_append_left _ (List.mem_append_right _ h)))
theorem in_X6_more_X5 : ∀ w ∈ u_ws RX5 TX5 5, w ∈ wsX6_more := fun _ h => (List.mem_cons_of_mem _ (List.mem_append_left _ (List.mem_append_left _ (List.mem_append_right _ h))))
theorem in_X6_more_X1 : ∀ w ∈ u_ws RX1 TX1 10, w ∈ wsX6_more := fun _ h => (List.mem_cons_of_mem _ (List.mem_append_left _ (List.mem_append_left _ (List.mem_append_left _ (List.mem_append_right _ h)))))
theorem in_X6_more_X6 : ∀ w ∈ u_ws RX6 TX6 9, w ∈ wsX6_more := fun _ h => (List.mem_cons_of_mem _ (List.mem_append_left _ (List.mem_append_left _ (List.mem_append_left _ (List.mem_append_left _ (List.mem_append_right _ h))))))
def f_X6_more (S1 : Nat → Nat → Int32) (S2 : Nat → Nat → Int32) (S3 : Nat → Nat → Int32) (S4 : Nat → Nat → Int32) (S5 : Nat → Nat → Int32) (S6 : Nat → Nat → Int32) (S7 : Nat → Nat → Int32) (S8 : Nat → Nat → Int32) (S9 : Nat → Nat → Int32) (v1 : Int32) (v2 : Int32) (v3 : Int32) (v4 : Int32) : Option (Int32 × (Nat → Nat → Int32) × (Nat → Nat → Int32) × (Nat → Nat → Int32) × (Nat → Nat → Int32) × (Nat → Nat → Int32) × (Nat → Nat → Int32)) := (f_X1_hasCell S2 v1 v2).bind fun r_1 => if r_1 = 0 then (some ((-1), S4, S5, S6, S7, S8, S9)) else ((f_X6_isWithin v3 1 99).bind fun r_2 => if r_2 = 0 then (some ((-1), S4, S5, S6, S7, S8, S9)) else ((f_X6_isWithin v4 0 2).bind fun r_3 => if r_3 = 0 then (some ((-1), S4, S5, S6, S7, S8, S9)) else ((f_X6_cellOf v1 v2).bind fun r_4 => zix r_4 240 fun _ => if (S2 9 (Int32.toNatClampNeg r_4)) = 0 then ((f_X6_treeOf S1 S2 S3 S4 S5 S6 S7 S8 S9 4).bind fun r_5 => if r_5.1 = 5 then (if (r_5.2.2.1 1 0) = 0 then (some ((-2), r_5.2.1, r_5.2.2.1, r_5.2.2.2.1, r_5.2.2.2.2.1, r_5.2.2.2.2.2, S9)) else ((f_X3_findWay S9 S2 r_5.2.2.1 v1 v2 v3).bind fun r_6 => if r_6.1 = 0 then (some ((-2), r_5.2.1, r_5.2.2.1, r_5.2.2.2.1, r_5.2.2.2.2.1, r_5.2.2.2.2.2, r_6.2)) else (if v4 = 0 then (some ((r_6.2 0 0), r_5.2.1, r_5.2.2.1, r_5.2.2.2.1, r_5.2.2.2.2.1, r_5.2.2.2.2.2, r_6.2)) else (if v4 = 1 then (some ((r_6.2 1 0), r_5.2.1, r_5.2.2.1, r_5.2.2.2.1, r_5.2.2.2.2.1, r_5.2.2.2.2.2, r_6.2)) else (some ((r_6.2 2 0), r_5.2.1, r_5.2.2.1, r_5.2.2.2.1, r_5.2.2.2.2.1, r_5.2.2.2.2.2, r_6.2)))))) else (if r_5.1 = 6 then (if (r_5.2.2.2.1 1 0) = 0 then (some ((-2), r_5.2.1, r_5.2.2.1, r_5.2.2.2.1, r_5.2.2.2.2.1, r_5.2.2.2.2.2, S9)) else ((f_X3_findWay S9 S2 r_5.2.2.2.1 v1 v2 v3).bind fun r_7 => if r_7.1 = 0 then (some ((-2), r_5.2.1, r_5.2.2.1, r_5.2.2.2.1, r_5.2.2.2.2.1, r_5.2.2.2.2.2, r_7.2)) else (if v4 = 0 then (some ((r_7.2 0 0), r_5.2.1, r_5.2.2.1, r_5.2.2.2.1, r_5.2.2.2.2.1, r_5.2.2.2.2.2, r_7.2)) else (if v4 = 1 then (some ((r_7.2 1 0), r_5.2.1, r_5.2.2.1, r_5.2.2.2.1, r_5.2.2.2.2.1, r_5.2.2.2.2.2, r_7.2)) else (some ((r_7.2 2 0), r_5.2.1, r_5.2.2.1, r_5.2.2.2.1, r_5.2.2.2.2.1, r_5.2.2.2.2.2, r_7.2)))))) else (if (r_5.2.2.2.2.2 1 0) = 0 then (some ((-2), r_5.2.1, r_5.2.2.1, r_5.2.2.2.1, r_5.2.2.2.2.1, r_5.2.2.2.2.2, S9)) else ((f_X3_findWay S9 S2 r_5.2.2.2.2.2 v1 v2 v3).bind fun r_8 => if r_8.1 = 0 then (some ((-2), r_5.2.1, r_5.2.2.1, r_5.2.2.2.1, r_5.2.2.2.2.1, r_5.2.2.2.2.2, r_8.2)) else (if v4 = 0 then (some ((r_8.2 0 0), r_5.2.1, r_5.2.2.1, r_5.2.2.2.1, r_5.2.2.2.2.1, r_5.2.2.2.2.2, r_8.2)) else (if v4 = 1 then (some ((r_8.2 1 0), r_5.2.1, r_5.2.2.1, r_5.2.2.2.1, r_5.2.2.2.2.1, r_5.2.2.2.2.2, r_8.2)) else (some ((r_8.2 2 0), r_5.2.1, r_5.2.2.1, r_5.2.2.2.1, r_5.2.2.2.2.1, r_5.2.2.2.2.2, r_8.2)))))))) else (some ((-1), S4, S5, S6, S7, S8, S9)))))
theorem dd_X6_more : RX6 ≠ "java/lang/invoke/MethodHandle" ∧ RX6 ≠ "java/lang/invoke/VarHandle" ∧ (parseMethodDescriptor yX6_more.desc).map (fun d => d.parameters.length) = some 4 := by decide +kernel
set_option maxHeartbeats 4000000 in
set_option maxRecDepth 100000 in
theorem c_X6_more (l : Launch) (D : va_G) (T : Nat → ClassId) (a0 : Nat → Nat) (a1 : Nat → Nat) (a2 : Nat → Nat) (a3 : Nat → Nat) (a4 : Nat → Nat) (a5 : Nat → Nat) (a6 : Nat → Nat) (a7 : Nat → Nat) (a8 : Nat → Nat) (a9 : Nat → Nat) (S1 : Nat → Nat → Int32) (S2 : Nat → Nat → Int32) (S3 : Nat → Nat → Int32) (S4 : Nat → Nat → Int32) (S5 : Nat → Nat → Int32) (S6 : Nat → Nat → Int32) (S7 : Nat → Nat → Int32) (S8 : Nat → Nat → Int32) (S9 : Nat → Nat → Int32) (v1 : Int32) (v2 : Int32) (v3 : Int32) (v4 : Int32) (ex : Int32 × (Nat → Nat → Int32) × (Nat → Nat → Int32) × (Nat → Nat → Int32) × (Nat → Nat → Int32) × (Nat → Nat → Int32) × (Nat → Nat → Int32)) (h : f_X6_more S1 S2 S3 S4 S5 S6 S7 S8 S9 v1 v2 v3 v4 = some ex) : zWI l yX6_more wsX6_more ({ frames := 6, cells := 0, slots := 0, locals := 150 } : Room) D T [.ref (a0 99), .int v1, .int v2, .int v3, .int v4] (wX6 a0 a1 a2 a3 a4 a5 a6 a7 a8 a9 ++ wX4 T a1 S1 ++ wX1 T a2 S2 ++ wX1 T a3 S3 ++ wX0 T a4 S4 ++ wX5 T a5 S5 ++ wX5 T a6 S6 ++ wX5 T a7 S7 ++ wX5 T a8 S8 ++ wX3 T a9 S9) ex.1 (wX6 a0 a1 a2 a3 a4 a5 a6 a7 a8 a9 ++ wX4 T a1 S1 ++ wX1 T a2 S2 ++ wX1 T a3 S3 ++ wX0 T a4 ex.2.1 ++ wX5 T a5 ex.2.2.1 ++ wX5 T a6 ex.2.2.2.1 ++ wX5 T a7 ex.2.2.2.2.1 ++ wX5 T a8 ex.2.2.2.2.2.1 ++ wX3 T a9 ex.2.2.2.2.2.2) := by
  refine z_begin (cc := cX6_more) (nL := 6) (own := RX6) (fr := 6) (lc := 150) (ret := some .int) (by decide) rfl (Nat.le_of_ble_eq_true rfl) (zA (wX6 a0 a1 a2 a3 a4 a5 a6 a7 a8 a9 ++ wX4 T a1 S1 ++ wX1 T a2 S2 ++ wX1 T a3 S3 ++ wX0 T a4 S4 ++ wX5 T a5 S5 ++ wX5 T a6 S6 ++ wX5 T a7 S7 ++ wX5 T a8 S8 ++ wX3 T a9 S9)) rfl [(0, .ref (a0 99)), (1, .int v1), (2, .int v2), (3, .int v3), (4, .int v4)] rfl ⟨rfl, rfl⟩ rfl ?_
  intro p e s m args below meth c C hr hD
  have hD := hD.zself
  unfold f_X6_more at h
  refine z_aload_n C dX6_more_0 rfl 0 rfl 1 rfl ?_
  refine z_get C (in_X6_more_X6) 0 rfl rfl 1 (by decide) (List.mem_of_getElem? (i := 1) rfl) rfl rfl dX6_more_1 4 rfl ?_
  refine z_iload_n C dX6_more_4 rfl 1 rfl 5 rfl ?_
  refine z_iload_n C dX6_more_5 rfl 2 rfl 6 rfl ?_
  refine z_callR C (wX1 T a2 S2) (fun v h => c_X1_hasCell l D T a2  S2 v1 v2 v h) ⟨rfl, rfl⟩ (z_cwV C 2 gX6_more_X1_hasCell rfl rfl dd_X1_hasCell ⟨(Nat.le_of_ble_eq_true rfl), (Nat.le_of_ble_eq_true rfl)⟩) (hD.zaddr rfl) [3, 4, 5, 6, 7] rfl rfl (fun _ => ⟨a2 99, [.int v1, .int v2], 1, 0, _, _, rfl, rfl, rfl, rfl, rfl⟩) (fun h => absurd rfl h) rfl (Nat.le_of_ble_eq_true rfl) dX6_more_6 9 rfl h (fun r_1 h => ?_)
  refine z_if_eq C 48 dX6_more_9 (by decide) 12 rfl h (fun h => ?_) (fun h => ?_)
  · refine z_iconst C (-1) dX6_more_48 (by decide) 49 rfl ?_
    exact z_iretW (fun z => wX6 a0 a1 a2 a3 a4 a5 a6 a7 a8 a9 ++ wX4 T a1 S1 ++ wX1 T a2 S2 ++ wX1 T a3 S3 ++ wX0 T a4 z.1 ++ wX5 T a5 z.2.1 ++ wX5 T a6 z.2.2.1 ++ wX5 T a7 z.2.2.2.1 ++ wX5 T a8 z.2.2.2.2.1 ++ wX3 T a9 z.2.2.2.2.2) C hr dX6_more_49 h rfl
  · refine z_iload_n C dX6_more_12 rfl 3 rfl 13 rfl ?_
    refine z_iconst C 1 dX6_more_13 (by decide) 14 rfl ?_
    refine z_bipush C 99 dX6_more_14 (by decide) 16 rfl ?_
    refine z_callR C ([]) (fun v h => c_X6_isWithin l D T    v3 1 99 v h) ⟨rfl, rfl⟩ (z_cwS C 3 gX6_more_X6_isWithin rfl dd_X6_isWithin ⟨(Nat.le_of_ble_eq_true rfl), (Nat.le_of_ble_eq_true rfl)⟩) (hD.zaddr rfl) [] rfl rfl (fun h => absurd h (by decide)) (fun _ => rfl) rfl (Nat.le_of_ble_eq_true rfl) dX6_more_16 19 rfl h (fun r_2 h => ?_)
    refine z_if_eq C 48 dX6_more_19 (by decide) 22 rfl h (fun h => ?_) (fun h => ?_)
    · refine z_iconst C (-1) dX6_more_48 (by decide) 49 rfl ?_
      exact z_iretW (fun z => wX6 a0 a1 a2 a3 a4 a5 a6 a7 a8 a9 ++ wX4 T a1 S1 ++ wX1 T a2 S2 ++ wX1 T a3 S3 ++ wX0 T a4 z.1 ++ wX5 T a5 z.2.1 ++ wX5 T a6 z.2.2.1 ++ wX5 T a7 z.2.2.2.1 ++ wX5 T a8 z.2.2.2.2.1 ++ wX3 T a9 z.2.2.2.2.2) C hr dX6_more_49 h rfl
    · refine z_iload C dX6_more_22 4 rfl 24 rfl ?_
      refine z_iconst C 0 dX6_more_24 (by decide) 25 rfl ?_
      refine z_iconst C 2 dX6_more_25 (by decide) 26 rfl ?_
      refine z_callR C ([]) (fun v h => c_X6_isWithin l D T    v4 0 2 v h) ⟨rfl, rfl⟩ (z_cwS C 3 gX6_more_X6_isWithin rfl dd_X6_isWithin ⟨(Nat.le_of_ble_eq_true rfl), (Nat.le_of_ble_eq_true rfl)⟩) (hD.zaddr rfl) [] rfl rfl (fun h => absurd h (by decide)) (fun _ => rfl) rfl (Nat.le_of_ble_eq_true rfl) dX6_more_26 29 rfl h (fun r_3 h => ?_)
      refine z_if_eq C 48 dX6_more_29 (by decide) 32 rfl h (fun h => ?_) (fun h => ?_)
      · refine z_iconst C (-1) dX6_more_48 (by decide) 49 rfl ?_
        exact z_iretW (fun z => wX6 a0 a1 a2 a3 a4 a5 a6 a7 a8 a9 ++ wX4 T a1 S1 ++ wX1 T a2 S2 ++ wX1 T a3 S3 ++ wX0 T a4 z.1 ++ wX5 T a5 z.2.1 ++ wX5 T a6 z.2.2.1 ++ wX5 T a7 z.2.2.2.1 ++ wX5 T a8 z.2.2.2.2.1 ++ wX3 T a9 z.2.2.2.2.2) C hr dX6_more_49 h rfl
      · refine z_aload_n C dX6_more_32 rfl 0 rfl 33 rfl ?_
        refine z_get C (in_X6_more_X6) 0 rfl rfl 1 (by decide) (List.mem_of_getElem? (i := 1) rfl) rfl rfl dX6_more_33 36 rfl ?_
        refine z_get C (in_X6_more_X1) 3 rfl rfl 9 (by decide) (List.mem_of_getElem? (i := 2) rfl) rfl rfl dX6_more_36 39 rfl ?_
        refine z_iload_n C dX6_more_39 rfl 1 rfl 40 rfl ?_
        refine z_iload_n C dX6_more_40 rfl 2 rfl 41 rfl ?_
        refine z_callR C ([]) (fun v h => c_X6_cellOf l D T    v1 v2 v h) ⟨rfl, rfl⟩ (z_cwS C 2 gX6_more_X6_cellOf rfl dd_X6_cellOf ⟨(Nat.le_of_ble_eq_true rfl), (Nat.le_of_ble_eq_true rfl)⟩) (hD.zaddr rfl) [] rfl rfl (fun h => absurd h (by decide)) (fun _ => rfl) rfl (Nat.le_of_ble_eq_true rfl) dX6_more_41 44 rfl h (fun r_4 h => ?_)
        refine z_zald C 7 rfl rfl dX6_more_44 45 rfl h (fun h => ?_)
        refine z_if_eq C 50 dX6_more_45 (by decide) 48 rfl h (fun h => ?_) (fun h => ?_)
        · refine z_aload_n C dX6_more_50 rfl 0 rfl 51 rfl ?_
          refine z_iconst C 4 dX6_more_51 (by decide) 52 rfl ?_
          refine z_callA C (wX6 a0 a1 a2 a3 a4 a5 a6 a7 a8 a9 ++ wX4 T a1 S1 ++ wX1 T a2 S2 ++ wX1 T a3 S3 ++ wX0 T a4 S4 ++ wX5 T a5 S5 ++ wX5 T a6 S6 ++ wX5 T a7 S7 ++ wX5 T a8 S8 ++ wX3 T a9 S9) (([] : va_W)) (fun z => if z.1 = 5 then a5 99 else if z.1 = 6 then a6 99 else a8 99) (fun z => wX6 a0 a1 a2 a3 a4 a5 a6 a7 a8 a9 ++ wX4 T a1 S1 ++ wX1 T a2 S2 ++ wX1 T a3 S3 ++ wX0 T a4 z.2.1 ++ wX5 T a5 z.2.2.1 ++ wX5 T a6 z.2.2.2.1 ++ wX5 T a7 z.2.2.2.2.1 ++ wX5 T a8 z.2.2.2.2.2 ++ wX3 T a9 S9) (fun z => wX6 a0 a1 a2 a3 a4 a5 a6 a7 a8 a9 ++ wX4 T a1 S1 ++ wX1 T a2 S2 ++ wX1 T a3 S3 ++ wX0 T a4 z.2.1 ++ wX5 T a5 z.2.2.1 ++ wX5 T a6 z.2.2.2.1 ++ wX5 T a7 z.2.2.2.2.1 ++ wX5 T a8 z.2.2.2.2.2 ++ wX3 T a9 S9) (fun z h => c_X6_treeOf l D T a0 a1 a2 a3 a4 a5 a6 a7 a8 a9  S1 S2 S3 S4 S5 S6 S7 S8 S9 4 z h) ⟨rfl, rfl⟩ (z_cwV C 1 gX6_more_X6_treeOf rfl rfl dd_X6_treeOf ⟨(Nat.le_of_ble_eq_true rfl), (Nat.le_of_ble_eq_true rfl)⟩) (hD.zaddr rfl) [0, 1, 2, 3, 4, 5, 6, 7, 8, 9, 10, 11, 12, 13, 14, 15, 16, 17, 18, 19, 20, 21, 22, 23, 24, 25, 26, 27, 28, 29, 30, 31, 32, 33] [] [0, 1, 2, 3, 4, 5, 6, 7, 8, 9, 10, 11, 12, 13, 14, 15, 16, 17, 18, 19, 20, 21, 22, 23, 24, 25, 26, 27, 28, 29, 30, 31, 32, 33] rfl rfl rfl (by decide) (fun _ => rfl) (fun _ => ⟨a0 99, [.int 4], 5, 0, _, _, rfl, rfl, rfl, rfl, rfl⟩) (fun h => absurd rfl h) rfl (Nat.le_of_ble_eq_true rfl) dX6_more_52 55 rfl h (fun r_5 h => ?_)
          refine z_tag (t := r_5.1) 5 (fun t => if t = 5 then a5 99 else if t = 6 then a6 99 else a8 99) rfl h (fun h => ?_) (fun hx_0 h => ?_)
          · refine z_astore C [(0, .ref (a0 99)), (1, .int v1), (2, .int v2), (3, .int v3), (4, .int v4), (5, .ref (a5 99))] dX6_more_55 (Nat.le_of_ble_eq_true rfl) [1, 2, 3, 4, 5, 0] rfl 57 rfl ?_
            refine z_aload C dX6_more_57 5 rfl 59 rfl ?_
            refine z_get C (in_X6_more_X5) 20 rfl rfl 1 (by decide) (List.mem_of_getElem? (i := 3) rfl) rfl rfl dX6_more_59 62 rfl ?_
            refine z_if_eq C 84 dX6_more_62 (by decide) 65 rfl h (fun h => ?_) (fun h => ?_)
            · refine z_bipush C (-2) dX6_more_84 (by decide) 86 rfl ?_
              exact z_iretW (fun z => wX6 a0 a1 a2 a3 a4 a5 a6 a7 a8 a9 ++ wX4 T a1 S1 ++ wX1 T a2 S2 ++ wX1 T a3 S3 ++ wX0 T a4 z.1 ++ wX5 T a5 z.2.1 ++ wX5 T a6 z.2.2.1 ++ wX5 T a7 z.2.2.2.1 ++ wX5 T a8 z.2.2.2.2.1 ++ wX3 T a9 z.2.2.2.2.2) C hr dX6_more_86 h rfl
            · refine z_aload_n C dX6_more_65 rfl 0 rfl 66 rfl ?_
              refine z_get C (in_X6_more_X6) 0 rfl rfl 8 (by decide) (List.mem_of_getElem? (i := 4) rfl) rfl rfl dX6_more_66 69 rfl ?_
              refine z_aload_n C dX6_more_69 rfl 0 rfl 70 rfl ?_
              refine z_get C (in_X6_more_X6) 0 rfl rfl 1 (by decide) (List.mem_of_getElem? (i := 1) rfl) rfl rfl dX6_more_70 73 rfl ?_
              refine z_aload C dX6_more_73 5 rfl 75 rfl ?_
              refine z_iload_n C dX6_more_75 rfl 1 rfl 76 rfl ?_
              refine z_iload_n C dX6_more_76 rfl 2 rfl 77 rfl ?_
              refine z_iload_n C dX6_more_77 rfl 3 rfl 78 rfl ?_
              refine z_callW C (wX3 T a9 S9 ++ wX1 T a2 S2 ++ wX5 T a5 r_5.2.2.1) (wX6 a0 a1 a2 a3 a4 a5 a6 a7 a8 a9 ++ wX4 T a1 S1 ++ wX1 T a3 S3 ++ wX0 T a4 r_5.2.1 ++ wX5 T a6 r_5.2.2.2.1 ++ wX5 T a7 r_5.2.2.2.2.1 ++ wX5 T a8 r_5.2.2.2.2.2) (fun z => z.1) (fun z => wX3 T a9 z.2 ++ wX1 T a2 S2 ++ wX5 T a5 r_5.2.2.1) (fun z => wX6 a0 a1 a2 a3 a4 a5 a6 a7 a8 a9 ++ wX4 T a1 S1 ++ wX1 T a2 S2 ++ wX1 T a3 S3 ++ wX0 T a4 r_5.2.1 ++ wX5 T a5 r_5.2.2.1 ++ wX5 T a6 r_5.2.2.2.1 ++ wX5 T a7 r_5.2.2.2.2.1 ++ wX5 T a8 r_5.2.2.2.2.2 ++ wX3 T a9 z.2) (fun z h => c_X3_findWay l D T a9 a2 a5  S9 S2 r_5.2.2.1 v1 v2 v3 z h) ⟨rfl, rfl⟩ (z_cwV C 5 gX6_more_X3_findWay rfl rfl dd_X3_findWay ⟨(Nat.le_of_ble_eq_true rfl), (Nat.le_of_ble_eq_true rfl)⟩) (hD.zaddr rfl) [32, 33, 3, 4, 5, 6, 7, 20, 21, 22] [0, 1, 2, 8, 9, 10, 11, 12, 13, 14, 15, 16, 17, 18, 19, 23, 24, 25, 26, 27, 28, 29, 30, 31] [0, 1, 2, 26, 27, 28, 29, 30, 3, 4, 5, 6, 7, 8, 9, 10, 11, 12, 13, 14, 31, 32, 33, 15, 16, 17, 18, 19, 20, 21, 22, 23, 24, 25] rfl rfl rfl (by decide) (fun _ => rfl) (fun _ => ⟨a9 99, [.ref (a2 99), .ref (a5 99), .int v1, .int v2, .int v3], 2, 0, _, _, rfl, rfl, rfl, rfl, rfl⟩) (fun h => absurd rfl h) rfl (Nat.le_of_ble_eq_true rfl) dX6_more_78 81 rfl h (fun r_6 h => ?_)
              refine z_if_ne C 87 dX6_more_81 (by decide) 84 rfl h (fun h => ?_) (fun h => ?_)
              · refine z_iload C dX6_more_87 4 rfl 89 rfl ?_
                refine z_if_ne C 100 dX6_more_89 (by decide) 92 rfl h (fun h => ?_) (fun h => ?_)
                · refine z_iload C dX6_more_100 4 rfl 102 rfl ?_
                  refine z_iconst C 1 dX6_more_102 (by decide) 103 rfl ?_
                  refine z_icmp_ne C 116 dX6_more_103 (by decide) 106 rfl h (fun h => ?_) (fun h => ?_)
                  · refine z_aload_n C dX6_more_116 rfl 0 rfl 117 rfl ?_
                    refine z_get C (in_X6_more_X6) 0 rfl rfl 8 (by decide) (List.mem_of_getElem? (i := 4) rfl) rfl rfl dX6_more_117 120 rfl ?_
                    refine z_get C (in_X6_more_X3) 32 rfl rfl 2 (by decide) (List.mem_of_getElem? (i := 7) rfl) rfl rfl dX6_more_120 123 rfl ?_
                    exact z_iretW (fun z => wX6 a0 a1 a2 a3 a4 a5 a6 a7 a8 a9 ++ wX4 T a1 S1 ++ wX1 T a2 S2 ++ wX1 T a3 S3 ++ wX0 T a4 z.1 ++ wX5 T a5 z.2.1 ++ wX5 T a6 z.2.2.1 ++ wX5 T a7 z.2.2.2.1 ++ wX5 T a8 z.2.2.2.2.1 ++ wX3 T a9 z.2.2.2.2.2) C hr dX6_more_123 h rfl
                  · refine z_aload_n C dX6_more_106 rfl 0 rfl 107 rfl ?_
                    refine z_get C (in_X6_more_X6) 0 rfl rfl 8 (by decide) (List.mem_of_getElem? (i := 4) rfl) rfl rfl dX6_more_107 110 rfl ?_
                    refine z_get C (in_X6_more_X3) 32 rfl rfl 1 (by decide) (List.mem_of_getElem? (i := 6) rfl) rfl rfl dX6_more_110 113 rfl ?_
                    refine z_goto C 123 dX6_more_113 (by decide) ?_
                    exact z_iretW (fun z => wX6 a0 a1 a2 a3 a4 a5 a6 a7 a8 a9 ++ wX4 T a1 S1 ++ wX1 T a2 S2 ++ wX1 T a3 S3 ++ wX0 T a4 z.1 ++ wX5 T a5 z.2.1 ++ wX5 T a6 z.2.2.1 ++ wX5 T a7 z.2.2.2.1 ++ wX5 T a8 z.2.2.2.2.1 ++ wX3 T a9 z.2.2.2.2.2) C hr dX6_more_123 h rfl
                · refine z_aload_n C dX6_more_92 rfl 0 rfl 93 rfl ?_
                  refine z_get C (in_X6_more_X6) 0 rfl rfl 8 (by decide) (List.mem_of_getElem? (i := 4) rfl) rfl rfl dX6_more_93 96 rfl ?_
                  refine z_get C (in_X6_more_X3) 32 rfl rfl 0 (by decide) (List.mem_of_getElem? (i := 5) rfl) rfl rfl dX6_more_96 99 rfl ?_
                  exact z_iretW (fun z => wX6 a0 a1 a2 a3 a4 a5 a6 a7 a8 a9 ++ wX4 T a1 S1 ++ wX1 T a2 S2 ++ wX1 T a3 S3 ++ wX0 T a4 z.1 ++ wX5 T a5 z.2.1 ++ wX5 T a6 z.2.2.1 ++ wX5 T a7 z.2.2.2.1 ++ wX5 T a8 z.2.2.2.2.1 ++ wX3 T a9 z.2.2.2.2.2) C hr dX6_more_99 h rfl
              · refine z_bipush C (-2) dX6_more_84 (by decide) 86 rfl ?_
                exact z_iretW (fun z => wX6 a0 a1 a2 a3 a4 a5 a6 a7 a8 a9 ++ wX4 T a1 S1 ++ wX1 T a2 S2 ++ wX1 T a3 S3 ++ wX0 T a4 z.1 ++ wX5 T a5 z.2.1 ++ wX5 T a6 z.2.2.1 ++ wX5 T a7 z.2.2.2.1 ++ wX5 T a8 z.2.2.2.2.1 ++ wX3 T a9 z.2.2.2.2.2) C hr dX6_more_86 h rfl
          · refine z_tag (t := r_5.1) 6 (fun t => if t = 5 then a5 99 else if t = 6 then a6 99 else a8 99) rfl h (fun h => ?_) (fun hx_1 h => ?_)
            · refine z_astore C [(0, .ref (a0 99)), (1, .int v1), (2, .int v2), (3, .int v3), (4, .int v4), (5, .ref (a6 99))] dX6_more_55 (Nat.le_of_ble_eq_true rfl) [1, 2, 3, 4, 5, 0] rfl 57 rfl ?_
              refine z_aload C dX6_more_57 5 rfl 59 rfl ?_
              refine z_get C (in_X6_more_X5) 23 rfl rfl 1 (by decide) (List.mem_of_getElem? (i := 3) rfl) rfl rfl dX6_more_59 62 rfl ?_
              refine z_if_eq C 84 dX6_more_62 (by decide) 65 rfl h (fun h => ?_) (fun h => ?_)
              · refine z_bipush C (-2) dX6_more_84 (by decide) 86 rfl ?_
                exact z_iretW (fun z => wX6 a0 a1 a2 a3 a4 a5 a6 a7 a8 a9 ++ wX4 T a1 S1 ++ wX1 T a2 S2 ++ wX1 T a3 S3 ++ wX0 T a4 z.1 ++ wX5 T a5 z.2.1 ++ wX5 T a6 z.2.2.1 ++ wX5 T a7 z.2.2.2.1 ++ wX5 T a8 z.2.2.2.2.1 ++ wX3 T a9 z.2.2.2.2.2) C hr dX6_more_86 h rfl
              · refine z_aload_n C dX6_more_65 rfl 0 rfl 66 rfl ?_
                refine z_get C (in_X6_more_X6) 0 rfl rfl 8 (by decide) (List.mem_of_getElem? (i := 4) rfl) rfl rfl dX6_more_66 69 rfl ?_
                refine z_aload_n C dX6_more_69 rfl 0 rfl 70 rfl ?_
                refine z_get C (in_X6_more_X6) 0 rfl rfl 1 (by decide) (List.mem_of_getElem? (i := 1) rfl) rfl rfl dX6_more_70 73 rfl ?_
                refine z_aload C dX6_more_73 5 rfl 75 rfl ?_
                refine z_iload_n C dX6_more_75 rfl 1 rfl 76 rfl ?_
                refine z_iload_n C dX6_more_76 rfl 2 rfl 77 rfl ?_
                refine z_iload_n C dX6_more_77 rfl 3 rfl 78 rfl ?_
                refine z_callW C (wX3 T a9 S9 ++ wX1 T a2 S2 ++ wX5 T a6 r_5.2.2.2.1) (wX6 a0 a1 a2 a3 a4 a5 a6 a7 a8 a9 ++ wX4 T a1 S1 ++ wX1 T a3 S3 ++ wX0 T a4 r_5.2.1 ++ wX5 T a5 r_5.2.2.1 ++ wX5 T a7 r_5.2.2.2.2.1 ++ wX5 T a8 r_5.2.2.2.2.2) (fun z => z.1) (fun z => wX3 T a9 z.2 ++ wX1 T a2 S2 ++ wX5 T a6 r_5.2.2.2.1) (fun z => wX6 a0 a1 a2 a3 a4 a5 a6 a7 a8 a9 ++ wX4 T a1 S1 ++ wX1 T a2 S2 ++ wX1 T a3 S3 ++ wX0 T a4 r_5.2.1 ++ wX5 T a5 r_5.2.2.1 ++ wX5 T a6 r_5.2.2.2.1 ++ wX5 T a7 r_5.2.2.2.2.1 ++ wX5 T a8 r_5.2.2.2.2.2 ++ wX3 T a9 z.2) (fun z h => c_X3_findWay l D T a9 a2 a6  S9 S2 r_5.2.2.2.1 v1 v2 v3 z h) ⟨rfl, rfl⟩ (z_cwV C 5 gX6_more_X3_findWay rfl rfl dd_X3_findWay ⟨(Nat.le_of_ble_eq_true rfl), (Nat.le_of_ble_eq_true rfl)⟩) (hD.zaddr rfl) [32, 33, 3, 4, 5, 6, 7, 23, 24, 25] [0, 1, 2, 8, 9, 10, 11, 12, 13, 14, 15, 16, 17, 18, 19, 20, 21, 22, 26, 27, 28, 29, 30, 31] [0, 1, 2, 26, 27, 28, 29, 30, 3, 4, 5, 6, 7, 8, 9, 10, 11, 12, 13, 14, 15, 16, 17, 31, 32, 33, 18, 19, 20, 21, 22, 23, 24, 25] rfl rfl rfl (by decide) (fun _ => rfl) (fun _ => ⟨a9 99, [.ref (a2 99), .ref (a6 99), .int v1, .int v2, .int v3], 2, 0, _, _, rfl, rfl, rfl, rfl, rfl⟩) (fun h => absurd rfl h) rfl (Nat.le_of_ble_eq_true rfl) dX6_more_78 81 rfl h (fun r_7 h => ?_)
                refine z_if_ne C 87 dX6_more_81 (by decide) 84 rfl h (fun h => ?_) (fun h => ?_)
                · refine z_iload C dX6_more_87 4 rfl 89 rfl ?_
                  refine z_if_ne C 100 dX6_more_89 (by decide) 92 rfl h (fun h => ?_) (fun h => ?_)
                  · refine z_iload C dX6_more_100 4 rfl 102 rfl ?_
                    refine z_iconst C 1 dX6_more_102 (by decide) 103 rfl ?_
                    refine z_icmp_ne C 116 dX6_more_103 (by decide) 106 rfl h (fun h => ?_) (fun h => ?_)
                    · refine z_aload_n C dX6_more_116 rfl 0 rfl 117 rfl ?_
                      refine z_get C (in_X6_more_X6) 0 rfl rfl 8 (by decide) (List.mem_of_getElem? (i := 4) rfl) rfl rfl dX6_more_117 120 rfl ?_
                      refine z_get C (in_X6_more_X3) 32 rfl rfl 2 (by decide) (List.mem_of_getElem? (i := 7) rfl) rfl rfl dX6_more_120 123 rfl ?_
                      exact z_iretW (fun z => wX6 a0 a1 a2 a3 a4 a5 a6 a7 a8 a9 ++ wX4 T a1 S1 ++ wX1 T a2 S2 ++ wX1 T a3 S3 ++ wX0 T a4 z.1 ++ wX5 T a5 z.2.1 ++ wX5 T a6 z.2.2.1 ++ wX5 T a7 z.2.2.2.1 ++ wX5 T a8 z.2.2.2.2.1 ++ wX3 T a9 z.2.2.2.2.2) C hr dX6_more_123 h rfl
                    · refine z_aload_n C dX6_more_106 rfl 0 rfl 107 rfl ?_
                      refine z_get C (in_X6_more_X6) 0 rfl rfl 8 (by decide) (List.mem_of_getElem? (i := 4) rfl) rfl rfl dX6_more_107 110 rfl ?_
                      refine z_get C (in_X6_more_X3) 32 rfl rfl 1 (by decide) (List.mem_of_getElem? (i := 6) rfl) rfl rfl dX6_more_110 113 rfl ?_
                      refine z_goto C 123 dX6_more_113 (by decide) ?_
                      exact z_iretW (fun z => wX6 a0 a1 a2 a3 a4 a5 a6 a7 a8 a9 ++ wX4 T a1 S1 ++ wX1 T a2 S2 ++ wX1 T a3 S3 ++ wX0 T a4 z.1 ++ wX5 T a5 z.2.1 ++ wX5 T a6 z.2.2.1 ++ wX5 T a7 z.2.2.2.1 ++ wX5 T a8 z.2.2.2.2.1 ++ wX3 T a9 z.2.2.2.2.2) C hr dX6_more_123 h rfl
                  · refine z_aload_n C dX6_more_92 rfl 0 rfl 93 rfl ?_
                    refine z_get C (in_X6_more_X6) 0 rfl rfl 8 (by decide) (List.mem_of_getElem? (i := 4) rfl) rfl rfl dX6_more_93 96 rfl ?_
                    refine z_get C (in_X6_more_X3) 32 rfl rfl 0 (by decide) (List.mem_of_getElem? (i := 5) rfl) rfl rfl dX6_more_96 99 rfl ?_
                    exact z_iretW (fun z => wX6 a0 a1 a2 a3 a4 a5 a6 a7 a8 a9 ++ wX4 T a1 S1 ++ wX1 T a2 S2 ++ wX1 T a3 S3 ++ wX0 T a4 z.1 ++ wX5 T a5 z.2.1 ++ wX5 T a6 z.2.2.1 ++ wX5 T a7 z.2.2.2.1 ++ wX5 T a8 z.2.2.2.2.1 ++ wX3 T a9 z.2.2.2.2.2) C hr dX6_more_99 h rfl
                · refine z_bipush C (-2) dX6_more_84 (by decide) 86 rfl ?_
                  exact z_iretW (fun z => wX6 a0 a1 a2 a3 a4 a5 a6 a7 a8 a9 ++ wX4 T a1 S1 ++ wX1 T a2 S2 ++ wX1 T a3 S3 ++ wX0 T a4 z.1 ++ wX5 T a5 z.2.1 ++ wX5 T a6 z.2.2.1 ++ wX5 T a7 z.2.2.2.1 ++ wX5 T a8 z.2.2.2.2.1 ++ wX3 T a9 z.2.2.2.2.2) C hr dX6_more_86 h rfl
            · refine z_ref (b := a8 99) (by show (if _ = _ then _ else _) = _; rw [if_neg hx_0, if_neg hx_1]) ?_
              refine z_astore C [(0, .ref (a0 99)), (1, .int v1), (2, .int v2), (3, .int v3), (4, .int v4), (5, .ref (a8 99))] dX6_more_55 (Nat.le_of_ble_eq_true rfl) [1, 2, 3, 4, 5, 0] rfl 57 rfl ?_
              refine z_aload C dX6_more_57 5 rfl 59 rfl ?_
              refine z_get C (in_X6_more_X5) 29 rfl rfl 1 (by decide) (List.mem_of_getElem? (i := 3) rfl) rfl rfl dX6_more_59 62 rfl ?_
              refine z_if_eq C 84 dX6_more_62 (by decide) 65 rfl h (fun h => ?_) (fun h => ?_)
              · refine z_bipush C (-2) dX6_more_84 (by decide) 86 rfl ?_
                exact z_iretW (fun z => wX6 a0 a1 a2 a3 a4 a5 a6 a7 a8 a9 ++ wX4 T a1 S1 ++ wX1 T a2 S2 ++ wX1 T a3 S3 ++ wX0 T a4 z.1 ++ wX5 T a5 z.2.1 ++ wX5 T a6 z.2.2.1 ++ wX5 T a7 z.2.2.2.1 ++ wX5 T a8 z.2.2.2.2.1 ++ wX3 T a9 z.2.2.2.2.2) C hr dX6_more_86 h rfl
              · refine z_aload_n C dX6_more_65 rfl 0 rfl 66 rfl ?_
                refine z_get C (in_X6_more_X6) 0 rfl rfl 8 (by decide) (List.mem_of_getElem? (i := 4) rfl) rfl rfl dX6_more_66 69 rfl ?_
                refine z_aload_n C dX6_more_69 rfl 0 rfl 70 rfl ?_
                refine z_get C (in_X6_more_X6) 0 rfl rfl 1 (by decide) (List.mem_of_getElem? (i := 1) rfl) rfl rfl dX6_more_70 73 rfl ?_
                refine z_aload C dX6_more_73 5 rfl 75 rfl ?_
                refine z_iload_n C dX6_more_75 rfl 1 rfl 76 rfl ?_
                refine z_iload_n C dX6_more_76 rfl 2 rfl 77 rfl ?_
                refine z_iload_n C dX6_more_77 rfl 3 rfl 78 rfl ?_
                refine z_callW C (wX3 T a9 S9 ++ wX1 T a2 S2 ++ wX5 T a8 r_5.2.2.2.2.2) (wX6 a0 a1 a2 a3 a4 a5 a6 a7 a8 a9 ++ wX4 T a1 S1 ++ wX1 T a3 S3 ++ wX0 T a4 r_5.2.1 ++ wX5 T a5 r_5.2.2.1 ++ wX5 T a6 r_5.2.2.2.1 ++ wX5 T a7 r_5.2.2.2.2.1) (fun z => z.1) (fun z => wX3 T a9 z.2 ++ wX1 T a2 S2 ++ wX5 T a8 r_5.2.2.2.2.2) (fun z => wX6 a0 a1 a2 a3 a4 a5 a6 a7 a8 a9 ++ wX4 T a1 S1 ++ wX1 T a2 S2 ++ wX1 T a3 S3 ++ wX0 T a4 r_5.2.1 ++ wX5 T a5 r_5.2.2.1 ++ wX5 T a6 r_5.2.2.2.1 ++ wX5 T a7 r_5.2.2.2.2.1 ++ wX5 T a8 r_5.2.2.2.2.2 ++ wX3 T a9 z.2) (fun z h => c_X3_findWay l D T a9 a2 a8  S9 S2 r_5.2.2.2.2.2 v1 v2 v3 z h) ⟨rfl, rfl⟩ (z_cwV C 5 gX6_more_X3_findWay rfl rfl dd_X3_findWay ⟨(Nat.le_of_ble_eq_true rfl), (Nat.le_of_ble_eq_true rfl)⟩) (hD.zaddr rfl) [32, 33, 3, 4, 5, 6, 7, 29, 30, 31] [0, 1, 2, 8, 9, 10, 11, 12, 13, 14, 15, 16, 17, 18, 19, 20, 21, 22, 23, 24, 25, 26, 27, 28] [0, 1, 2, 26, 27, 28, 29, 30, 3, 4, 5, 6, 7, 8, 9, 10, 11, 12, 13, 14, 15, 16, 17, 18, 19, 20, 21, 22, 23, 31, 32, 33, 24, 25] rfl rfl rfl (by decide) (fun _ => rfl) (fun _ => ⟨a9 99, [.ref (a2 99), .ref (a8 99), .int v1, .int v2, .int v3], 2, 0, _, _, rfl, rfl, rfl, rfl, rfl⟩) (fun h => absurd rfl h) rfl (Nat.le_of_ble_eq_true rfl) dX6_more_78 81 rfl h (fun r_8 h => ?_)
                refine z_if_ne C 87 dX6_more_81 (by decide) 84 rfl h (fun h => ?_) (fun h => ?_)
                · refine z_iload C dX6_more_87 4 rfl 89 rfl ?_
                  refine z_if_ne C 100 dX6_more_89 (by decide) 92 rfl h (fun h => ?_) (fun h => ?_)
                  · refine z_iload C dX6_more_100 4 rfl 102 rfl ?_
                    refine z_iconst C 1 dX6_more_102 (by decide) 103 rfl ?_
                    refine z_icmp_ne C 116 dX6_more_103 (by decide) 106 rfl h (fun h => ?_) (fun h => ?_)
                    · refine z_aload_n C dX6_more_116 rfl 0 rfl 117 rfl ?_
                      refine z_get C (in_X6_more_X6) 0 rfl rfl 8 (by decide) (List.mem_of_getElem? (i := 4) rfl) rfl rfl dX6_more_117 120 rfl ?_
                      refine z_get C (in_X6_more_X3) 32 rfl rfl 2 (by decide) (List.mem_of_getElem? (i := 7) rfl) rfl rfl dX6_more_120 123 rfl ?_
                      exact z_iretW (fun z => wX6 a0 a1 a2 a3 a4 a5 a6 a7 a8 a9 ++ wX4 T a1 S1 ++ wX1 T a2 S2 ++ wX1 T a3 S3 ++ wX0 T a4 z.1 ++ wX5 T a5 z.2.1 ++ wX5 T a6 z.2.2.1 ++ wX5 T a7 z.2.2.2.1 ++ wX5 T a8 z.2.2.2.2.1 ++ wX3 T a9 z.2.2.2.2.2) C hr dX6_more_123 h rfl
                    · refine z_aload_n C dX6_more_106 rfl 0 rfl 107 rfl ?_
                      refine z_get C (in_X6_more_X6) 0 rfl rfl 8 (by decide) (List.mem_of_getElem? (i := 4) rfl) rfl rfl dX6_more_107 110 rfl ?_
                      refine z_get C (in_X6_more_X3) 32 rfl rfl 1 (by decide) (List.mem_of_getElem? (i := 6) rfl) rfl rfl dX6_more_110 113 rfl ?_
                      refine z_goto C 123 dX6_more_113 (by decide) ?_
                      exact z_iretW (fun z => wX6 a0 a1 a2 a3 a4 a5 a6 a7 a8 a9 ++ wX4 T a1 S1 ++ wX1 T a2 S2 ++ wX1 T a3 S3 ++ wX0 T a4 z.1 ++ wX5 T a5 z.2.1 ++ wX5 T a6 z.2.2.1 ++ wX5 T a7 z.2.2.2.1 ++ wX5 T a8 z.2.2.2.2.1 ++ wX3 T a9 z.2.2.2.2.2) C hr dX6_more_123 h rfl
                  · refine z_aload_n C dX6_more_92 rfl 0 rfl 93 rfl ?_
                    refine z_get C (in_X6_more_X6) 0 rfl rfl 8 (by decide) (List.mem_of_getElem? (i := 4) rfl) rfl rfl dX6_more_93 96 rfl ?_
                    refine z_get C (in_X6_more_X3) 32 rfl rfl 0 (by decide) (List.mem_of_getElem? (i := 5) rfl) rfl rfl dX6_more_96 99 rfl ?_
                    exact z_iretW (fun z => wX6 a0 a1 a2 a3 a4 a5 a6 a7 a8 a9 ++ wX4 T a1 S1 ++ wX1 T a2 S2 ++ wX1 T a3 S3 ++ wX0 T a4 z.1 ++ wX5 T a5 z.2.1 ++ wX5 T a6 z.2.2.1 ++ wX5 T a7 z.2.2.2.1 ++ wX5 T a8 z.2.2.2.2.1 ++ wX3 T a9 z.2.2.2.2.2) C hr dX6_more_99 h rfl
                · refine z_bipush C (-2) dX6_more_84 (by decide) 86 rfl ?_
                  exact z_iretW (fun z => wX6 a0 a1 a2 a3 a4 a5 a6 a7 a8 a9 ++ wX4 T a1 S1 ++ wX1 T a2 S2 ++ wX1 T a3 S3 ++ wX0 T a4 z.1 ++ wX5 T a5 z.2.1 ++ wX5 T a6 z.2.2.1 ++ wX5 T a7 z.2.2.2.1 ++ wX5 T a8 z.2.2.2.2.1 ++ wX3 T a9 z.2.2.2.2.2) C hr dX6_more_86 h rfl
        · refine z_iconst C (-1) dX6_more_48 (by decide) 49 rfl ?_
          exact z_iretW (fun z => wX6 a0 a1 a2 a3 a4 a5 a6 a7 a8 a9 ++ wX4 T a1 S1 ++ wX1 T a2 S2 ++ wX1 T a3 S3 ++ wX0 T a4 z.1 ++ wX5 T a5 z.2.1 ++ wX5 T a6 z.2.2.1 ++ wX5 T a7 z.2.2.2.1 ++ wX5 T a8 z.2.2.2.2.1 ++ wX3 T a9 z.2.2.2.2.2) C hr dX6_more_49 h rfl

end
/-! StreamTree.best (III)I -/
section
variable {p : Program} {l : Launch} {e : Env} {R : Room} {s : State} {m : MethodId} {args : Array Value} {below : List Frame} {meth : Method} {c : Code} {Q : State → Prop} {A : Nat → Prop} {D : va_G} {T : Nat → ClassId} {a0 : Nat → Nat} {a1 : Nat → Nat} {a2 : Nat → Nat} {a3 : Nat → Nat} {a4 : Nat → Nat} {a5 : Nat → Nat} {a6 : Nat → Nat} {a7 : Nat → Nat} {a8 : Nat → Nat} {a9 : Nat → Nat}
theorem in_X6_best_X1 : ∀ w ∈ u_ws RX1 TX1 10, w ∈ wsX6_best := fun _ h => (List.mem_cons_of_mem _ (List.mem_append_left _ (List.mem_append_right _ h)))
theorem in_X6_best_X6 : ∀ w ∈ u_ws RX6 TX6 9, w ∈ wsX6_best := fun _ h => (List.mem_cons_of_mem _ (List.mem_append_left _ (List.mem_append_left _ (List.mem_append_right _ h))))
def f_X6_best (S1 : Nat → Nat → Int32) (S2 : Nat → Nat → Int32) (S3 : Nat → Nat → Int32) (S4 : Nat → Nat → Int32) (S5 : Nat → Nat → Int32) (S6 : Nat → Nat → Int32) (S7 : Nat → Nat → Int32) (S8 : Nat → Nat → Int32) (S9 : Nat → Nat → Int32) (v1 : Int32) (v2 : Int32) (v3 : Int32) : Option (Int32 × (Nat → Nat → Int32)) := (f_X1_hasCellOrSource S2 v1 v2).bind fun r_1 => if r_1 = 0 then (some ((-1), S4)) else ((f_X1_allPlaces S2).bind fun r_2 => (f_X6_isWithin v3 1 r_2).bind fun r_3 => if r_3 = 0 then (some ((-1), S4)) else ((f_X6_cellOf v1 v2).bind fun r_4 => zix r_4 240 fun _ => if (S2 9 (Int32.toNatClampNeg r_4)) = 0 then ((f_X6_knownBests S1 S2 S3 S4 S5 S6 S7 S8 S9).bind fun r_5 => (f_X6_cellOf v1 v2).bind fun r_6 => (f_X0_inkOf r_5 r_6 v3).bind fun r_7 => some (r_7, r_5)) else (some ((-1), S4))))
theorem dd_X6_best : RX6 ≠ "java/lang/invoke/MethodHandle" ∧ RX6 ≠ "java/lang/invoke/VarHandle" ∧ (parseMethodDescriptor yX6_best.desc).map (fun d => d.parameters.length) = some 3 := by decide +kernel
set_option maxHeartbeats 4000000 in
set_option maxRecDepth 100000 in
theorem c_X6_best (l : Launch) (D : va_G) (T : Nat → ClassId) (a0 : Nat → Nat) (a1 : Nat → Nat) (a2 : Nat → Nat) (a3 : Nat → Nat) (a4 : Nat → Nat) (a5 : Nat → Nat) (a6 : Nat → Nat) (a7 : Nat → Nat) (a8 : Nat → Nat) (a9 : Nat → Nat) (S1 : Nat → Nat → Int32) (S2 : Nat → Nat → Int32) (S3 : Nat → Nat → Int32) (S4 : Nat → Nat → Int32) (S5 : Nat → Nat → Int32) (S6 : Nat → Nat → Int32) (S7 : Nat → Nat → Int32) (S8 : Nat → Nat → Int32) (S9 : Nat → Nat → Int32) (v1 : Int32) (v2 : Int32) (v3 : Int32) (ex : Int32 × (Nat → Nat → Int32)) (h : f_X6_best S1 S2 S3 S4 S5 S6 S7 S8 S9 v1 v2 v3 = some ex) : zWI l yX6_best wsX6_best ({ frames := 6, cells := 0, slots := 0, locals := 148 } : Room) D T [.ref (a0 99), .int v1, .int v2, .int v3] (wX6 a0 a1 a2 a3 a4 a5 a6 a7 a8 a9 ++ wX4 T a1 S1 ++ wX1 T a2 S2 ++ wX1 T a3 S3 ++ wX0 T a4 S4 ++ wX5 T a5 S5 ++ wX5 T a6 S6 ++ wX5 T a7 S7 ++ wX5 T a8 S8 ++ wX3 T a9 S9) ex.1 (wX6 a0 a1 a2 a3 a4 a5 a6 a7 a8 a9 ++ wX4 T a1 S1 ++ wX1 T a2 S2 ++ wX1 T a3 S3 ++ wX0 T a4 ex.2 ++ wX5 T a5 S5 ++ wX5 T a6 S6 ++ wX5 T a7 S7 ++ wX5 T a8 S8 ++ wX3 T a9 S9) := by
  refine z_begin (cc := cX6_best) (nL := 4) (own := RX6) (fr := 6) (lc := 148) (ret := some .int) (by decide) rfl (Nat.le_of_ble_eq_true rfl) (zA (wX6 a0 a1 a2 a3 a4 a5 a6 a7 a8 a9 ++ wX4 T a1 S1 ++ wX1 T a2 S2 ++ wX1 T a3 S3 ++ wX0 T a4 S4 ++ wX5 T a5 S5 ++ wX5 T a6 S6 ++ wX5 T a7 S7 ++ wX5 T a8 S8 ++ wX3 T a9 S9)) rfl [(0, .ref (a0 99)), (1, .int v1), (2, .int v2), (3, .int v3)] rfl ⟨rfl, rfl⟩ rfl ?_
  intro p e s m args below meth c C hr hD
  have hD := hD.zself
  unfold f_X6_best at h
  refine z_aload_n C dX6_best_0 rfl 0 rfl 1 rfl ?_
  refine z_get C (in_X6_best_X6) 0 rfl rfl 1 (by decide) (List.mem_of_getElem? (i := 1) rfl) rfl rfl dX6_best_1 4 rfl ?_
  refine z_iload_n C dX6_best_4 rfl 1 rfl 5 rfl ?_
  refine z_iload_n C dX6_best_5 rfl 2 rfl 6 rfl ?_
  refine z_callR C (wX1 T a2 S2) (fun v h => c_X1_hasCellOrSource l D T a2  S2 v1 v2 v h) ⟨rfl, rfl⟩ (z_cwV C 2 gX6_best_X1_hasCellOrSource rfl rfl dd_X1_hasCellOrSource ⟨(Nat.le_of_ble_eq_true rfl), (Nat.le_of_ble_eq_true rfl)⟩) (hD.zaddr rfl) [3, 4, 5, 6, 7] rfl rfl (fun _ => ⟨a2 99, [.int v1, .int v2], 1, 0, _, _, rfl, rfl, rfl, rfl, rfl⟩) (fun h => absurd rfl h) rfl (Nat.le_of_ble_eq_true rfl) dX6_best_6 9 rfl h (fun r_1 h => ?_)
  refine z_if_eq C 43 dX6_best_9 (by decide) 12 rfl h (fun h => ?_) (fun h => ?_)
  · refine z_iconst C (-1) dX6_best_43 (by decide) 44 rfl ?_
    exact z_iretW (fun z => wX6 a0 a1 a2 a3 a4 a5 a6 a7 a8 a9 ++ wX4 T a1 S1 ++ wX1 T a2 S2 ++ wX1 T a3 S3 ++ wX0 T a4 z ++ wX5 T a5 S5 ++ wX5 T a6 S6 ++ wX5 T a7 S7 ++ wX5 T a8 S8 ++ wX3 T a9 S9) C hr dX6_best_44 h rfl
  · refine z_iload_n C dX6_best_12 rfl 3 rfl 13 rfl ?_
    refine z_iconst C 1 dX6_best_13 (by decide) 14 rfl ?_
    refine z_aload_n C dX6_best_14 rfl 0 rfl 15 rfl ?_
    refine z_get C (in_X6_best_X6) 0 rfl rfl 1 (by decide) (List.mem_of_getElem? (i := 1) rfl) rfl rfl dX6_best_15 18 rfl ?_
    refine z_callR C (wX1 T a2 S2) (fun v h => c_X1_allPlaces l D T a2  S2  v h) ⟨rfl, rfl⟩ (z_cwV C 0 gX6_best_X1_allPlaces rfl rfl dd_X1_allPlaces ⟨(Nat.le_of_ble_eq_true rfl), (Nat.le_of_ble_eq_true rfl)⟩) (hD.zaddr rfl) [3, 4, 5, 6, 7] rfl rfl (fun _ => ⟨a2 99, [], 1, 0, _, _, rfl, rfl, rfl, rfl, rfl⟩) (fun h => absurd rfl h) rfl (Nat.le_of_ble_eq_true rfl) dX6_best_18 21 rfl h (fun r_2 h => ?_)
    refine z_callR C ([]) (fun v h => c_X6_isWithin l D T    v3 1 r_2 v h) ⟨rfl, rfl⟩ (z_cwS C 3 gX6_best_X6_isWithin rfl dd_X6_isWithin ⟨(Nat.le_of_ble_eq_true rfl), (Nat.le_of_ble_eq_true rfl)⟩) (hD.zaddr rfl) [] rfl rfl (fun h => absurd h (by decide)) (fun _ => rfl) rfl (Nat.le_of_ble_eq_true rfl) dX6_best_21 24 rfl h (fun r_3 h => ?_)
    refine z_if_eq C 43 dX6_best_24 (by decide) 27 rfl h (fun h => ?_) (fun h => ?_)
    · refine z_iconst C (-1) dX6_best_43 (by decide) 44 rfl ?_
      exact z_iretW (fun z => wX6 a0 a1 a2 a3 a4 a5 a6 a7 a8 a9 ++ wX4 T a1 S1 ++ wX1 T a2 S2 ++ wX1 T a3 S3 ++ wX0 T a4 z ++ wX5 T a5 S5 ++ wX5 T a6 S6 ++ wX5 T a7 S7 ++ wX5 T a8 S8 ++ wX3 T a9 S9) C hr dX6_best_44 h rfl
    · refine z_aload_n C dX6_best_27 rfl 0 rfl 28 rfl ?_
      refine z_get C (in_X6_best_X6) 0 rfl rfl 1 (by decide) (List.mem_of_getElem? (i := 1) rfl) rfl rfl dX6_best_28 31 rfl ?_
      refine z_get C (in_X6_best_X1) 3 rfl rfl 9 (by decide) (List.mem_of_getElem? (i := 2) rfl) rfl rfl dX6_best_31 34 rfl ?_
      refine z_iload_n C dX6_best_34 rfl 1 rfl 35 rfl ?_
      refine z_iload_n C dX6_best_35 rfl 2 rfl 36 rfl ?_
      refine z_callR C ([]) (fun v h => c_X6_cellOf l D T    v1 v2 v h) ⟨rfl, rfl⟩ (z_cwS C 2 gX6_best_X6_cellOf rfl dd_X6_cellOf ⟨(Nat.le_of_ble_eq_true rfl), (Nat.le_of_ble_eq_true rfl)⟩) (hD.zaddr rfl) [] rfl rfl (fun h => absurd h (by decide)) (fun _ => rfl) rfl (Nat.le_of_ble_eq_true rfl) dX6_best_36 39 rfl h (fun r_4 h => ?_)
      refine z_zald C 7 rfl rfl dX6_best_39 40 rfl h (fun h => ?_)
      refine z_if_eq C 45 dX6_best_40 (by decide) 43 rfl h (fun h => ?_) (fun h => ?_)
      · refine z_aload_n C dX6_best_45 rfl 0 rfl 46 rfl ?_
        refine z_callA C (wX6 a0 a1 a2 a3 a4 a5 a6 a7 a8 a9 ++ wX4 T a1 S1 ++ wX1 T a2 S2 ++ wX1 T a3 S3 ++ wX0 T a4 S4 ++ wX5 T a5 S5 ++ wX5 T a6 S6 ++ wX5 T a7 S7 ++ wX5 T a8 S8 ++ wX3 T a9 S9) (([] : va_W)) (fun z => a4 99) (fun z => wX6 a0 a1 a2 a3 a4 a5 a6 a7 a8 a9 ++ wX4 T a1 S1 ++ wX1 T a2 S2 ++ wX1 T a3 S3 ++ wX0 T a4 z ++ wX5 T a5 S5 ++ wX5 T a6 S6 ++ wX5 T a7 S7 ++ wX5 T a8 S8 ++ wX3 T a9 S9) (fun z => wX6 a0 a1 a2 a3 a4 a5 a6 a7 a8 a9 ++ wX4 T a1 S1 ++ wX1 T a2 S2 ++ wX1 T a3 S3 ++ wX0 T a4 z ++ wX5 T a5 S5 ++ wX5 T a6 S6 ++ wX5 T a7 S7 ++ wX5 T a8 S8 ++ wX3 T a9 S9) (fun z h => c_X6_knownBests l D T a0 a1 a2 a3 a4 a5 a6 a7 a8 a9  S1 S2 S3 S4 S5 S6 S7 S8 S9  z h) ⟨rfl, rfl⟩ (z_cwV C 0 gX6_best_X6_knownBests rfl rfl dd_X6_knownBests ⟨(Nat.le_of_ble_eq_true rfl), (Nat.le_of_ble_eq_true rfl)⟩) (hD.zaddr rfl) [0, 1, 2, 3, 4, 5, 6, 7, 8, 9, 10, 11, 12, 13, 14, 15, 16, 17, 18, 19, 20, 21, 22, 23, 24, 25, 26, 27, 28, 29, 30, 31, 32, 33] [] [0, 1, 2, 3, 4, 5, 6, 7, 8, 9, 10, 11, 12, 13, 14, 15, 16, 17, 18, 19, 20, 21, 22, 23, 24, 25, 26, 27, 28, 29, 30, 31, 32, 33] rfl rfl rfl (by decide) (fun _ => rfl) (fun _ => ⟨a0 99, [], 5, 0, _, _, rfl, rfl, rfl, rfl, rfl⟩) (fun h => absurd rfl h) rfl (Nat.le_of_ble_eq_true rfl) dX6_best_46 49 rfl h (fun r_5 h => ?_)
        refine z_iload_n C dX6_best_49 rfl 1 rfl 50 rfl ?_
        refine z_iload_n C dX6_best_50 rfl 2 rfl 51 rfl ?_
        refine z_callR C ([]) (fun v h => c_X6_cellOf l D T    v1 v2 v h) ⟨rfl, rfl⟩ (z_cwS C 2 gX6_best_X6_cellOf rfl dd_X6_cellOf ⟨(Nat.le_of_ble_eq_true rfl), (Nat.le_of_ble_eq_true rfl)⟩) (hD.zaddr rfl) [] rfl rfl (fun h => absurd h (by decide)) (fun _ => rfl) rfl (Nat.le_of_ble_eq_true rfl) dX6_best_51 54 rfl h (fun r_6 h => ?_)
        refine z_iload_n C dX6_best_54 rfl 3 rfl 55 rfl ?_
        refine z_callR C (wX0 T a4 r_5) (fun v h => c_X0_inkOf l D T a4  r_5 r_6 v3 v h) ⟨rfl, rfl⟩ (z_cwV C 2 gX6_best_X0_inkOf rfl rfl dd_X0_inkOf ⟨(Nat.le_of_ble_eq_true rfl), (Nat.le_of_ble_eq_true rfl)⟩) (hD.zaddr rfl) [13, 14, 15, 16, 17, 18, 19] rfl rfl (fun _ => ⟨a4 99, [.int r_6, .int v3], 0, 0, _, _, rfl, rfl, rfl, rfl, rfl⟩) (fun h => absurd rfl h) rfl (Nat.le_of_ble_eq_true rfl) dX6_best_55 58 rfl h (fun r_7 h => ?_)
        exact z_iretW (fun z => wX6 a0 a1 a2 a3 a4 a5 a6 a7 a8 a9 ++ wX4 T a1 S1 ++ wX1 T a2 S2 ++ wX1 T a3 S3 ++ wX0 T a4 z ++ wX5 T a5 S5 ++ wX5 T a6 S6 ++ wX5 T a7 S7 ++ wX5 T a8 S8 ++ wX3 T a9 S9) C hr dX6_best_58 h rfl
      · refine z_iconst C (-1) dX6_best_43 (by decide) 44 rfl ?_
        exact z_iretW (fun z => wX6 a0 a1 a2 a3 a4 a5 a6 a7 a8 a9 ++ wX4 T a1 S1 ++ wX1 T a2 S2 ++ wX1 T a3 S3 ++ wX0 T a4 z ++ wX5 T a5 S5 ++ wX5 T a6 S6 ++ wX5 T a7 S7 ++ wX5 T a8 S8 ++ wX3 T a9 S9) C hr dX6_best_44 h rfl

end
/-! StreamTree.count (I)I -/
section
variable {p : Program} {l : Launch} {e : Env} {R : Room} {s : State} {m : MethodId} {args : Array Value} {below : List Frame} {meth : Method} {c : Code} {Q : State → Prop} {A : Nat → Prop} {D : va_G} {T : Nat → ClassId} {a0 : Nat → Nat} {a1 : Nat → Nat} {a2 : Nat → Nat} {a3 : Nat → Nat} {a4 : Nat → Nat} {a5 : Nat → Nat} {a6 : Nat → Nat} {a7 : Nat → Nat} {a8 : Nat → Nat} {a9 : Nat → Nat}
theorem in_X6_count_X4 : ∀ w ∈ u_ws RX4 TX4 8, w ∈ wsX6_count := fun _ h => (List.mem_cons_of_mem _ (List.mem_append_left _ (List.mem_append_right _ h)))
theorem in_X6_count_X1 : ∀ w ∈ u_ws RX1 TX1 10, w ∈ wsX6_count := fun _ h => (List.mem_cons_of_mem _ (List.mem_append_left _ (List.mem_append_left _ (List.mem_append_right _ h))))
theorem in_X6_count_X6 : ∀ w ∈ u_ws RX6 TX6 9, w ∈ wsX6_count := fun _ h => (List.mem_cons_of_mem _ (List.mem_append_left _ (List.mem_append_left _ (List.mem_append_left _ (List.mem_append_right _ h)))))
def f_X6_count (S1 : Nat → Nat → Int32) (S2 : Nat → Nat → Int32) (S3 : Nat → Nat → Int32) (S4 : Nat → Nat → Int32) (S5 : Nat → Nat → Int32) (S6 : Nat → Nat → Int32) (S7 : Nat → Nat → Int32) (S8 : Nat → Nat → Int32) (S9 : Nat → Nat → Int32) (v1 : Int32) : Option (Int32 × (Nat → Nat → Int32)) := if v1 = 0 then (some ((S2 0 0), S4)) else (if v1 = 1 then (some ((S2 1 0), S4)) else (if v1 = 2 then (some ((S2 5 0), S4)) else (if v1 = 3 then ((f_X1_rocks S2).bind fun r_1 => some (r_1, S4)) else (if v1 = 4 then (some ((S2 2 0), S4)) else (if v1 = 5 then (some ((S2 3 0), S4)) else (if v1 = 6 then (some ((S2 4 0), S4)) else (if v1 = 7 then ((f_X1_allPlaces S2).bind fun r_2 => (f_X1_amountOf S2 r_2).bind fun r_3 => some (r_3, S4)) else (if v1 = 8 then (some ((S1 0 0), S4)) else (if v1 = 9 then ((f_X6_inkSavedByLeast S1 S2 S3 S4 S5 S6 S7 S8 S9).bind fun r_4 => some (r_4.1, r_4.2)) else (some ((-1), S4)))))))))))
theorem dd_X6_count : RX6 ≠ "java/lang/invoke/MethodHandle" ∧ RX6 ≠ "java/lang/invoke/VarHandle" ∧ (parseMethodDescriptor yX6_count.desc).map (fun d => d.parameters.length) = some 1 := by decide +kernel
set_option maxHeartbeats 4000000 in
set_option maxRecDepth 100000 in
theorem c_X6_count (l : Launch) (D : va_G) (T : Nat → ClassId) (a0 : Nat → Nat) (a1 : Nat → Nat) (a2 : Nat → Nat) (a3 : Nat → Nat) (a4 : Nat → Nat) (a5 : Nat → Nat) (a6 : Nat → Nat) (a7 : Nat → Nat) (a8 : Nat → Nat) (a9 : Nat → Nat) (S1 : Nat → Nat → Int32) (S2 : Nat → Nat → Int32) (S3 : Nat → Nat → Int32) (S4 : Nat → Nat → Int32) (S5 : Nat → Nat → Int32) (S6 : Nat → Nat → Int32) (S7 : Nat → Nat → Int32) (S8 : Nat → Nat → Int32) (S9 : Nat → Nat → Int32) (v1 : Int32) (ex : Int32 × (Nat → Nat → Int32)) (h : f_X6_count S1 S2 S3 S4 S5 S6 S7 S8 S9 v1 = some ex) : zWI l yX6_count wsX6_count ({ frames := 8, cells := 0, slots := 0, locals := 192 } : Room) D T [.ref (a0 99), .int v1] (wX6 a0 a1 a2 a3 a4 a5 a6 a7 a8 a9 ++ wX4 T a1 S1 ++ wX1 T a2 S2 ++ wX1 T a3 S3 ++ wX0 T a4 S4 ++ wX5 T a5 S5 ++ wX5 T a6 S6 ++ wX5 T a7 S7 ++ wX5 T a8 S8 ++ wX3 T a9 S9) ex.1 (wX6 a0 a1 a2 a3 a4 a5 a6 a7 a8 a9 ++ wX4 T a1 S1 ++ wX1 T a2 S2 ++ wX1 T a3 S3 ++ wX0 T a4 ex.2 ++ wX5 T a5 S5 ++ wX5 T a6 S6 ++ wX5 T a7 S7 ++ wX5 T a8 S8 ++ wX3 T a9 S9) := by
  refine z_begin (cc := cX6_count) (nL := 2) (own := RX6) (fr := 8) (lc := 192) (ret := some .int) (by decide) rfl (Nat.le_of_ble_eq_true rfl) (zA (wX6 a0 a1 a2 a3 a4 a5 a6 a7 a8 a9 ++ wX4 T a1 S1 ++ wX1 T a2 S2 ++ wX1 T a3 S3 ++ wX0 T a4 S4 ++ wX5 T a5 S5 ++ wX5 T a6 S6 ++ wX5 T a7 S7 ++ wX5 T a8 S8 ++ wX3 T a9 S9)) rfl [(0, .ref (a0 99)), (1, .int v1)] rfl ⟨rfl, rfl⟩ rfl ?_
  intro p e s m args below meth c C hr hD
  have hD := hD.zself
  unfold f_X6_count at h
  refine z_iload_n C dX6_count_0 rfl 1 rfl 1 rfl ?_
  refine z_case h (fun hx h => ?_) (fun hx_0 h => ?_)
  · refine z_tableIn C 56 dX6_count_1 hx (by decide) (by decide) (by decide) (by decide) ?_
    refine z_aload_n C dX6_count_56 rfl 0 rfl 57 rfl ?_
    refine z_get C (in_X6_count_X6) 0 rfl rfl 1 (by decide) (List.mem_of_getElem? (i := 1) rfl) rfl rfl dX6_count_57 60 rfl ?_
    refine z_get C (in_X6_count_X1) 3 rfl rfl 0 (by decide) (List.mem_of_getElem? (i := 2) rfl) rfl rfl dX6_count_60 63 rfl ?_
    exact z_iretW (fun z => wX6 a0 a1 a2 a3 a4 a5 a6 a7 a8 a9 ++ wX4 T a1 S1 ++ wX1 T a2 S2 ++ wX1 T a3 S3 ++ wX0 T a4 z ++ wX5 T a5 S5 ++ wX5 T a6 S6 ++ wX5 T a7 S7 ++ wX5 T a8 S8 ++ wX3 T a9 S9) C hr dX6_count_63 h rfl
  · refine z_case h (fun hx h => ?_) (fun hx_1 h => ?_)
    · refine z_tableIn C 64 dX6_count_1 hx (by decide) (by decide) (by decide) (by decide) ?_
      refine z_aload_n C dX6_count_64 rfl 0 rfl 65 rfl ?_
      refine z_get C (in_X6_count_X6) 0 rfl rfl 1 (by decide) (List.mem_of_getElem? (i := 1) rfl) rfl rfl dX6_count_65 68 rfl ?_
      refine z_get C (in_X6_count_X1) 3 rfl rfl 1 (by decide) (List.mem_of_getElem? (i := 3) rfl) rfl rfl dX6_count_68 71 rfl ?_
      exact z_iretW (fun z => wX6 a0 a1 a2 a3 a4 a5 a6 a7 a8 a9 ++ wX4 T a1 S1 ++ wX1 T a2 S2 ++ wX1 T a3 S3 ++ wX0 T a4 z ++ wX5 T a5 S5 ++ wX5 T a6 S6 ++ wX5 T a7 S7 ++ wX5 T a8 S8 ++ wX3 T a9 S9) C hr dX6_count_71 h rfl
    · refine z_case h (fun hx h => ?_) (fun hx_2 h => ?_)
      · refine z_tableIn C 72 dX6_count_1 hx (by decide) (by decide) (by decide) (by decide) ?_
        refine z_aload_n C dX6_count_72 rfl 0 rfl 73 rfl ?_
        refine z_get C (in_X6_count_X6) 0 rfl rfl 1 (by decide) (List.mem_of_getElem? (i := 1) rfl) rfl rfl dX6_count_73 76 rfl ?_
        refine z_get C (in_X6_count_X1) 3 rfl rfl 5 (by decide) (List.mem_of_getElem? (i := 4) rfl) rfl rfl dX6_count_76 79 rfl ?_
        exact z_iretW (fun z => wX6 a0 a1 a2 a3 a4 a5 a6 a7 a8 a9 ++ wX4 T a1 S1 ++ wX1 T a2 S2 ++ wX1 T a3 S3 ++ wX0 T a4 z ++ wX5 T a5 S5 ++ wX5 T a6 S6 ++ wX5 T a7 S7 ++ wX5 T a8 S8 ++ wX3 T a9 S9) C hr dX6_count_79 h rfl
      · refine z_case h (fun hx h => ?_) (fun hx_3 h => ?_)
        · refine z_tableIn C 80 dX6_count_1 hx (by decide) (by decide) (by decide) (by decide) ?_
          refine z_aload_n C dX6_count_80 rfl 0 rfl 81 rfl ?_
          refine z_get C (in_X6_count_X6) 0 rfl rfl 1 (by decide) (List.mem_of_getElem? (i := 1) rfl) rfl rfl dX6_count_81 84 rfl ?_
          refine z_callR C (wX1 T a2 S2) (fun v h => c_X1_rocks l D T a2  S2  v h) ⟨rfl, rfl⟩ (z_cwV C 0 gX6_count_X1_rocks rfl rfl dd_X1_rocks ⟨(Nat.le_of_ble_eq_true rfl), (Nat.le_of_ble_eq_true rfl)⟩) (hD.zaddr rfl) [3, 4, 5, 6, 7] rfl rfl (fun _ => ⟨a2 99, [], 1, 0, _, _, rfl, rfl, rfl, rfl, rfl⟩) (fun h => absurd rfl h) rfl (Nat.le_of_ble_eq_true rfl) dX6_count_84 87 rfl h (fun r_1 h => ?_)
          exact z_iretW (fun z => wX6 a0 a1 a2 a3 a4 a5 a6 a7 a8 a9 ++ wX4 T a1 S1 ++ wX1 T a2 S2 ++ wX1 T a3 S3 ++ wX0 T a4 z ++ wX5 T a5 S5 ++ wX5 T a6 S6 ++ wX5 T a7 S7 ++ wX5 T a8 S8 ++ wX3 T a9 S9) C hr dX6_count_87 h rfl
        · refine z_case h (fun hx h => ?_) (fun hx_4 h => ?_)
          · refine z_tableIn C 88 dX6_count_1 hx (by decide) (by decide) (by decide) (by decide) ?_
            refine z_aload_n C dX6_count_88 rfl 0 rfl 89 rfl ?_
            refine z_get C (in_X6_count_X6) 0 rfl rfl 1 (by decide) (List.mem_of_getElem? (i := 1) rfl) rfl rfl dX6_count_89 92 rfl ?_
            refine z_get C (in_X6_count_X1) 3 rfl rfl 2 (by decide) (List.mem_of_getElem? (i := 5) rfl) rfl rfl dX6_count_92 95 rfl ?_
            exact z_iretW (fun z => wX6 a0 a1 a2 a3 a4 a5 a6 a7 a8 a9 ++ wX4 T a1 S1 ++ wX1 T a2 S2 ++ wX1 T a3 S3 ++ wX0 T a4 z ++ wX5 T a5 S5 ++ wX5 T a6 S6 ++ wX5 T a7 S7 ++ wX5 T a8 S8 ++ wX3 T a9 S9) C hr dX6_count_95 h rfl
          · refine z_case h (fun hx h => ?_) (fun hx_5 h => ?_)
            · refine z_tableIn C 96 dX6_count_1 hx (by decide) (by decide) (by decide) (by decide) ?_
              refine z_aload_n C dX6_count_96 rfl 0 rfl 97 rfl ?_
              refine z_get C (in_X6_count_X6) 0 rfl rfl 1 (by decide) (List.mem_of_getElem? (i := 1) rfl) rfl rfl dX6_count_97 100 rfl ?_
              refine z_get C (in_X6_count_X1) 3 rfl rfl 3 (by decide) (List.mem_of_getElem? (i := 6) rfl) rfl rfl dX6_count_100 103 rfl ?_
              exact z_iretW (fun z => wX6 a0 a1 a2 a3 a4 a5 a6 a7 a8 a9 ++ wX4 T a1 S1 ++ wX1 T a2 S2 ++ wX1 T a3 S3 ++ wX0 T a4 z ++ wX5 T a5 S5 ++ wX5 T a6 S6 ++ wX5 T a7 S7 ++ wX5 T a8 S8 ++ wX3 T a9 S9) C hr dX6_count_103 h rfl
            · refine z_case h (fun hx h => ?_) (fun hx_6 h => ?_)
              · refine z_tableIn C 104 dX6_count_1 hx (by decide) (by decide) (by decide) (by decide) ?_
                refine z_aload_n C dX6_count_104 rfl 0 rfl 105 rfl ?_
                refine z_get C (in_X6_count_X6) 0 rfl rfl 1 (by decide) (List.mem_of_getElem? (i := 1) rfl) rfl rfl dX6_count_105 108 rfl ?_
                refine z_get C (in_X6_count_X1) 3 rfl rfl 4 (by decide) (List.mem_of_getElem? (i := 7) rfl) rfl rfl dX6_count_108 111 rfl ?_
                exact z_iretW (fun z => wX6 a0 a1 a2 a3 a4 a5 a6 a7 a8 a9 ++ wX4 T a1 S1 ++ wX1 T a2 S2 ++ wX1 T a3 S3 ++ wX0 T a4 z ++ wX5 T a5 S5 ++ wX5 T a6 S6 ++ wX5 T a7 S7 ++ wX5 T a8 S8 ++ wX3 T a9 S9) C hr dX6_count_111 h rfl
              · refine z_case h (fun hx h => ?_) (fun hx_7 h => ?_)
                · refine z_tableIn C 112 dX6_count_1 hx (by decide) (by decide) (by decide) (by decide) ?_
                  refine z_aload_n C dX6_count_112 rfl 0 rfl 113 rfl ?_
                  refine z_get C (in_X6_count_X6) 0 rfl rfl 1 (by decide) (List.mem_of_getElem? (i := 1) rfl) rfl rfl dX6_count_113 116 rfl ?_
                  refine z_aload_n C dX6_count_116 rfl 0 rfl 117 rfl ?_
                  refine z_get C (in_X6_count_X6) 0 rfl rfl 1 (by decide) (List.mem_of_getElem? (i := 1) rfl) rfl rfl dX6_count_117 120 rfl ?_
                  refine z_callR C (wX1 T a2 S2) (fun v h => c_X1_allPlaces l D T a2  S2  v h) ⟨rfl, rfl⟩ (z_cwV C 0 gX6_count_X1_allPlaces rfl rfl dd_X1_allPlaces ⟨(Nat.le_of_ble_eq_true rfl), (Nat.le_of_ble_eq_true rfl)⟩) (hD.zaddr rfl) [3, 4, 5, 6, 7] rfl rfl (fun _ => ⟨a2 99, [], 1, 0, _, _, rfl, rfl, rfl, rfl, rfl⟩) (fun h => absurd rfl h) rfl (Nat.le_of_ble_eq_true rfl) dX6_count_120 123 rfl h (fun r_2 h => ?_)
                  refine z_callR C (wX1 T a2 S2) (fun v h => c_X1_amountOf l D T a2  S2 r_2 v h) ⟨rfl, rfl⟩ (z_cwV C 1 gX6_count_X1_amountOf rfl rfl dd_X1_amountOf ⟨(Nat.le_of_ble_eq_true rfl), (Nat.le_of_ble_eq_true rfl)⟩) (hD.zaddr rfl) [3, 4, 5, 6, 7] rfl rfl (fun _ => ⟨a2 99, [.int r_2], 1, 0, _, _, rfl, rfl, rfl, rfl, rfl⟩) (fun h => absurd rfl h) rfl (Nat.le_of_ble_eq_true rfl) dX6_count_123 126 rfl h (fun r_3 h => ?_)
                  exact z_iretW (fun z => wX6 a0 a1 a2 a3 a4 a5 a6 a7 a8 a9 ++ wX4 T a1 S1 ++ wX1 T a2 S2 ++ wX1 T a3 S3 ++ wX0 T a4 z ++ wX5 T a5 S5 ++ wX5 T a6 S6 ++ wX5 T a7 S7 ++ wX5 T a8 S8 ++ wX3 T a9 S9) C hr dX6_count_126 h rfl
                · refine z_case h (fun hx h => ?_) (fun hx_8 h => ?_)
                  · refine z_tableIn C 127 dX6_count_1 hx (by decide) (by decide) (by decide) (by decide) ?_
                    refine z_aload_n C dX6_count_127 rfl 0 rfl 128 rfl ?_
                    refine z_get C (in_X6_count_X6) 0 rfl rfl 0 (by decide) (List.mem_of_getElem? (i := 8) rfl) rfl rfl dX6_count_128 131 rfl ?_
                    refine z_get C (in_X6_count_X4) 1 rfl rfl 0 (by decide) (List.mem_of_getElem? (i := 9) rfl) rfl rfl dX6_count_131 134 rfl ?_
                    exact z_iretW (fun z => wX6 a0 a1 a2 a3 a4 a5 a6 a7 a8 a9 ++ wX4 T a1 S1 ++ wX1 T a2 S2 ++ wX1 T a3 S3 ++ wX0 T a4 z ++ wX5 T a5 S5 ++ wX5 T a6 S6 ++ wX5 T a7 S7 ++ wX5 T a8 S8 ++ wX3 T a9 S9) C hr dX6_count_134 h rfl
                  · refine z_case h (fun hx h => ?_) (fun hx_9 h => ?_)
                    · refine z_tableIn C 135 dX6_count_1 hx (by decide) (by decide) (by decide) (by decide) ?_
                      refine z_aload_n C dX6_count_135 rfl 0 rfl 136 rfl ?_
                      refine z_callW C (wX6 a0 a1 a2 a3 a4 a5 a6 a7 a8 a9 ++ wX4 T a1 S1 ++ wX1 T a2 S2 ++ wX1 T a3 S3 ++ wX0 T a4 S4 ++ wX5 T a5 S5 ++ wX5 T a6 S6 ++ wX5 T a7 S7 ++ wX5 T a8 S8 ++ wX3 T a9 S9) (([] : va_W)) (fun z => z.1) (fun z => wX6 a0 a1 a2 a3 a4 a5 a6 a7 a8 a9 ++ wX4 T a1 S1 ++ wX1 T a2 S2 ++ wX1 T a3 S3 ++ wX0 T a4 z.2 ++ wX5 T a5 S5 ++ wX5 T a6 S6 ++ wX5 T a7 S7 ++ wX5 T a8 S8 ++ wX3 T a9 S9) (fun z => wX6 a0 a1 a2 a3 a4 a5 a6 a7 a8 a9 ++ wX4 T a1 S1 ++ wX1 T a2 S2 ++ wX1 T a3 S3 ++ wX0 T a4 z.2 ++ wX5 T a5 S5 ++ wX5 T a6 S6 ++ wX5 T a7 S7 ++ wX5 T a8 S8 ++ wX3 T a9 S9) (fun z h => c_X6_inkSavedByLeast l D T a0 a1 a2 a3 a4 a5 a6 a7 a8 a9  S1 S2 S3 S4 S5 S6 S7 S8 S9  z h) ⟨rfl, rfl⟩ (z_cwV C 0 gX6_count_X6_inkSavedByLeast rfl rfl dd_X6_inkSavedByLeast ⟨(Nat.le_of_ble_eq_true rfl), (Nat.le_of_ble_eq_true rfl)⟩) (hD.zaddr rfl) [0, 1, 2, 3, 4, 5, 6, 7, 8, 9, 10, 11, 12, 13, 14, 15, 16, 17, 18, 19, 20, 21, 22, 23, 24, 25, 26, 27, 28, 29, 30, 31, 32, 33] [] [0, 1, 2, 3, 4, 5, 6, 7, 8, 9, 10, 11, 12, 13, 14, 15, 16, 17, 18, 19, 20, 21, 22, 23, 24, 25, 26, 27, 28, 29, 30, 31, 32, 33] rfl rfl rfl (by decide) (fun _ => rfl) (fun _ => ⟨a0 99, [], 5, 0, _, _, rfl, rfl, rfl, rfl, rfl⟩) (fun h => absurd rfl h) rfl (Nat.le_of_ble_eq_true rfl) dX6_count_136 139 rfl h (fun r_4 h => ?_)
                      exact z_iretW (fun z => wX6 a0 a1 a2 a3 a4 a5 a6 a7 a8 a9 ++ wX4 T a1 S1 ++ wX1 T a2 S2 ++ wX1 T a3 S3 ++ wX0 T a4 z ++ wX5 T a5 S5 ++ wX5 T a6 S6 ++ wX5 T a7 S7 ++ wX5 T a8 S8 ++ wX3 T a9 S9) C hr dX6_count_139 h rfl
                    · refine z_tableOut C 140 dX6_count_1 (by have := z_ne_toInt hx_0; have := z_ne_toInt hx_1; have := z_ne_toInt hx_2; have := z_ne_toInt hx_3; have := z_ne_toInt hx_4; have := z_ne_toInt hx_5; have := z_ne_toInt hx_6; have := z_ne_toInt hx_7; have := z_ne_toInt hx_8; have := z_ne_toInt hx_9; omega) (by decide) ?_
                      refine z_iconst C (-1) dX6_count_140 (by decide) 141 rfl ?_
                      exact z_iretW (fun z => wX6 a0 a1 a2 a3 a4 a5 a6 a7 a8 a9 ++ wX4 T a1 S1 ++ wX1 T a2 S2 ++ wX1 T a3 S3 ++ wX0 T a4 z ++ wX5 T a5 S5 ++ wX5 T a6 S6 ++ wX5 T a7 S7 ++ wX5 T a8 S8 ++ wX3 T a9 S9) C hr dX6_count_141 h rfl

end
