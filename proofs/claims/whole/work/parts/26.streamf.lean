/-! StreamTree.way (III)I -/
section
variable {p : Program} {l : Launch} {e : Env} {R : Room} {s : State} {m : MethodId} {args : Array Value} {below : List Frame} {meth : Method} {c : Code} {Q : State → Prop} {A : Nat → Prop} {D : va_G} {T : Nat → ClassId} {a0 : Nat → Nat} {a1 : Nat → Nat} {a2 : Nat → Nat} {a3 : Nat → Nat} {a4 : Nat → Nat} {a5 : Nat → Nat} {a6 : Nat → Nat} {a7 : Nat → Nat} {a8 : Nat → Nat} {a9 : Nat → Nat}
theorem in_X6_way_X5 : ∀ w ∈ u_ws RX5 TX5 5, w ∈ wsX6_way := fun _ h => (List.mem_cons_of_mem _ (List.mem_append_left _ (List.mem_append_right _ h)))
theorem in_X6_way_X1 : ∀ w ∈ u_ws RX1 TX1 10, w ∈ wsX6_way := fun _ h => (List.mem_cons_of_mem _ (List.mem_append_left _ (List.mem_append_left _ (List.mem_append_right _ h))))
theorem in_X6_way_X6 : ∀ w ∈ u_ws RX6 TX6 9, w ∈ wsX6_way := fun _ h => (List.mem_cons_of_mem _ (List.mem_append_left _ (List.mem_append_left _ (List.mem_append_left _ (List.mem_append_right _ h)))))
def f_X6_way (S1 : Nat → Nat → Int32) (S2 : Nat → Nat → Int32) (S3 : Nat → Nat → Int32) (S4 : Nat → Nat → Int32) (S5 : Nat → Nat → Int32) (S6 : Nat → Nat → Int32) (S7 : Nat → Nat → Int32) (S8 : Nat → Nat → Int32) (S9 : Nat → Nat → Int32) (v1 : Int32) (v2 : Int32) (v3 : Int32) : Option (Int32 × (Nat → Nat → Int32) × (Nat → Nat → Int32) × (Nat → Nat → Int32) × (Nat → Nat → Int32) × (Nat → Nat → Int32)) := (f_X6_isTreeManner v1).bind fun r_1 => if r_1 = 0 then (some ((-1), S4, S5, S6, S7, S8)) else ((f_X6_hasPlace S1 S2 S3 S4 S5 S6 S7 S8 S9 v2).bind fun r_2 => if r_2 = 0 then (some ((-1), S4, S5, S6, S7, S8)) else ((f_X6_isWithin v3 0 (S2 0 0)).bind fun r_3 => if r_3 = 0 then (some ((-1), S4, S5, S6, S7, S8)) else ((f_X6_treeOf S1 S2 S3 S4 S5 S6 S7 S8 S9 v1).bind fun r_4 => if r_4.1 = 5 then (if (r_4.2.2.1 1 0) = 0 then (some ((-2), r_4.2.1, r_4.2.2.1, r_4.2.2.2.1, r_4.2.2.2.2.1, r_4.2.2.2.2.2)) else (zix v2 7 fun _ => if v3 ≤ (S2 6 (Int32.toNatClampNeg v2)) then ((f_X5_turnOnWay r_4.2.2.1 S2 v2 v3).bind fun r_5 => some (r_5, r_4.2.1, r_4.2.2.1, r_4.2.2.2.1, r_4.2.2.2.2.1, r_4.2.2.2.2.2)) else (some ((-1), r_4.2.1, r_4.2.2.1, r_4.2.2.2.1, r_4.2.2.2.2.1, r_4.2.2.2.2.2)))) else (if r_4.1 = 6 then (if (r_4.2.2.2.1 1 0) = 0 then (some ((-2), r_4.2.1, r_4.2.2.1, r_4.2.2.2.1, r_4.2.2.2.2.1, r_4.2.2.2.2.2)) else (zix v2 7 fun _ => if v3 ≤ (S2 6 (Int32.toNatClampNeg v2)) then ((f_X5_turnOnWay r_4.2.2.2.1 S2 v2 v3).bind fun r_6 => some (r_6, r_4.2.1, r_4.2.2.1, r_4.2.2.2.1, r_4.2.2.2.2.1, r_4.2.2.2.2.2)) else (some ((-1), r_4.2.1, r_4.2.2.1, r_4.2.2.2.1, r_4.2.2.2.2.1, r_4.2.2.2.2.2)))) else (if r_4.1 = 7 then (if (r_4.2.2.2.2.1 1 0) = 0 then (some ((-2), r_4.2.1, r_4.2.2.1, r_4.2.2.2.1, r_4.2.2.2.2.1, r_4.2.2.2.2.2)) else (zix v2 7 fun _ => if v3 ≤ (S2 6 (Int32.toNatClampNeg v2)) then ((f_X5_turnOnWay r_4.2.2.2.2.1 S2 v2 v3).bind fun r_7 => some (r_7, r_4.2.1, r_4.2.2.1, r_4.2.2.2.1, r_4.2.2.2.2.1, r_4.2.2.2.2.2)) else (some ((-1), r_4.2.1, r_4.2.2.1, r_4.2.2.2.1, r_4.2.2.2.2.1, r_4.2.2.2.2.2)))) else (if (r_4.2.2.2.2.2 1 0) = 0 then (some ((-2), r_4.2.1, r_4.2.2.1, r_4.2.2.2.1, r_4.2.2.2.2.1, r_4.2.2.2.2.2)) else (zix v2 7 fun _ => if v3 ≤ (S2 6 (Int32.toNatClampNeg v2)) then ((f_X5_turnOnWay r_4.2.2.2.2.2 S2 v2 v3).bind fun r_8 => some (r_8, r_4.2.1, r_4.2.2.1, r_4.2.2.2.1, r_4.2.2.2.2.1, r_4.2.2.2.2.2)) else (some ((-1), r_4.2.1, r_4.2.2.1, r_4.2.2.2.1, r_4.2.2.2.2.1, r_4.2.2.2.2.2)))))))))
theorem dd_X6_way : RX6 ≠ "java/lang/invoke/MethodHandle" ∧ RX6 ≠ "java/lang/invoke/VarHandle" ∧ (parseMethodDescriptor yX6_way.desc).map (fun d => d.parameters.length) = some 3 := by decide +kernel
set_option maxHeartbeats 4000000 in
set_option maxRecDepth 100000 in
theorem c_X6_way (l : Launch) (D : va_G) (T : Nat → ClassId) (a0 : Nat → Nat) (a1 : Nat → Nat) (a2 : Nat → Nat) (a3 : Nat → Nat) (a4 : Nat → Nat) (a5 : Nat → Nat) (a6 : Nat → Nat) (a7 : Nat → Nat) (a8 : Nat → Nat) (a9 : Nat → Nat) (S1 : Nat → Nat → Int32) (S2 : Nat → Nat → Int32) (S3 : Nat → Nat → Int32) (S4 : Nat → Nat → Int32) (S5 : Nat → Nat → Int32) (S6 : Nat → Nat → Int32) (S7 : Nat → Nat → Int32) (S8 : Nat → Nat → Int32) (S9 : Nat → Nat → Int32) (v1 : Int32) (v2 : Int32) (v3 : Int32) (ex : Int32 × (Nat → Nat → Int32) × (Nat → Nat → Int32) × (Nat → Nat → Int32) × (Nat → Nat → Int32) × (Nat → Nat → Int32)) (h : f_X6_way S1 S2 S3 S4 S5 S6 S7 S8 S9 v1 v2 v3 = some ex) : zWI l yX6_way wsX6_way ({ frames := 6, cells := 0, slots := 0, locals := 150 } : Room) D T [.ref (a0 99), .int v1, .int v2, .int v3] (wX6 a0 a1 a2 a3 a4 a5 a6 a7 a8 a9 ++ (wX4 T a1 S1 ++ (wX1 T a2 S2 ++ (wX1 T a3 S3 ++ (wX0 T a4 S4 ++ (wX5 T a5 S5 ++ (wX5 T a6 S6 ++ (wX5 T a7 S7 ++ (wX5 T a8 S8 ++ wX3 T a9 S9))))))))) ex.1 (wX6 a0 a1 a2 a3 a4 a5 a6 a7 a8 a9 ++ (wX4 T a1 S1 ++ (wX1 T a2 S2 ++ (wX1 T a3 S3 ++ (wX0 T a4 ex.2.1 ++ (wX5 T a5 ex.2.2.1 ++ (wX5 T a6 ex.2.2.2.1 ++ (wX5 T a7 ex.2.2.2.2.1 ++ (wX5 T a8 ex.2.2.2.2.2 ++ wX3 T a9 S9))))))))) := by
  refine z_begin (cc := cX6_way) (nL := 5) (own := RX6) (fr := 6) (lc := 150) (ret := some .int) (by decide) rfl (Nat.le_of_ble_eq_true rfl) (zA (wX6 a0 a1 a2 a3 a4 a5 a6 a7 a8 a9 ++ (wX4 T a1 S1 ++ (wX1 T a2 S2 ++ (wX1 T a3 S3 ++ (wX0 T a4 S4 ++ (wX5 T a5 S5 ++ (wX5 T a6 S6 ++ (wX5 T a7 S7 ++ (wX5 T a8 S8 ++ wX3 T a9 S9)))))))))) rfl [(0, .ref (a0 99)), (1, .int v1), (2, .int v2), (3, .int v3)] rfl ⟨rfl, rfl⟩ rfl ?_
  intro p e s m args below meth c C hr hD
  have hD := hD.zself
  unfold f_X6_way at h
  refine z_iload_n C dX6_way_0 rfl 1 rfl 1 rfl ?_
  refine z_callR C ([]) (fun v h => c_X6_isTreeManner l D T    v1 v h) ⟨rfl, rfl⟩ (z_cwS C 1 gX6_way_X6_isTreeManner rfl dd_X6_isTreeManner ⟨(Nat.le_of_ble_eq_true rfl), (Nat.le_of_ble_eq_true rfl)⟩) (hD.zaddr rfl) [] rfl rfl (fun h => absurd h (by decide)) (fun _ => rfl) rfl (Nat.le_of_ble_eq_true rfl) dX6_way_1 4 rfl h (fun r_1 h => ?_)
  refine z_if_eq C 30 dX6_way_4 (by decide) 7 rfl h (fun h => ?_) (fun h => ?_)
  · refine z_iconst C (-1) dX6_way_30 (by decide) 31 rfl ?_
    exact z_iretW (x := (S4, S5, S6, S7, S8)) (ex := ex) (fun z => wX6 a0 a1 a2 a3 a4 a5 a6 a7 a8 a9 ++ (wX4 T a1 S1 ++ (wX1 T a2 S2 ++ (wX1 T a3 S3 ++ (wX0 T a4 z.1 ++ (wX5 T a5 z.2.1 ++ (wX5 T a6 z.2.2.1 ++ (wX5 T a7 z.2.2.2.1 ++ (wX5 T a8 z.2.2.2.2 ++ wX3 T a9 S9))))))))) C hr dX6_way_31 h rfl
  · refine z_aload_n C dX6_way_7 rfl 0 rfl 8 rfl ?_
    refine z_iload_n C dX6_way_8 rfl 2 rfl 9 rfl ?_
    refine z_callR C (wX6 a0 a1 a2 a3 a4 a5 a6 a7 a8 a9 ++ (wX4 T a1 S1 ++ (wX1 T a2 S2 ++ (wX1 T a3 S3 ++ (wX0 T a4 S4 ++ (wX5 T a5 S5 ++ (wX5 T a6 S6 ++ (wX5 T a7 S7 ++ (wX5 T a8 S8 ++ wX3 T a9 S9))))))))) (fun v h => c_X6_hasPlace l D T a0 a1 a2 a3 a4 a5 a6 a7 a8 a9  S1 S2 S3 S4 S5 S6 S7 S8 S9 v2 v h) ⟨rfl, rfl⟩ (z_cwV C 1 gX6_way_X6_hasPlace rfl rfl dd_X6_hasPlace ⟨(Nat.le_of_ble_eq_true rfl), (Nat.le_of_ble_eq_true rfl)⟩) (hD.zaddr rfl) [0, 1, 2, 3, 4, 5, 6, 7, 8, 9, 10, 11, 12, 13, 14, 15, 16, 17, 18, 19, 20, 21, 22, 23, 24, 25, 26, 27, 28, 29, 30, 31, 32, 33] rfl rfl (fun _ => ⟨a0 99, [.int v2], 5, 0, _, _, rfl, rfl, rfl, rfl, rfl⟩) (fun h => absurd rfl h) rfl (Nat.le_of_ble_eq_true rfl) dX6_way_9 12 rfl h (fun r_2 h => ?_)
    refine z_if_eq C 30 dX6_way_12 (by decide) 15 rfl h (fun h => ?_) (fun h => ?_)
    · refine z_iconst C (-1) dX6_way_30 (by decide) 31 rfl ?_
      exact z_iretW (x := (S4, S5, S6, S7, S8)) (ex := ex) (fun z => wX6 a0 a1 a2 a3 a4 a5 a6 a7 a8 a9 ++ (wX4 T a1 S1 ++ (wX1 T a2 S2 ++ (wX1 T a3 S3 ++ (wX0 T a4 z.1 ++ (wX5 T a5 z.2.1 ++ (wX5 T a6 z.2.2.1 ++ (wX5 T a7 z.2.2.2.1 ++ (wX5 T a8 z.2.2.2.2 ++ wX3 T a9 S9))))))))) C hr dX6_way_31 h rfl
    · refine z_iload_n C dX6_way_15 rfl 3 rfl 16 rfl ?_
      refine z_iconst C 0 dX6_way_16 (by decide) 17 rfl ?_
      refine z_aload_n C dX6_way_17 rfl 0 rfl 18 rfl ?_
      refine z_get C (in_X6_way_X6) 0 rfl rfl 1 (by decide) (List.mem_of_getElem? (i := 1) rfl) rfl rfl dX6_way_18 21 rfl ?_
      refine z_get C (in_X6_way_X1) 3 rfl rfl 0 (by decide) (List.mem_of_getElem? (i := 2) rfl) rfl rfl dX6_way_21 24 rfl ?_
      refine z_callR C ([]) (fun v h => c_X6_isWithin l D T    v3 0 (S2 0 0) v h) ⟨rfl, rfl⟩ (z_cwS C 3 gX6_way_X6_isWithin rfl dd_X6_isWithin ⟨(Nat.le_of_ble_eq_true rfl), (Nat.le_of_ble_eq_true rfl)⟩) (hD.zaddr rfl) [] rfl rfl (fun h => absurd h (by decide)) (fun _ => rfl) rfl (Nat.le_of_ble_eq_true rfl) dX6_way_24 27 rfl h (fun r_3 h => ?_)
      refine z_if_ne C 32 dX6_way_27 (by decide) 30 rfl h (fun h => ?_) (fun h => ?_)
      · refine z_aload_n C dX6_way_32 rfl 0 rfl 33 rfl ?_
        refine z_iload_n C dX6_way_33 rfl 1 rfl 34 rfl ?_
        refine z_callA C (wX6 a0 a1 a2 a3 a4 a5 a6 a7 a8 a9 ++ (wX4 T a1 S1 ++ (wX1 T a2 S2 ++ (wX1 T a3 S3 ++ (wX0 T a4 S4 ++ (wX5 T a5 S5 ++ (wX5 T a6 S6 ++ (wX5 T a7 S7 ++ (wX5 T a8 S8 ++ wX3 T a9 S9))))))))) (([] : va_W)) (fun z => if z.1 = 5 then a5 99 else if z.1 = 6 then a6 99 else if z.1 = 7 then a7 99 else a8 99) (fun z => wX6 a0 a1 a2 a3 a4 a5 a6 a7 a8 a9 ++ (wX4 T a1 S1 ++ (wX1 T a2 S2 ++ (wX1 T a3 S3 ++ (wX0 T a4 z.2.1 ++ (wX5 T a5 z.2.2.1 ++ (wX5 T a6 z.2.2.2.1 ++ (wX5 T a7 z.2.2.2.2.1 ++ (wX5 T a8 z.2.2.2.2.2 ++ wX3 T a9 S9))))))))) (fun z => wX6 a0 a1 a2 a3 a4 a5 a6 a7 a8 a9 ++ (wX4 T a1 S1 ++ (wX1 T a2 S2 ++ (wX1 T a3 S3 ++ (wX0 T a4 z.2.1 ++ (wX5 T a5 z.2.2.1 ++ (wX5 T a6 z.2.2.2.1 ++ (wX5 T a7 z.2.2.2.2.1 ++ (wX5 T a8 z.2.2.2.2.2 ++ wX3 T a9 S9))))))))) (fun z h => c_X6_treeOf l D T a0 a1 a2 a3 a4 a5 a6 a7 a8 a9  S1 S2 S3 S4 S5 S6 S7 S8 S9 v1 z h) ⟨rfl, rfl⟩ (z_cwV C 1 gX6_way_X6_treeOf rfl rfl dd_X6_treeOf ⟨(Nat.le_of_ble_eq_true rfl), (Nat.le_of_ble_eq_true rfl)⟩) (hD.zaddr rfl) [0, 1, 2, 3, 4, 5, 6, 7, 8, 9, 10, 11, 12, 13, 14, 15, 16, 17, 18, 19, 20, 21, 22, 23, 24, 25, 26, 27, 28, 29, 30, 31, 32, 33] [] [0, 1, 2, 3, 4, 5, 6, 7, 8, 9, 10, 11, 12, 13, 14, 15, 16, 17, 18, 19, 20, 21, 22, 23, 24, 25, 26, 27, 28, 29, 30, 31, 32, 33] rfl rfl rfl (by decide) (fun _ => rfl) (fun _ => ⟨a0 99, [.int v1], 5, 0, _, _, rfl, rfl, rfl, rfl, rfl⟩) (fun h => absurd rfl h) rfl (Nat.le_of_ble_eq_true rfl) dX6_way_34 37 rfl h (fun r_4 h => ?_)
        refine z_tag (t := r_4.1) 5 (fun t => if t = 5 then a5 99 else if t = 6 then a6 99 else if t = 7 then a7 99 else a8 99) rfl h (fun h => ?_) (fun hx_0 h => ?_)
        · refine z_astore C [(0, .ref (a0 99)), (1, .int v1), (2, .int v2), (3, .int v3), (4, .ref (a5 99))] dX6_way_37 (Nat.le_of_ble_eq_true rfl) [1, 2, 3, 4, 0] rfl 39 rfl ?_
          refine z_aload C dX6_way_39 4 rfl 41 rfl ?_
          refine z_get C (in_X6_way_X5) 20 rfl rfl 1 (by decide) (List.mem_of_getElem? (i := 3) rfl) rfl rfl dX6_way_41 44 rfl ?_
          refine z_if_ne C 50 dX6_way_44 (by decide) 47 rfl h (fun h => ?_) (fun h => ?_)
          · refine z_iload_n C dX6_way_50 rfl 3 rfl 51 rfl ?_
            refine z_aload_n C dX6_way_51 rfl 0 rfl 52 rfl ?_
            refine z_get C (in_X6_way_X6) 0 rfl rfl 1 (by decide) (List.mem_of_getElem? (i := 1) rfl) rfl rfl dX6_way_52 55 rfl ?_
            refine z_get C (in_X6_way_X1) 3 rfl rfl 6 (by decide) (List.mem_of_getElem? (i := 4) rfl) rfl rfl dX6_way_55 58 rfl ?_
            refine z_iload_n C dX6_way_58 rfl 2 rfl 59 rfl ?_
            refine z_iald C 4 rfl rfl dX6_way_59 60 rfl h (fun h => ?_)
            refine z_icmp_le C 67 dX6_way_60 (by decide) 63 rfl h (fun h => ?_) (fun h => ?_)
            · refine z_aload C dX6_way_67 4 rfl 69 rfl ?_
              refine z_aload_n C dX6_way_69 rfl 0 rfl 70 rfl ?_
              refine z_get C (in_X6_way_X6) 0 rfl rfl 1 (by decide) (List.mem_of_getElem? (i := 1) rfl) rfl rfl dX6_way_70 73 rfl ?_
              refine z_iload_n C dX6_way_73 rfl 2 rfl 74 rfl ?_
              refine z_iload_n C dX6_way_74 rfl 3 rfl 75 rfl ?_
              refine z_callR C (wX5 T a5 r_4.2.2.1 ++ wX1 T a2 S2) (fun v h => c_X5_turnOnWay l D T a5 a2  r_4.2.2.1 S2 v2 v3 v h) ⟨rfl, rfl⟩ (z_cwV C 3 gX6_way_X5_turnOnWay rfl rfl dd_X5_turnOnWay ⟨(Nat.le_of_ble_eq_true rfl), (Nat.le_of_ble_eq_true rfl)⟩) (hD.zaddr rfl) [20, 21, 22, 3, 4, 5, 6, 7] rfl rfl (fun _ => ⟨a5 99, [.ref (a2 99), .int v2, .int v3], 4, 0, _, _, rfl, rfl, rfl, rfl, rfl⟩) (fun h => absurd rfl h) rfl (Nat.le_of_ble_eq_true rfl) dX6_way_75 78 rfl h (fun r_5 h => ?_)
              exact z_iretW (x := (r_4.2.1, r_4.2.2.1, r_4.2.2.2.1, r_4.2.2.2.2.1, r_4.2.2.2.2.2)) (ex := ex) (fun z => wX6 a0 a1 a2 a3 a4 a5 a6 a7 a8 a9 ++ (wX4 T a1 S1 ++ (wX1 T a2 S2 ++ (wX1 T a3 S3 ++ (wX0 T a4 z.1 ++ (wX5 T a5 z.2.1 ++ (wX5 T a6 z.2.2.1 ++ (wX5 T a7 z.2.2.2.1 ++ (wX5 T a8 z.2.2.2.2 ++ wX3 T a9 S9))))))))) C hr dX6_way_78 h rfl
            · refine z_iconst C (-1) dX6_way_63 (by decide) 64 rfl ?_
              refine z_goto C 78 dX6_way_64 (by decide) ?_
              exact z_iretW (x := (r_4.2.1, r_4.2.2.1, r_4.2.2.2.1, r_4.2.2.2.2.1, r_4.2.2.2.2.2)) (ex := ex) (fun z => wX6 a0 a1 a2 a3 a4 a5 a6 a7 a8 a9 ++ (wX4 T a1 S1 ++ (wX1 T a2 S2 ++ (wX1 T a3 S3 ++ (wX0 T a4 z.1 ++ (wX5 T a5 z.2.1 ++ (wX5 T a6 z.2.2.1 ++ (wX5 T a7 z.2.2.2.1 ++ (wX5 T a8 z.2.2.2.2 ++ wX3 T a9 S9))))))))) C hr dX6_way_78 h rfl
          · refine z_bipush C (-2) dX6_way_47 (by decide) 49 rfl ?_
            exact z_iretW (x := (r_4.2.1, r_4.2.2.1, r_4.2.2.2.1, r_4.2.2.2.2.1, r_4.2.2.2.2.2)) (ex := ex) (fun z => wX6 a0 a1 a2 a3 a4 a5 a6 a7 a8 a9 ++ (wX4 T a1 S1 ++ (wX1 T a2 S2 ++ (wX1 T a3 S3 ++ (wX0 T a4 z.1 ++ (wX5 T a5 z.2.1 ++ (wX5 T a6 z.2.2.1 ++ (wX5 T a7 z.2.2.2.1 ++ (wX5 T a8 z.2.2.2.2 ++ wX3 T a9 S9))))))))) C hr dX6_way_49 h rfl
        · refine z_tag (t := r_4.1) 6 (fun t => if t = 5 then a5 99 else if t = 6 then a6 99 else if t = 7 then a7 99 else a8 99) rfl h (fun h => ?_) (fun hx_1 h => ?_)
          · refine z_astore C [(0, .ref (a0 99)), (1, .int v1), (2, .int v2), (3, .int v3), (4, .ref (a6 99))] dX6_way_37 (Nat.le_of_ble_eq_true rfl) [1, 2, 3, 4, 0] rfl 39 rfl ?_
            refine z_aload C dX6_way_39 4 rfl 41 rfl ?_
            refine z_get C (in_X6_way_X5) 23 rfl rfl 1 (by decide) (List.mem_of_getElem? (i := 3) rfl) rfl rfl dX6_way_41 44 rfl ?_
            refine z_if_ne C 50 dX6_way_44 (by decide) 47 rfl h (fun h => ?_) (fun h => ?_)
            · refine z_iload_n C dX6_way_50 rfl 3 rfl 51 rfl ?_
              refine z_aload_n C dX6_way_51 rfl 0 rfl 52 rfl ?_
              refine z_get C (in_X6_way_X6) 0 rfl rfl 1 (by decide) (List.mem_of_getElem? (i := 1) rfl) rfl rfl dX6_way_52 55 rfl ?_
              refine z_get C (in_X6_way_X1) 3 rfl rfl 6 (by decide) (List.mem_of_getElem? (i := 4) rfl) rfl rfl dX6_way_55 58 rfl ?_
              refine z_iload_n C dX6_way_58 rfl 2 rfl 59 rfl ?_
              refine z_iald C 4 rfl rfl dX6_way_59 60 rfl h (fun h => ?_)
              refine z_icmp_le C 67 dX6_way_60 (by decide) 63 rfl h (fun h => ?_) (fun h => ?_)
              · refine z_aload C dX6_way_67 4 rfl 69 rfl ?_
                refine z_aload_n C dX6_way_69 rfl 0 rfl 70 rfl ?_
                refine z_get C (in_X6_way_X6) 0 rfl rfl 1 (by decide) (List.mem_of_getElem? (i := 1) rfl) rfl rfl dX6_way_70 73 rfl ?_
                refine z_iload_n C dX6_way_73 rfl 2 rfl 74 rfl ?_
                refine z_iload_n C dX6_way_74 rfl 3 rfl 75 rfl ?_
                refine z_callR C (wX5 T a6 r_4.2.2.2.1 ++ wX1 T a2 S2) (fun v h => c_X5_turnOnWay l D T a6 a2  r_4.2.2.2.1 S2 v2 v3 v h) ⟨rfl, rfl⟩ (z_cwV C 3 gX6_way_X5_turnOnWay rfl rfl dd_X5_turnOnWay ⟨(Nat.le_of_ble_eq_true rfl), (Nat.le_of_ble_eq_true rfl)⟩) (hD.zaddr rfl) [23, 24, 25, 3, 4, 5, 6, 7] rfl rfl (fun _ => ⟨a6 99, [.ref (a2 99), .int v2, .int v3], 4, 0, _, _, rfl, rfl, rfl, rfl, rfl⟩) (fun h => absurd rfl h) rfl (Nat.le_of_ble_eq_true rfl) dX6_way_75 78 rfl h (fun r_6 h => ?_)
                exact z_iretW (x := (r_4.2.1, r_4.2.2.1, r_4.2.2.2.1, r_4.2.2.2.2.1, r_4.2.2.2.2.2)) (ex := ex) (fun z => wX6 a0 a1 a2 a3 a4 a5 a6 a7 a8 a9 ++ (wX4 T a1 S1 ++ (wX1 T a2 S2 ++ (wX1 T a3 S3 ++ (wX0 T a4 z.1 ++ (wX5 T a5 z.2.1 ++ (wX5 T a6 z.2.2.1 ++ (wX5 T a7 z.2.2.2.1 ++ (wX5 T a8 z.2.2.2.2 ++ wX3 T a9 S9))))))))) C hr dX6_way_78 h rfl
              · refine z_iconst C (-1) dX6_way_63 (by decide) 64 rfl ?_
                refine z_goto C 78 dX6_way_64 (by decide) ?_
                exact z_iretW (x := (r_4.2.1, r_4.2.2.1, r_4.2.2.2.1, r_4.2.2.2.2.1, r_4.2.2.2.2.2)) (ex := ex) (fun z => wX6 a0 a1 a2 a3 a4 a5 a6 a7 a8 a9 ++ (wX4 T a1 S1 ++ (wX1 T a2 S2 ++ (wX1 T a3 S3 ++ (wX0 T a4 z.1 ++ (wX5 T a5 z.2.1 ++ (wX5 T a6 z.2.2.1 ++ (wX5 T a7 z.2.2.2.1 ++ (wX5 T a8 z.2.2.2.2 ++ wX3 T a9 S9))))))))) C hr dX6_way_78 h rfl
            · refine z_bipush C (-2) dX6_way_47 (by decide) 49 rfl ?_
              exact z_iretW (x := (r_4.2.1, r_4.2.2.1, r_4.2.2.2.1, r_4.2.2.2.2.1, r_4.2.2.2.2.2)) (ex := ex) (fun z => wX6 a0 a1 a2 a3 a4 a5 a6 a7 a8 a9 ++ (wX4 T a1 S1 ++ (wX1 T a2 S2 ++ (wX1 T a3 S3 ++ (wX0 T a4 z.1 ++ (wX5 T a5 z.2.1 ++ (wX5 T a6 z.2.2.1 ++ (wX5 T a7 z.2.2.2.1 ++ (wX5 T a8 z.2.2.2.2 ++ wX3 T a9 S9))))))))) C hr dX6_way_49 h rfl
          · refine z_tag (t := r_4.1) 7 (fun t => if t = 5 then a5 99 else if t = 6 then a6 99 else if t = 7 then a7 99 else a8 99) rfl h (fun h => ?_) (fun hx_2 h => ?_)
            · refine z_astore C [(0, .ref (a0 99)), (1, .int v1), (2, .int v2), (3, .int v3), (4, .ref (a7 99))] dX6_way_37 (Nat.le_of_ble_eq_true rfl) [1, 2, 3, 4, 0] rfl 39 rfl ?_
              refine z_aload C dX6_way_39 4 rfl 41 rfl ?_
              refine z_get C (in_X6_way_X5) 26 rfl rfl 1 (by decide) (List.mem_of_getElem? (i := 3) rfl) rfl rfl dX6_way_41 44 rfl ?_
              refine z_if_ne C 50 dX6_way_44 (by decide) 47 rfl h (fun h => ?_) (fun h => ?_)
              · refine z_iload_n C dX6_way_50 rfl 3 rfl 51 rfl ?_
                refine z_aload_n C dX6_way_51 rfl 0 rfl 52 rfl ?_
                refine z_get C (in_X6_way_X6) 0 rfl rfl 1 (by decide) (List.mem_of_getElem? (i := 1) rfl) rfl rfl dX6_way_52 55 rfl ?_
                refine z_get C (in_X6_way_X1) 3 rfl rfl 6 (by decide) (List.mem_of_getElem? (i := 4) rfl) rfl rfl dX6_way_55 58 rfl ?_
                refine z_iload_n C dX6_way_58 rfl 2 rfl 59 rfl ?_
                refine z_iald C 4 rfl rfl dX6_way_59 60 rfl h (fun h => ?_)
                refine z_icmp_le C 67 dX6_way_60 (by decide) 63 rfl h (fun h => ?_) (fun h => ?_)
                · refine z_aload C dX6_way_67 4 rfl 69 rfl ?_
                  refine z_aload_n C dX6_way_69 rfl 0 rfl 70 rfl ?_
                  refine z_get C (in_X6_way_X6) 0 rfl rfl 1 (by decide) (List.mem_of_getElem? (i := 1) rfl) rfl rfl dX6_way_70 73 rfl ?_
                  refine z_iload_n C dX6_way_73 rfl 2 rfl 74 rfl ?_
                  refine z_iload_n C dX6_way_74 rfl 3 rfl 75 rfl ?_
                  refine z_callR C (wX5 T a7 r_4.2.2.2.2.1 ++ wX1 T a2 S2) (fun v h => c_X5_turnOnWay l D T a7 a2  r_4.2.2.2.2.1 S2 v2 v3 v h) ⟨rfl, rfl⟩ (z_cwV C 3 gX6_way_X5_turnOnWay rfl rfl dd_X5_turnOnWay ⟨(Nat.le_of_ble_eq_true rfl), (Nat.le_of_ble_eq_true rfl)⟩) (hD.zaddr rfl) [26, 27, 28, 3, 4, 5, 6, 7] rfl rfl (fun _ => ⟨a7 99, [.ref (a2 99), .int v2, .int v3], 4, 0, _, _, rfl, rfl, rfl, rfl, rfl⟩) (fun h => absurd rfl h) rfl (Nat.le_of_ble_eq_true rfl) dX6_way_75 78 rfl h (fun r_7 h => ?_)
                  exact z_iretW (x := (r_4.2.1, r_4.2.2.1, r_4.2.2.2.1, r_4.2.2.2.2.1, r_4.2.2.2.2.2)) (ex := ex) (fun z => wX6 a0 a1 a2 a3 a4 a5 a6 a7 a8 a9 ++ (wX4 T a1 S1 ++ (wX1 T a2 S2 ++ (wX1 T a3 S3 ++ (wX0 T a4 z.1 ++ (wX5 T a5 z.2.1 ++ (wX5 T a6 z.2.2.1 ++ (wX5 T a7 z.2.2.2.1 ++ (wX5 T a8 z.2.2.2.2 ++ wX3 T a9 S9))))))))) C hr dX6_way_78 h rfl
                · refine z_iconst C (-1) dX6_way_63 (by decide) 64 rfl ?_
                  refine z_goto C 78 dX6_way_64 (by decide) ?_
                  exact z_iretW (x := (r_4.2.1, r_4.2.2.1, r_4.2.2.2.1, r_4.2.2.2.2.1, r_4.2.2.2.2.2)) (ex := ex) (fun z => wX6 a0 a1 a2 a3 a4 a5 a6 a7 a8 a9 ++ (wX4 T a1 S1 ++ (wX1 T a2 S2 ++ (wX1 T a3 S3 ++ (wX0 T a4 z.1 ++ (wX5 T a5 z.2.1 ++ (wX5 T a6 z.2.2.1 ++ (wX5 T a7 z.2.2.2.1 ++ (wX5 T a8 z.2.2.2.2 ++ wX3 T a9 S9))))))))) C hr dX6_way_78 h rfl
              · refine z_bipush C (-2) dX6_way_47 (by decide) 49 rfl ?_
                exact z_iretW (x := (r_4.2.1, r_4.2.2.1, r_4.2.2.2.1, r_4.2.2.2.2.1, r_4.2.2.2.2.2)) (ex := ex) (fun z => wX6 a0 a1 a2 a3 a4 a5 a6 a7 a8 a9 ++ (wX4 T a1 S1 ++ (wX1 T a2 S2 ++ (wX1 T a3 S3 ++ (wX0 T a4 z.1 ++ (wX5 T a5 z.2.1 ++ (wX5 T a6 z.2.2.1 ++ (wX5 T a7 z.2.2.2.1 ++ (wX5 T a8 z.2.2.2.2 ++ wX3 T a9 S9))))))))) C hr dX6_way_49 h rfl
            · refine z_ref (b := a8 99) (by show (if _ = _ then _ else _) = _; rw [if_neg hx_0, if_neg hx_1, if_neg hx_2]) ?_
              refine z_astore C [(0, .ref (a0 99)), (1, .int v1), (2, .int v2), (3, .int v3), (4, .ref (a8 99))] dX6_way_37 (Nat.le_of_ble_eq_true rfl) [1, 2, 3, 4, 0] rfl 39 rfl ?_
              refine z_aload C dX6_way_39 4 rfl 41 rfl ?_
              refine z_get C (in_X6_way_X5) 29 rfl rfl 1 (by decide) (List.mem_of_getElem? (i := 3) rfl) rfl rfl dX6_way_41 44 rfl ?_
              refine z_if_ne C 50 dX6_way_44 (by decide) 47 rfl h (fun h => ?_) (fun h => ?_)
              · refine z_iload_n C dX6_way_50 rfl 3 rfl 51 rfl ?_
                refine z_aload_n C dX6_way_51 rfl 0 rfl 52 rfl ?_
                refine z_get C (in_X6_way_X6) 0 rfl rfl 1 (by decide) (List.mem_of_getElem? (i := 1) rfl) rfl rfl dX6_way_52 55 rfl ?_
                refine z_get C (in_X6_way_X1) 3 rfl rfl 6 (by decide) (List.mem_of_getElem? (i := 4) rfl) rfl rfl dX6_way_55 58 rfl ?_
                refine z_iload_n C dX6_way_58 rfl 2 rfl 59 rfl ?_
                refine z_iald C 4 rfl rfl dX6_way_59 60 rfl h (fun h => ?_)
                refine z_icmp_le C 67 dX6_way_60 (by decide) 63 rfl h (fun h => ?_) (fun h => ?_)
                · refine z_aload C dX6_way_67 4 rfl 69 rfl ?_
                  refine z_aload_n C dX6_way_69 rfl 0 rfl 70 rfl ?_
                  refine z_get C (in_X6_way_X6) 0 rfl rfl 1 (by decide) (List.mem_of_getElem? (i := 1) rfl) rfl rfl dX6_way_70 73 rfl ?_
                  refine z_iload_n C dX6_way_73 rfl 2 rfl 74 rfl ?_
                  refine z_iload_n C dX6_way_74 rfl 3 rfl 75 rfl ?_
                  refine z_callR C (wX5 T a8 r_4.2.2.2.2.2 ++ wX1 T a2 S2) (fun v h => c_X5_turnOnWay l D T a8 a2  r_4.2.2.2.2.2 S2 v2 v3 v h) ⟨rfl, rfl⟩ (z_cwV C 3 gX6_way_X5_turnOnWay rfl rfl dd_X5_turnOnWay ⟨(Nat.le_of_ble_eq_true rfl), (Nat.le_of_ble_eq_true rfl)⟩) (hD.zaddr rfl) [29, 30, 31, 3, 4, 5, 6, 7] rfl rfl (fun _ => ⟨a8 99, [.ref (a2 99), .int v2, .int v3], 4, 0, _, _, rfl, rfl, rfl, rfl, rfl⟩) (fun h => absurd rfl h) rfl (Nat.le_of_ble_eq_true rfl) dX6_way_75 78 rfl h (fun r_8 h => ?_)
                  exact z_iretW (x := (r_4.2.1, r_4.2.2.1, r_4.2.2.2.1, r_4.2.2.2.2.1, r_4.2.2.2.2.2)) (ex := ex) (fun z => wX6 a0 a1 a2 a3 a4 a5 a6 a7 a8 a9 ++ (wX4 T a1 S1 ++ (wX1 T a2 S2 ++ (wX1 T a3 S3 ++ (wX0 T a4 z.1 ++ (wX5 T a5 z.2.1 ++ (wX5 T a6 z.2.2.1 ++ (wX5 T a7 z.2.2.2.1 ++ (wX5 T a8 z.2.2.2.2 ++ wX3 T a9 S9))))))))) C hr dX6_way_78 h rfl
                · refine z_iconst C (-1) dX6_way_63 (by decide) 64 rfl ?_
                  refine z_goto C 78 dX6_way_64 (by decide) ?_
                  exact z_iretW (x := (r_4.2.1, r_4.2.2.1, r_4.2.2.2.1, r_4.2.2.2.2.1, r_4.2.2.2.2.2)) (ex := ex) (fun z => wX6 a0 a1 a2 a3 a4 a5 a6 a7 a8 a9 ++ (wX4 T a1 S1 ++ (wX1 T a2 S2 ++ (wX1 T a3 S3 ++ (wX0 T a4 z.1 ++ (wX5 T a5 z.2.1 ++ (wX5 T a6 z.2.2.1 ++ (wX5 T a7 z.2.2.2.1 ++ (wX5 T a8 z.2.2.2.2 ++ wX3 T a9 S9))))))))) C hr dX6_way_78 h rfl
              · refine z_bipush C (-2) dX6_way_47 (by decide) 49 rfl ?_
                exact z_iretW (x := (r_4.2.1, r_4.2.2.1, r_4.2.2.2.1, r_4.2.2.2.2.1, r_4.2.2.2.2.2)) (ex := ex) (fun z => wX6 a0 a1 a2 a3 a4 a5 a6 a7 a8 a9 ++ (wX4 T a1 S1 ++ (wX1 T a2 S2 ++ (wX1 T a3 S3 ++ (wX0 T a4 z.1 ++ (wX5 T a5 z.2.1 ++ (wX5 T a6 z.2.2.1 ++ (wX5 T a7 z.2.2.2.1 ++ (wX5 T a8 z.2.2.2.2 ++ wX3 T a9 S9))))))))) C hr dX6_way_49 h rfl
      · refine z_iconst C (-1) dX6_way_30 (by decide) 31 rfl ?_
        exact z_iretW (x := (S4, S5, S6, S7, S8)) (ex := ex) (fun z => wX6 a0 a1 a2 a3 a4 a5 a6 a7 a8 a9 ++ (wX4 T a1 S1 ++ (wX1 T a2 S2 ++ (wX1 T a3 S3 ++ (wX0 T a4 z.1 ++ (wX5 T a5 z.2.1 ++ (wX5 T a6 z.2.2.1 ++ (wX5 T a7 z.2.2.2.1 ++ (wX5 T a8 z.2.2.2.2 ++ wX3 T a9 S9))))))))) C hr dX6_way_31 h rfl

end
/-! StreamTree.borne (III)I -/
section
variable {p : Program} {l : Launch} {e : Env} {R : Room} {s : State} {m : MethodId} {args : Array Value} {below : List Frame} {meth : Method} {c : Code} {Q : State → Prop} {A : Nat → Prop} {D : va_G} {T : Nat → ClassId} {a0 : Nat → Nat} {a1 : Nat → Nat} {a2 : Nat → Nat} {a3 : Nat → Nat} {a4 : Nat → Nat} {a5 : Nat → Nat} {a6 : Nat → Nat} {a7 : Nat → Nat} {a8 : Nat → Nat} {a9 : Nat → Nat}
theorem in_X6_borne_X5 : ∀ w ∈ u_ws RX5 TX5 5, w ∈ wsX6_borne := fun _ h => (List.mem_cons_of_mem _ (List.mem_append_left _ (List.mem_append_left _ (List.mem_append_right _ h))))
theorem in_X6_borne_X6 : ∀ w ∈ u_ws RX6 TX6 9, w ∈ wsX6_borne := fun _ h => (List.mem_cons_of_mem _ (List.mem_append_left _ (List.mem_append_left _ (List.mem_append_left _ (List.mem_append_right _ h)))))
def f_X6_borne (S1 : Nat → Nat → Int32) (S2 : Nat → Nat → Int32) (S3 : Nat → Nat → Int32) (S4 : Nat → Nat → Int32) (S5 : Nat → Nat → Int32) (S6 : Nat → Nat → Int32) (S7 : Nat → Nat → Int32) (S8 : Nat → Nat → Int32) (S9 : Nat → Nat → Int32) (v1 : Int32) (v2 : Int32) (v3 : Int32) : Option (Int32 × (Nat → Nat → Int32) × (Nat → Nat → Int32) × (Nat → Nat → Int32) × (Nat → Nat → Int32) × (Nat → Nat → Int32)) := (f_X6_isTreeManner v1).bind fun r_1 => if r_1 = 0 then (some ((-1), S4, S5, S6, S7, S8)) else ((f_X1_hasCell S2 v2 v3).bind fun r_2 => if r_2 = 0 then (some ((-1), S4, S5, S6, S7, S8)) else ((f_X6_treeOf S1 S2 S3 S4 S5 S6 S7 S8 S9 v1).bind fun r_3 => if r_3.1 = 5 then (if (r_3.2.2.1 1 0) = 0 then (some ((-2), r_3.2.1, r_3.2.2.1, r_3.2.2.2.1, r_3.2.2.2.2.1, r_3.2.2.2.2.2)) else ((f_X6_cellOf v2 v3).bind fun r_4 => zix r_4 240 fun _ => some ((r_3.2.2.1 3 (Int32.toNatClampNeg r_4)), r_3.2.1, r_3.2.2.1, r_3.2.2.2.1, r_3.2.2.2.2.1, r_3.2.2.2.2.2))) else (if r_3.1 = 6 then (if (r_3.2.2.2.1 1 0) = 0 then (some ((-2), r_3.2.1, r_3.2.2.1, r_3.2.2.2.1, r_3.2.2.2.2.1, r_3.2.2.2.2.2)) else ((f_X6_cellOf v2 v3).bind fun r_5 => zix r_5 240 fun _ => some ((r_3.2.2.2.1 3 (Int32.toNatClampNeg r_5)), r_3.2.1, r_3.2.2.1, r_3.2.2.2.1, r_3.2.2.2.2.1, r_3.2.2.2.2.2))) else (if r_3.1 = 7 then (if (r_3.2.2.2.2.1 1 0) = 0 then (some ((-2), r_3.2.1, r_3.2.2.1, r_3.2.2.2.1, r_3.2.2.2.2.1, r_3.2.2.2.2.2)) else ((f_X6_cellOf v2 v3).bind fun r_6 => zix r_6 240 fun _ => some ((r_3.2.2.2.2.1 3 (Int32.toNatClampNeg r_6)), r_3.2.1, r_3.2.2.1, r_3.2.2.2.1, r_3.2.2.2.2.1, r_3.2.2.2.2.2))) else (if (r_3.2.2.2.2.2 1 0) = 0 then (some ((-2), r_3.2.1, r_3.2.2.1, r_3.2.2.2.1, r_3.2.2.2.2.1, r_3.2.2.2.2.2)) else ((f_X6_cellOf v2 v3).bind fun r_7 => zix r_7 240 fun _ => some ((r_3.2.2.2.2.2 3 (Int32.toNatClampNeg r_7)), r_3.2.1, r_3.2.2.1, r_3.2.2.2.1, r_3.2.2.2.2.1, r_3.2.2.2.2.2)))))))
theorem dd_X6_borne : RX6 ≠ "java/lang/invoke/MethodHandle" ∧ RX6 ≠ "java/lang/invoke/VarHandle" ∧ (parseMethodDescriptor yX6_borne.desc).map (fun d => d.parameters.length) = some 3 := by decide +kernel
set_option maxHeartbeats 4000000 in
set_option maxRecDepth 100000 in
theorem c_X6_borne (l : Launch) (D : va_G) (T : Nat → ClassId) (a0 : Nat → Nat) (a1 : Nat → Nat) (a2 : Nat → Nat) (a3 : Nat → Nat) (a4 : Nat → Nat) (a5 : Nat → Nat) (a6 : Nat → Nat) (a7 : Nat → Nat) (a8 : Nat → Nat) (a9 : Nat → Nat) (S1 : Nat → Nat → Int32) (S2 : Nat → Nat → Int32) (S3 : Nat → Nat → Int32) (S4 : Nat → Nat → Int32) (S5 : Nat → Nat → Int32) (S6 : Nat → Nat → Int32) (S7 : Nat → Nat → Int32) (S8 : Nat → Nat → Int32) (S9 : Nat → Nat → Int32) (v1 : Int32) (v2 : Int32) (v3 : Int32) (ex : Int32 × (Nat → Nat → Int32) × (Nat → Nat → Int32) × (Nat → Nat → Int32) × (Nat → Nat → Int32) × (Nat → Nat → Int32)) (h : f_X6_borne S1 S2 S3 S4 S5 S6 S7 S8 S9 v1 v2 v3 = some ex) : zWI l yX6_borne wsX6_borne ({ frames := 6, cells := 0, slots := 0, locals := 150 } : Room) D T [.ref (a0 99), .int v1, .int v2, .int v3] (wX6 a0 a1 a2 a3 a4 a5 a6 a7 a8 a9 ++ (wX4 T a1 S1 ++ (wX1 T a2 S2 ++ (wX1 T a3 S3 ++ (wX0 T a4 S4 ++ (wX5 T a5 S5 ++ (wX5 T a6 S6 ++ (wX5 T a7 S7 ++ (wX5 T a8 S8 ++ wX3 T a9 S9))))))))) ex.1 (wX6 a0 a1 a2 a3 a4 a5 a6 a7 a8 a9 ++ (wX4 T a1 S1 ++ (wX1 T a2 S2 ++ (wX1 T a3 S3 ++ (wX0 T a4 ex.2.1 ++ (wX5 T a5 ex.2.2.1 ++ (wX5 T a6 ex.2.2.2.1 ++ (wX5 T a7 ex.2.2.2.2.1 ++ (wX5 T a8 ex.2.2.2.2.2 ++ wX3 T a9 S9))))))))) := by
  refine z_begin (cc := cX6_borne) (nL := 5) (own := RX6) (fr := 6) (lc := 150) (ret := some .int) (by decide) rfl (Nat.le_of_ble_eq_true rfl) (zA (wX6 a0 a1 a2 a3 a4 a5 a6 a7 a8 a9 ++ (wX4 T a1 S1 ++ (wX1 T a2 S2 ++ (wX1 T a3 S3 ++ (wX0 T a4 S4 ++ (wX5 T a5 S5 ++ (wX5 T a6 S6 ++ (wX5 T a7 S7 ++ (wX5 T a8 S8 ++ wX3 T a9 S9)))))))))) rfl [(0, .ref (a0 99)), (1, .int v1), (2, .int v2), (3, .int v3)] rfl ⟨rfl, rfl⟩ rfl ?_
  intro p e s m args below meth c C hr hD
  have hD := hD.zself
  unfold f_X6_borne at h
  refine z_iload_n C dX6_borne_0 rfl 1 rfl 1 rfl ?_
  refine z_callR C ([]) (fun v h => c_X6_isTreeManner l D T    v1 v h) ⟨rfl, rfl⟩ (z_cwS C 1 gX6_borne_X6_isTreeManner rfl dd_X6_isTreeManner ⟨(Nat.le_of_ble_eq_true rfl), (Nat.le_of_ble_eq_true rfl)⟩) (hD.zaddr rfl) [] rfl rfl (fun h => absurd h (by decide)) (fun _ => rfl) rfl (Nat.le_of_ble_eq_true rfl) dX6_borne_1 4 rfl h (fun r_1 h => ?_)
  refine z_if_eq C 19 dX6_borne_4 (by decide) 7 rfl h (fun h => ?_) (fun h => ?_)
  · refine z_iconst C (-1) dX6_borne_19 (by decide) 20 rfl ?_
    exact z_iretW (x := (S4, S5, S6, S7, S8)) (ex := ex) (fun z => wX6 a0 a1 a2 a3 a4 a5 a6 a7 a8 a9 ++ (wX4 T a1 S1 ++ (wX1 T a2 S2 ++ (wX1 T a3 S3 ++ (wX0 T a4 z.1 ++ (wX5 T a5 z.2.1 ++ (wX5 T a6 z.2.2.1 ++ (wX5 T a7 z.2.2.2.1 ++ (wX5 T a8 z.2.2.2.2 ++ wX3 T a9 S9))))))))) C hr dX6_borne_20 h rfl
  · refine z_aload_n C dX6_borne_7 rfl 0 rfl 8 rfl ?_
    refine z_get C (in_X6_borne_X6) 0 rfl rfl 1 (by decide) (List.mem_of_getElem? (i := 1) rfl) rfl rfl dX6_borne_8 11 rfl ?_
    refine z_iload_n C dX6_borne_11 rfl 2 rfl 12 rfl ?_
    refine z_iload_n C dX6_borne_12 rfl 3 rfl 13 rfl ?_
    refine z_callR C (wX1 T a2 S2) (fun v h => c_X1_hasCell l D T a2  S2 v2 v3 v h) ⟨rfl, rfl⟩ (z_cwV C 2 gX6_borne_X1_hasCell rfl rfl dd_X1_hasCell ⟨(Nat.le_of_ble_eq_true rfl), (Nat.le_of_ble_eq_true rfl)⟩) (hD.zaddr rfl) [3, 4, 5, 6, 7] rfl rfl (fun _ => ⟨a2 99, [.int v2, .int v3], 1, 0, _, _, rfl, rfl, rfl, rfl, rfl⟩) (fun h => absurd rfl h) rfl (Nat.le_of_ble_eq_true rfl) dX6_borne_13 16 rfl h (fun r_2 h => ?_)
    refine z_if_ne C 21 dX6_borne_16 (by decide) 19 rfl h (fun h => ?_) (fun h => ?_)
    · refine z_aload_n C dX6_borne_21 rfl 0 rfl 22 rfl ?_
      refine z_iload_n C dX6_borne_22 rfl 1 rfl 23 rfl ?_
      refine z_callA C (wX6 a0 a1 a2 a3 a4 a5 a6 a7 a8 a9 ++ (wX4 T a1 S1 ++ (wX1 T a2 S2 ++ (wX1 T a3 S3 ++ (wX0 T a4 S4 ++ (wX5 T a5 S5 ++ (wX5 T a6 S6 ++ (wX5 T a7 S7 ++ (wX5 T a8 S8 ++ wX3 T a9 S9))))))))) (([] : va_W)) (fun z => if z.1 = 5 then a5 99 else if z.1 = 6 then a6 99 else if z.1 = 7 then a7 99 else a8 99) (fun z => wX6 a0 a1 a2 a3 a4 a5 a6 a7 a8 a9 ++ (wX4 T a1 S1 ++ (wX1 T a2 S2 ++ (wX1 T a3 S3 ++ (wX0 T a4 z.2.1 ++ (wX5 T a5 z.2.2.1 ++ (wX5 T a6 z.2.2.2.1 ++ (wX5 T a7 z.2.2.2.2.1 ++ (wX5 T a8 z.2.2.2.2.2 ++ wX3 T a9 S9))))))))) (fun z => wX6 a0 a1 a2 a3 a4 a5 a6 a7 a8 a9 ++ (wX4 T a1 S1 ++ (wX1 T a2 S2 ++ (wX1 T a3 S3 ++ (wX0 T a4 z.2.1 ++ (wX5 T a5 z.2.2.1 ++ (wX5 T a6 z.2.2.2.1 ++ (wX5 T a7 z.2.2.2.2.1 ++ (wX5 T a8 z.2.2.2.2.2 ++ wX3 T a9 S9))))))))) (fun z h => c_X6_treeOf l D T a0 a1 a2 a3 a4 a5 a6 a7 a8 a9  S1 S2 S3 S4 S5 S6 S7 S8 S9 v1 z h) ⟨rfl, rfl⟩ (z_cwV C 1 gX6_borne_X6_treeOf rfl rfl dd_X6_treeOf ⟨(Nat.le_of_ble_eq_true rfl), (Nat.le_of_ble_eq_true rfl)⟩) (hD.zaddr rfl) [0, 1, 2, 3, 4, 5, 6, 7, 8, 9, 10, 11, 12, 13, 14, 15, 16, 17, 18, 19, 20, 21, 22, 23, 24, 25, 26, 27, 28, 29, 30, 31, 32, 33] [] [0, 1, 2, 3, 4, 5, 6, 7, 8, 9, 10, 11, 12, 13, 14, 15, 16, 17, 18, 19, 20, 21, 22, 23, 24, 25, 26, 27, 28, 29, 30, 31, 32, 33] rfl rfl rfl (by decide) (fun _ => rfl) (fun _ => ⟨a0 99, [.int v1], 5, 0, _, _, rfl, rfl, rfl, rfl, rfl⟩) (fun h => absurd rfl h) rfl (Nat.le_of_ble_eq_true rfl) dX6_borne_23 26 rfl h (fun r_3 h => ?_)
      refine z_tag (t := r_3.1) 5 (fun t => if t = 5 then a5 99 else if t = 6 then a6 99 else if t = 7 then a7 99 else a8 99) rfl h (fun h => ?_) (fun hx_0 h => ?_)
      · refine z_astore C [(0, .ref (a0 99)), (1, .int v1), (2, .int v2), (3, .int v3), (4, .ref (a5 99))] dX6_borne_26 (Nat.le_of_ble_eq_true rfl) [1, 2, 3, 4, 0] rfl 28 rfl ?_
        refine z_aload C dX6_borne_28 4 rfl 30 rfl ?_
        refine z_get C (in_X6_borne_X5) 20 rfl rfl 1 (by decide) (List.mem_of_getElem? (i := 2) rfl) rfl rfl dX6_borne_30 33 rfl ?_
        refine z_if_eq C 50 dX6_borne_33 (by decide) 36 rfl h (fun h => ?_) (fun h => ?_)
        · refine z_bipush C (-2) dX6_borne_50 (by decide) 52 rfl ?_
          exact z_iretW (x := (r_3.2.1, r_3.2.2.1, r_3.2.2.2.1, r_3.2.2.2.2.1, r_3.2.2.2.2.2)) (ex := ex) (fun z => wX6 a0 a1 a2 a3 a4 a5 a6 a7 a8 a9 ++ (wX4 T a1 S1 ++ (wX1 T a2 S2 ++ (wX1 T a3 S3 ++ (wX0 T a4 z.1 ++ (wX5 T a5 z.2.1 ++ (wX5 T a6 z.2.2.1 ++ (wX5 T a7 z.2.2.2.1 ++ (wX5 T a8 z.2.2.2.2 ++ wX3 T a9 S9))))))))) C hr dX6_borne_52 h rfl
        · refine z_aload C dX6_borne_36 4 rfl 38 rfl ?_
          refine z_get C (in_X6_borne_X5) 20 rfl rfl 3 (by decide) (List.mem_of_getElem? (i := 3) rfl) rfl rfl dX6_borne_38 41 rfl ?_
          refine z_iload_n C dX6_borne_41 rfl 2 rfl 42 rfl ?_
          refine z_iload_n C dX6_borne_42 rfl 3 rfl 43 rfl ?_
          refine z_callR C ([]) (fun v h => c_X6_cellOf l D T    v2 v3 v h) ⟨rfl, rfl⟩ (z_cwS C 2 gX6_borne_X6_cellOf rfl dd_X6_cellOf ⟨(Nat.le_of_ble_eq_true rfl), (Nat.le_of_ble_eq_true rfl)⟩) (hD.zaddr rfl) [] rfl rfl (fun h => absurd h (by decide)) (fun _ => rfl) rfl (Nat.le_of_ble_eq_true rfl) dX6_borne_43 46 rfl h (fun r_4 h => ?_)
          refine z_iald C 21 rfl rfl dX6_borne_46 47 rfl h (fun h => ?_)
          refine z_goto C 52 dX6_borne_47 (by decide) ?_
          exact z_iretW (x := (r_3.2.1, r_3.2.2.1, r_3.2.2.2.1, r_3.2.2.2.2.1, r_3.2.2.2.2.2)) (ex := ex) (fun z => wX6 a0 a1 a2 a3 a4 a5 a6 a7 a8 a9 ++ (wX4 T a1 S1 ++ (wX1 T a2 S2 ++ (wX1 T a3 S3 ++ (wX0 T a4 z.1 ++ (wX5 T a5 z.2.1 ++ (wX5 T a6 z.2.2.1 ++ (wX5 T a7 z.2.2.2.1 ++ (wX5 T a8 z.2.2.2.2 ++ wX3 T a9 S9))))))))) C hr dX6_borne_52 h rfl
      · refine z_tag (t := r_3.1) 6 (fun t => if t = 5 then a5 99 else if t = 6 then a6 99 else if t = 7 then a7 99 else a8 99) rfl h (fun h => ?_) (fun hx_1 h => ?_)
        · refine z_astore C [(0, .ref (a0 99)), (1, .int v1), (2, .int v2), (3, .int v3), (4, .ref (a6 99))] dX6_borne_26 (Nat.le_of_ble_eq_true rfl) [1, 2, 3, 4, 0] rfl 28 rfl ?_
          refine z_aload C dX6_borne_28 4 rfl 30 rfl ?_
          refine z_get C (in_X6_borne_X5) 23 rfl rfl 1 (by decide) (List.mem_of_getElem? (i := 2) rfl) rfl rfl dX6_borne_30 33 rfl ?_
          refine z_if_eq C 50 dX6_borne_33 (by decide) 36 rfl h (fun h => ?_) (fun h => ?_)
          · refine z_bipush C (-2) dX6_borne_50 (by decide) 52 rfl ?_
            exact z_iretW (x := (r_3.2.1, r_3.2.2.1, r_3.2.2.2.1, r_3.2.2.2.2.1, r_3.2.2.2.2.2)) (ex := ex) (fun z => wX6 a0 a1 a2 a3 a4 a5 a6 a7 a8 a9 ++ (wX4 T a1 S1 ++ (wX1 T a2 S2 ++ (wX1 T a3 S3 ++ (wX0 T a4 z.1 ++ (wX5 T a5 z.2.1 ++ (wX5 T a6 z.2.2.1 ++ (wX5 T a7 z.2.2.2.1 ++ (wX5 T a8 z.2.2.2.2 ++ wX3 T a9 S9))))))))) C hr dX6_borne_52 h rfl
          · refine z_aload C dX6_borne_36 4 rfl 38 rfl ?_
            refine z_get C (in_X6_borne_X5) 23 rfl rfl 3 (by decide) (List.mem_of_getElem? (i := 3) rfl) rfl rfl dX6_borne_38 41 rfl ?_
            refine z_iload_n C dX6_borne_41 rfl 2 rfl 42 rfl ?_
            refine z_iload_n C dX6_borne_42 rfl 3 rfl 43 rfl ?_
            refine z_callR C ([]) (fun v h => c_X6_cellOf l D T    v2 v3 v h) ⟨rfl, rfl⟩ (z_cwS C 2 gX6_borne_X6_cellOf rfl dd_X6_cellOf ⟨(Nat.le_of_ble_eq_true rfl), (Nat.le_of_ble_eq_true rfl)⟩) (hD.zaddr rfl) [] rfl rfl (fun h => absurd h (by decide)) (fun _ => rfl) rfl (Nat.le_of_ble_eq_true rfl) dX6_borne_43 46 rfl h (fun r_5 h => ?_)
            refine z_iald C 24 rfl rfl dX6_borne_46 47 rfl h (fun h => ?_)
            refine z_goto C 52 dX6_borne_47 (by decide) ?_
            exact z_iretW (x := (r_3.2.1, r_3.2.2.1, r_3.2.2.2.1, r_3.2.2.2.2.1, r_3.2.2.2.2.2)) (ex := ex) (fun z => wX6 a0 a1 a2 a3 a4 a5 a6 a7 a8 a9 ++ (wX4 T a1 S1 ++ (wX1 T a2 S2 ++ (wX1 T a3 S3 ++ (wX0 T a4 z.1 ++ (wX5 T a5 z.2.1 ++ (wX5 T a6 z.2.2.1 ++ (wX5 T a7 z.2.2.2.1 ++ (wX5 T a8 z.2.2.2.2 ++ wX3 T a9 S9))))))))) C hr dX6_borne_52 h rfl
        · refine z_tag (t := r_3.1) 7 (fun t => if t = 5 then a5 99 else if t = 6 then a6 99 else if t = 7 then a7 99 else a8 99) rfl h (fun h => ?_) (fun hx_2 h => ?_)
          · refine z_astore C [(0, .ref (a0 99)), (1, .int v1), (2, .int v2), (3, .int v3), (4, .ref (a7 99))] dX6_borne_26 (Nat.le_of_ble_eq_true rfl) [1, 2, 3, 4, 0] rfl 28 rfl ?_
            refine z_aload C dX6_borne_28 4 rfl 30 rfl ?_
            refine z_get C (in_X6_borne_X5) 26 rfl rfl 1 (by decide) (List.mem_of_getElem? (i := 2) rfl) rfl rfl dX6_borne_30 33 rfl ?_
            refine z_if_eq C 50 dX6_borne_33 (by decide) 36 rfl h (fun h => ?_) (fun h => ?_)
            · refine z_bipush C (-2) dX6_borne_50 (by decide) 52 rfl ?_
              exact z_iretW (x := (r_3.2.1, r_3.2.2.1, r_3.2.2.2.1, r_3.2.2.2.2.1, r_3.2.2.2.2.2)) (ex := ex) (fun z => wX6 a0 a1 a2 a3 a4 a5 a6 a7 a8 a9 ++ (wX4 T a1 S1 ++ (wX1 T a2 S2 ++ (wX1 T a3 S3 ++ (wX0 T a4 z.1 ++ (wX5 T a5 z.2.1 ++ (wX5 T a6 z.2.2.1 ++ (wX5 T a7 z.2.2.2.1 ++ (wX5 T a8 z.2.2.2.2 ++ wX3 T a9 S9))))))))) C hr dX6_borne_52 h rfl
            · refine z_aload C dX6_borne_36 4 rfl 38 rfl ?_
              refine z_get C (in_X6_borne_X5) 26 rfl rfl 3 (by decide) (List.mem_of_getElem? (i := 3) rfl) rfl rfl dX6_borne_38 41 rfl ?_
              refine z_iload_n C dX6_borne_41 rfl 2 rfl 42 rfl ?_
              refine z_iload_n C dX6_borne_42 rfl 3 rfl 43 rfl ?_
              refine z_callR C ([]) (fun v h => c_X6_cellOf l D T    v2 v3 v h) ⟨rfl, rfl⟩ (z_cwS C 2 gX6_borne_X6_cellOf rfl dd_X6_cellOf ⟨(Nat.le_of_ble_eq_true rfl), (Nat.le_of_ble_eq_true rfl)⟩) (hD.zaddr rfl) [] rfl rfl (fun h => absurd h (by decide)) (fun _ => rfl) rfl (Nat.le_of_ble_eq_true rfl) dX6_borne_43 46 rfl h (fun r_6 h => ?_)
              refine z_iald C 27 rfl rfl dX6_borne_46 47 rfl h (fun h => ?_)
              refine z_goto C 52 dX6_borne_47 (by decide) ?_
              exact z_iretW (x := (r_3.2.1, r_3.2.2.1, r_3.2.2.2.1, r_3.2.2.2.2.1, r_3.2.2.2.2.2)) (ex := ex) (fun z => wX6 a0 a1 a2 a3 a4 a5 a6 a7 a8 a9 ++ (wX4 T a1 S1 ++ (wX1 T a2 S2 ++ (wX1 T a3 S3 ++ (wX0 T a4 z.1 ++ (wX5 T a5 z.2.1 ++ (wX5 T a6 z.2.2.1 ++ (wX5 T a7 z.2.2.2.1 ++ (wX5 T a8 z.2.2.2.2 ++ wX3 T a9 S9))))))))) C hr dX6_borne_52 h rfl
          · refine z_ref (b := a8 99) (by show (if _ = _ then _ else _) = _; rw [if_neg hx_0, if_neg hx_1, if_neg hx_2]) ?_
            refine z_astore C [(0, .ref (a0 99)), (1, .int v1), (2, .int v2), (3, .int v3), (4, .ref (a8 99))] dX6_borne_26 (Nat.le_of_ble_eq_true rfl) [1, 2, 3, 4, 0] rfl 28 rfl ?_
            refine z_aload C dX6_borne_28 4 rfl 30 rfl ?_
            refine z_get C (in_X6_borne_X5) 29 rfl rfl 1 (by decide) (List.mem_of_getElem? (i := 2) rfl) rfl rfl dX6_borne_30 33 rfl ?_
            refine z_if_eq C 50 dX6_borne_33 (by decide) 36 rfl h (fun h => ?_) (fun h => ?_)
            · refine z_bipush C (-2) dX6_borne_50 (by decide) 52 rfl ?_
              exact z_iretW (x := (r_3.2.1, r_3.2.2.1, r_3.2.2.2.1, r_3.2.2.2.2.1, r_3.2.2.2.2.2)) (ex := ex) (fun z => wX6 a0 a1 a2 a3 a4 a5 a6 a7 a8 a9 ++ (wX4 T a1 S1 ++ (wX1 T a2 S2 ++ (wX1 T a3 S3 ++ (wX0 T a4 z.1 ++ (wX5 T a5 z.2.1 ++ (wX5 T a6 z.2.2.1 ++ (wX5 T a7 z.2.2.2.1 ++ (wX5 T a8 z.2.2.2.2 ++ wX3 T a9 S9))))))))) C hr dX6_borne_52 h rfl
            · refine z_aload C dX6_borne_36 4 rfl 38 rfl ?_
              refine z_get C (in_X6_borne_X5) 29 rfl rfl 3 (by decide) (List.mem_of_getElem? (i := 3) rfl) rfl rfl dX6_borne_38 41 rfl ?_
              refine z_iload_n C dX6_borne_41 rfl 2 rfl 42 rfl ?_
              refine z_iload_n C dX6_borne_42 rfl 3 rfl 43 rfl ?_
              refine z_callR C ([]) (fun v h => c_X6_cellOf l D T    v2 v3 v h) ⟨rfl, rfl⟩ (z_cwS C 2 gX6_borne_X6_cellOf rfl dd_X6_cellOf ⟨(Nat.le_of_ble_eq_true rfl), (Nat.le_of_ble_eq_true rfl)⟩) (hD.zaddr rfl) [] rfl rfl (fun h => absurd h (by decide)) (fun _ => rfl) rfl (Nat.le_of_ble_eq_true rfl) dX6_borne_43 46 rfl h (fun r_7 h => ?_)
              refine z_iald C 30 rfl rfl dX6_borne_46 47 rfl h (fun h => ?_)
              refine z_goto C 52 dX6_borne_47 (by decide) ?_
              exact z_iretW (x := (r_3.2.1, r_3.2.2.1, r_3.2.2.2.1, r_3.2.2.2.2.1, r_3.2.2.2.2.2)) (ex := ex) (fun z => wX6 a0 a1 a2 a3 a4 a5 a6 a7 a8 a9 ++ (wX4 T a1 S1 ++ (wX1 T a2 S2 ++ (wX1 T a3 S3 ++ (wX0 T a4 z.1 ++ (wX5 T a5 z.2.1 ++ (wX5 T a6 z.2.2.1 ++ (wX5 T a7 z.2.2.2.1 ++ (wX5 T a8 z.2.2.2.2 ++ wX3 T a9 S9))))))))) C hr dX6_borne_52 h rfl
    · refine z_iconst C (-1) dX6_borne_19 (by decide) 20 rfl ?_
      exact z_iretW (x := (S4, S5, S6, S7, S8)) (ex := ex) (fun z => wX6 a0 a1 a2 a3 a4 a5 a6 a7 a8 a9 ++ (wX4 T a1 S1 ++ (wX1 T a2 S2 ++ (wX1 T a3 S3 ++ (wX0 T a4 z.1 ++ (wX5 T a5 z.2.1 ++ (wX5 T a6 z.2.2.1 ++ (wX5 T a7 z.2.2.2.1 ++ (wX5 T a8 z.2.2.2.2 ++ wX3 T a9 S9))))))))) C hr dX6_borne_20 h rfl

end
/-! StreamTree.alone (I)I -/
section
variable {p : Program} {l : Launch} {e : Env} {R : Room} {s : State} {m : MethodId} {args : Array Value} {below : List Frame} {meth : Method} {c : Code} {Q : State → Prop} {A : Nat → Prop} {D : va_G} {T : Nat → ClassId} {a0 : Nat → Nat} {a1 : Nat → Nat} {a2 : Nat → Nat} {a3 : Nat → Nat} {a4 : Nat → Nat} {a5 : Nat → Nat} {a6 : Nat → Nat} {a7 : Nat → Nat} {a8 : Nat → Nat} {a9 : Nat → Nat}
def f_X6_alone (S1 : Nat → Nat → Int32) (S2 : Nat → Nat → Int32) (S3 : Nat → Nat → Int32) (S4 : Nat → Nat → Int32) (S5 : Nat → Nat → Int32) (S6 : Nat → Nat → Int32) (S7 : Nat → Nat → Int32) (S8 : Nat → Nat → Int32) (S9 : Nat → Nat → Int32) (v1 : Int32) : Option (Int32 × (Nat → Nat → Int32)) := (f_X6_hasPlace S1 S2 S3 S4 S5 S6 S7 S8 S9 v1).bind fun r_1 => if r_1 = 0 then (some ((-1), S4)) else ((f_X6_knownBests S1 S2 S3 S4 S5 S6 S7 S8 S9).bind fun r_2 => (f_X0_inkOf r_2 0 (1 <<< (v1 &&& 31))).bind fun r_3 => some (r_3, r_2))
theorem dd_X6_alone : RX6 ≠ "java/lang/invoke/MethodHandle" ∧ RX6 ≠ "java/lang/invoke/VarHandle" ∧ (parseMethodDescriptor yX6_alone.desc).map (fun d => d.parameters.length) = some 1 := by decide +kernel
set_option maxHeartbeats 4000000 in
set_option maxRecDepth 100000 in
theorem c_X6_alone (l : Launch) (D : va_G) (T : Nat → ClassId) (a0 : Nat → Nat) (a1 : Nat → Nat) (a2 : Nat → Nat) (a3 : Nat → Nat) (a4 : Nat → Nat) (a5 : Nat → Nat) (a6 : Nat → Nat) (a7 : Nat → Nat) (a8 : Nat → Nat) (a9 : Nat → Nat) (S1 : Nat → Nat → Int32) (S2 : Nat → Nat → Int32) (S3 : Nat → Nat → Int32) (S4 : Nat → Nat → Int32) (S5 : Nat → Nat → Int32) (S6 : Nat → Nat → Int32) (S7 : Nat → Nat → Int32) (S8 : Nat → Nat → Int32) (S9 : Nat → Nat → Int32) (v1 : Int32) (ex : Int32 × (Nat → Nat → Int32)) (h : f_X6_alone S1 S2 S3 S4 S5 S6 S7 S8 S9 v1 = some ex) : zWI l yX6_alone wsX6_alone ({ frames := 6, cells := 0, slots := 0, locals := 148 } : Room) D T [.ref (a0 99), .int v1] (wX6 a0 a1 a2 a3 a4 a5 a6 a7 a8 a9 ++ (wX4 T a1 S1 ++ (wX1 T a2 S2 ++ (wX1 T a3 S3 ++ (wX0 T a4 S4 ++ (wX5 T a5 S5 ++ (wX5 T a6 S6 ++ (wX5 T a7 S7 ++ (wX5 T a8 S8 ++ wX3 T a9 S9))))))))) ex.1 (wX6 a0 a1 a2 a3 a4 a5 a6 a7 a8 a9 ++ (wX4 T a1 S1 ++ (wX1 T a2 S2 ++ (wX1 T a3 S3 ++ (wX0 T a4 ex.2 ++ (wX5 T a5 S5 ++ (wX5 T a6 S6 ++ (wX5 T a7 S7 ++ (wX5 T a8 S8 ++ wX3 T a9 S9))))))))) := by
  refine z_begin (cc := cX6_alone) (nL := 2) (own := RX6) (fr := 6) (lc := 148) (ret := some .int) (by decide) rfl (Nat.le_of_ble_eq_true rfl) (zA (wX6 a0 a1 a2 a3 a4 a5 a6 a7 a8 a9 ++ (wX4 T a1 S1 ++ (wX1 T a2 S2 ++ (wX1 T a3 S3 ++ (wX0 T a4 S4 ++ (wX5 T a5 S5 ++ (wX5 T a6 S6 ++ (wX5 T a7 S7 ++ (wX5 T a8 S8 ++ wX3 T a9 S9)))))))))) rfl [(0, .ref (a0 99)), (1, .int v1)] rfl ⟨rfl, rfl⟩ rfl ?_
  intro p e s m args below meth c C hr hD
  have hD := hD.zself
  unfold f_X6_alone at h
  refine z_aload_n C dX6_alone_0 rfl 0 rfl 1 rfl ?_
  refine z_iload_n C dX6_alone_1 rfl 1 rfl 2 rfl ?_
  refine z_callR C (wX6 a0 a1 a2 a3 a4 a5 a6 a7 a8 a9 ++ (wX4 T a1 S1 ++ (wX1 T a2 S2 ++ (wX1 T a3 S3 ++ (wX0 T a4 S4 ++ (wX5 T a5 S5 ++ (wX5 T a6 S6 ++ (wX5 T a7 S7 ++ (wX5 T a8 S8 ++ wX3 T a9 S9))))))))) (fun v h => c_X6_hasPlace l D T a0 a1 a2 a3 a4 a5 a6 a7 a8 a9  S1 S2 S3 S4 S5 S6 S7 S8 S9 v1 v h) ⟨rfl, rfl⟩ (z_cwV C 1 gX6_alone_X6_hasPlace rfl rfl dd_X6_hasPlace ⟨(Nat.le_of_ble_eq_true rfl), (Nat.le_of_ble_eq_true rfl)⟩) (hD.zaddr rfl) [0, 1, 2, 3, 4, 5, 6, 7, 8, 9, 10, 11, 12, 13, 14, 15, 16, 17, 18, 19, 20, 21, 22, 23, 24, 25, 26, 27, 28, 29, 30, 31, 32, 33] rfl rfl (fun _ => ⟨a0 99, [.int v1], 5, 0, _, _, rfl, rfl, rfl, rfl, rfl⟩) (fun h => absurd rfl h) rfl (Nat.le_of_ble_eq_true rfl) dX6_alone_2 5 rfl h (fun r_1 h => ?_)
  refine z_if_ne C 10 dX6_alone_5 (by decide) 8 rfl h (fun h => ?_) (fun h => ?_)
  · refine z_aload_n C dX6_alone_10 rfl 0 rfl 11 rfl ?_
    refine z_callA C (wX6 a0 a1 a2 a3 a4 a5 a6 a7 a8 a9 ++ (wX4 T a1 S1 ++ (wX1 T a2 S2 ++ (wX1 T a3 S3 ++ (wX0 T a4 S4 ++ (wX5 T a5 S5 ++ (wX5 T a6 S6 ++ (wX5 T a7 S7 ++ (wX5 T a8 S8 ++ wX3 T a9 S9))))))))) (([] : va_W)) (fun z => a4 99) (fun z => wX6 a0 a1 a2 a3 a4 a5 a6 a7 a8 a9 ++ (wX4 T a1 S1 ++ (wX1 T a2 S2 ++ (wX1 T a3 S3 ++ (wX0 T a4 z ++ (wX5 T a5 S5 ++ (wX5 T a6 S6 ++ (wX5 T a7 S7 ++ (wX5 T a8 S8 ++ wX3 T a9 S9))))))))) (fun z => wX6 a0 a1 a2 a3 a4 a5 a6 a7 a8 a9 ++ (wX4 T a1 S1 ++ (wX1 T a2 S2 ++ (wX1 T a3 S3 ++ (wX0 T a4 z ++ (wX5 T a5 S5 ++ (wX5 T a6 S6 ++ (wX5 T a7 S7 ++ (wX5 T a8 S8 ++ wX3 T a9 S9))))))))) (fun z h => c_X6_knownBests l D T a0 a1 a2 a3 a4 a5 a6 a7 a8 a9  S1 S2 S3 S4 S5 S6 S7 S8 S9  z h) ⟨rfl, rfl⟩ (z_cwV C 0 gX6_alone_X6_knownBests rfl rfl dd_X6_knownBests ⟨(Nat.le_of_ble_eq_true rfl), (Nat.le_of_ble_eq_true rfl)⟩) (hD.zaddr rfl) [0, 1, 2, 3, 4, 5, 6, 7, 8, 9, 10, 11, 12, 13, 14, 15, 16, 17, 18, 19, 20, 21, 22, 23, 24, 25, 26, 27, 28, 29, 30, 31, 32, 33] [] [0, 1, 2, 3, 4, 5, 6, 7, 8, 9, 10, 11, 12, 13, 14, 15, 16, 17, 18, 19, 20, 21, 22, 23, 24, 25, 26, 27, 28, 29, 30, 31, 32, 33] rfl rfl rfl (by decide) (fun _ => rfl) (fun _ => ⟨a0 99, [], 5, 0, _, _, rfl, rfl, rfl, rfl, rfl⟩) (fun h => absurd rfl h) rfl (Nat.le_of_ble_eq_true rfl) dX6_alone_11 14 rfl h (fun r_2 h => ?_)
    refine z_iconst C 0 dX6_alone_14 (by decide) 15 rfl ?_
    refine z_iconst C 1 dX6_alone_15 (by decide) 16 rfl ?_
    refine z_iload_n C dX6_alone_16 rfl 1 rfl 17 rfl ?_
    refine z_ishl C dX6_alone_17 18 rfl ?_
    refine z_callR C (wX0 T a4 r_2) (fun v h => c_X0_inkOf l D T a4  r_2 0 (1 <<< (v1 &&& 31)) v h) ⟨rfl, rfl⟩ (z_cwV C 2 gX6_alone_X0_inkOf rfl rfl dd_X0_inkOf ⟨(Nat.le_of_ble_eq_true rfl), (Nat.le_of_ble_eq_true rfl)⟩) (hD.zaddr rfl) [13, 14, 15, 16, 17, 18, 19] rfl rfl (fun _ => ⟨a4 99, [.int 0, .int (1 <<< (v1 &&& 31))], 0, 0, _, _, rfl, rfl, rfl, rfl, rfl⟩) (fun h => absurd rfl h) rfl (Nat.le_of_ble_eq_true rfl) dX6_alone_18 21 rfl h (fun r_3 h => ?_)
    exact z_iretW (x := r_2) (ex := ex) (fun z => wX6 a0 a1 a2 a3 a4 a5 a6 a7 a8 a9 ++ (wX4 T a1 S1 ++ (wX1 T a2 S2 ++ (wX1 T a3 S3 ++ (wX0 T a4 z ++ (wX5 T a5 S5 ++ (wX5 T a6 S6 ++ (wX5 T a7 S7 ++ (wX5 T a8 S8 ++ wX3 T a9 S9))))))))) C hr dX6_alone_21 h rfl
  · refine z_iconst C (-1) dX6_alone_8 (by decide) 9 rfl ?_
    exact z_iretW (x := S4) (ex := ex) (fun z => wX6 a0 a1 a2 a3 a4 a5 a6 a7 a8 a9 ++ (wX4 T a1 S1 ++ (wX1 T a2 S2 ++ (wX1 T a3 S3 ++ (wX0 T a4 z ++ (wX5 T a5 S5 ++ (wX5 T a6 S6 ++ (wX5 T a7 S7 ++ (wX5 T a8 S8 ++ wX3 T a9 S9))))))))) C hr dX6_alone_9 h rfl

end
/-! StreamTree.costs (I)I -/
section
variable {p : Program} {l : Launch} {e : Env} {R : Room} {s : State} {m : MethodId} {args : Array Value} {below : List Frame} {meth : Method} {c : Code} {Q : State → Prop} {A : Nat → Prop} {D : va_G} {T : Nat → ClassId} {a0 : Nat → Nat} {a1 : Nat → Nat} {a2 : Nat → Nat} {a3 : Nat → Nat} {a4 : Nat → Nat} {a5 : Nat → Nat} {a6 : Nat → Nat} {a7 : Nat → Nat} {a8 : Nat → Nat} {a9 : Nat → Nat}
theorem in_X6_costs_X6 : ∀ w ∈ u_ws RX6 TX6 9, w ∈ wsX6_costs := fun _ h => (List.mem_cons_of_mem _ (List.mem_append_left _ (List.mem_append_left _ (List.mem_append_right _ h))))
def f_X6_costs (S1 : Nat → Nat → Int32) (S2 : Nat → Nat → Int32) (S3 : Nat → Nat → Int32) (S4 : Nat → Nat → Int32) (S5 : Nat → Nat → Int32) (S6 : Nat → Nat → Int32) (S7 : Nat → Nat → Int32) (S8 : Nat → Nat → Int32) (S9 : Nat → Nat → Int32) (v1 : Int32) : Option (Int32 × (Nat → Nat → Int32)) := (f_X6_hasPlace S1 S2 S3 S4 S5 S6 S7 S8 S9 v1).bind fun r_1 => if r_1 = 0 then (some ((-1), S4)) else ((f_X1_allPlaces S2).bind fun r_2 => (f_X6_knownBests S1 S2 S3 S4 S5 S6 S7 S8 S9).bind fun r_3 => (f_X0_inkOf r_3 0 r_2).bind fun r_4 => if r_4 = (-2) then (some ((-2), r_3)) else ((f_X0_inkOf r_3 0 (r_2 ^^^ (1 <<< (v1 &&& 31)))).bind fun r_5 => some ((r_4 - r_5), r_3)))
theorem dd_X6_costs : RX6 ≠ "java/lang/invoke/MethodHandle" ∧ RX6 ≠ "java/lang/invoke/VarHandle" ∧ (parseMethodDescriptor yX6_costs.desc).map (fun d => d.parameters.length) = some 1 := by decide +kernel
set_option maxHeartbeats 4000000 in
set_option maxRecDepth 100000 in
theorem c_X6_costs (l : Launch) (D : va_G) (T : Nat → ClassId) (a0 : Nat → Nat) (a1 : Nat → Nat) (a2 : Nat → Nat) (a3 : Nat → Nat) (a4 : Nat → Nat) (a5 : Nat → Nat) (a6 : Nat → Nat) (a7 : Nat → Nat) (a8 : Nat → Nat) (a9 : Nat → Nat) (S1 : Nat → Nat → Int32) (S2 : Nat → Nat → Int32) (S3 : Nat → Nat → Int32) (S4 : Nat → Nat → Int32) (S5 : Nat → Nat → Int32) (S6 : Nat → Nat → Int32) (S7 : Nat → Nat → Int32) (S8 : Nat → Nat → Int32) (S9 : Nat → Nat → Int32) (v1 : Int32) (ex : Int32 × (Nat → Nat → Int32)) (h : f_X6_costs S1 S2 S3 S4 S5 S6 S7 S8 S9 v1 = some ex) : zWI l yX6_costs wsX6_costs ({ frames := 6, cells := 0, slots := 0, locals := 148 } : Room) D T [.ref (a0 99), .int v1] (wX6 a0 a1 a2 a3 a4 a5 a6 a7 a8 a9 ++ (wX4 T a1 S1 ++ (wX1 T a2 S2 ++ (wX1 T a3 S3 ++ (wX0 T a4 S4 ++ (wX5 T a5 S5 ++ (wX5 T a6 S6 ++ (wX5 T a7 S7 ++ (wX5 T a8 S8 ++ wX3 T a9 S9))))))))) ex.1 (wX6 a0 a1 a2 a3 a4 a5 a6 a7 a8 a9 ++ (wX4 T a1 S1 ++ (wX1 T a2 S2 ++ (wX1 T a3 S3 ++ (wX0 T a4 ex.2 ++ (wX5 T a5 S5 ++ (wX5 T a6 S6 ++ (wX5 T a7 S7 ++ (wX5 T a8 S8 ++ wX3 T a9 S9))))))))) := by
  refine z_begin (cc := cX6_costs) (nL := 4) (own := RX6) (fr := 6) (lc := 148) (ret := some .int) (by decide) rfl (Nat.le_of_ble_eq_true rfl) (zA (wX6 a0 a1 a2 a3 a4 a5 a6 a7 a8 a9 ++ (wX4 T a1 S1 ++ (wX1 T a2 S2 ++ (wX1 T a3 S3 ++ (wX0 T a4 S4 ++ (wX5 T a5 S5 ++ (wX5 T a6 S6 ++ (wX5 T a7 S7 ++ (wX5 T a8 S8 ++ wX3 T a9 S9)))))))))) rfl [(0, .ref (a0 99)), (1, .int v1)] rfl ⟨rfl, rfl⟩ rfl ?_
  intro p e s m args below meth c C hr hD
  have hD := hD.zself
  unfold f_X6_costs at h
  refine z_aload_n C dX6_costs_0 rfl 0 rfl 1 rfl ?_
  refine z_iload_n C dX6_costs_1 rfl 1 rfl 2 rfl ?_
  refine z_callR C (wX6 a0 a1 a2 a3 a4 a5 a6 a7 a8 a9 ++ (wX4 T a1 S1 ++ (wX1 T a2 S2 ++ (wX1 T a3 S3 ++ (wX0 T a4 S4 ++ (wX5 T a5 S5 ++ (wX5 T a6 S6 ++ (wX5 T a7 S7 ++ (wX5 T a8 S8 ++ wX3 T a9 S9))))))))) (fun v h => c_X6_hasPlace l D T a0 a1 a2 a3 a4 a5 a6 a7 a8 a9  S1 S2 S3 S4 S5 S6 S7 S8 S9 v1 v h) ⟨rfl, rfl⟩ (z_cwV C 1 gX6_costs_X6_hasPlace rfl rfl dd_X6_hasPlace ⟨(Nat.le_of_ble_eq_true rfl), (Nat.le_of_ble_eq_true rfl)⟩) (hD.zaddr rfl) [0, 1, 2, 3, 4, 5, 6, 7, 8, 9, 10, 11, 12, 13, 14, 15, 16, 17, 18, 19, 20, 21, 22, 23, 24, 25, 26, 27, 28, 29, 30, 31, 32, 33] rfl rfl (fun _ => ⟨a0 99, [.int v1], 5, 0, _, _, rfl, rfl, rfl, rfl, rfl⟩) (fun h => absurd rfl h) rfl (Nat.le_of_ble_eq_true rfl) dX6_costs_2 5 rfl h (fun r_1 h => ?_)
  refine z_if_ne C 10 dX6_costs_5 (by decide) 8 rfl h (fun h => ?_) (fun h => ?_)
  · refine z_aload_n C dX6_costs_10 rfl 0 rfl 11 rfl ?_
    refine z_get C (in_X6_costs_X6) 0 rfl rfl 1 (by decide) (List.mem_of_getElem? (i := 1) rfl) rfl rfl dX6_costs_11 14 rfl ?_
    refine z_callR C (wX1 T a2 S2) (fun v h => c_X1_allPlaces l D T a2  S2  v h) ⟨rfl, rfl⟩ (z_cwV C 0 gX6_costs_X1_allPlaces rfl rfl dd_X1_allPlaces ⟨(Nat.le_of_ble_eq_true rfl), (Nat.le_of_ble_eq_true rfl)⟩) (hD.zaddr rfl) [3, 4, 5, 6, 7] rfl rfl (fun _ => ⟨a2 99, [], 1, 0, _, _, rfl, rfl, rfl, rfl, rfl⟩) (fun h => absurd rfl h) rfl (Nat.le_of_ble_eq_true rfl) dX6_costs_14 17 rfl h (fun r_2 h => ?_)
    refine z_istore_n C [(0, .ref (a0 99)), (1, .int v1), (2, .int r_2)] dX6_costs_17 rfl (Nat.le_of_ble_eq_true rfl) [1, 2, 0] rfl 18 rfl ?_
    refine z_aload_n C dX6_costs_18 rfl 0 rfl 19 rfl ?_
    refine z_callA C (wX6 a0 a1 a2 a3 a4 a5 a6 a7 a8 a9 ++ (wX4 T a1 S1 ++ (wX1 T a2 S2 ++ (wX1 T a3 S3 ++ (wX0 T a4 S4 ++ (wX5 T a5 S5 ++ (wX5 T a6 S6 ++ (wX5 T a7 S7 ++ (wX5 T a8 S8 ++ wX3 T a9 S9))))))))) (([] : va_W)) (fun z => a4 99) (fun z => wX6 a0 a1 a2 a3 a4 a5 a6 a7 a8 a9 ++ (wX4 T a1 S1 ++ (wX1 T a2 S2 ++ (wX1 T a3 S3 ++ (wX0 T a4 z ++ (wX5 T a5 S5 ++ (wX5 T a6 S6 ++ (wX5 T a7 S7 ++ (wX5 T a8 S8 ++ wX3 T a9 S9))))))))) (fun z => wX6 a0 a1 a2 a3 a4 a5 a6 a7 a8 a9 ++ (wX4 T a1 S1 ++ (wX1 T a2 S2 ++ (wX1 T a3 S3 ++ (wX0 T a4 z ++ (wX5 T a5 S5 ++ (wX5 T a6 S6 ++ (wX5 T a7 S7 ++ (wX5 T a8 S8 ++ wX3 T a9 S9))))))))) (fun z h => c_X6_knownBests l D T a0 a1 a2 a3 a4 a5 a6 a7 a8 a9  S1 S2 S3 S4 S5 S6 S7 S8 S9  z h) ⟨rfl, rfl⟩ (z_cwV C 0 gX6_costs_X6_knownBests rfl rfl dd_X6_knownBests ⟨(Nat.le_of_ble_eq_true rfl), (Nat.le_of_ble_eq_true rfl)⟩) (hD.zaddr rfl) [0, 1, 2, 3, 4, 5, 6, 7, 8, 9, 10, 11, 12, 13, 14, 15, 16, 17, 18, 19, 20, 21, 22, 23, 24, 25, 26, 27, 28, 29, 30, 31, 32, 33] [] [0, 1, 2, 3, 4, 5, 6, 7, 8, 9, 10, 11, 12, 13, 14, 15, 16, 17, 18, 19, 20, 21, 22, 23, 24, 25, 26, 27, 28, 29, 30, 31, 32, 33] rfl rfl rfl (by decide) (fun _ => rfl) (fun _ => ⟨a0 99, [], 5, 0, _, _, rfl, rfl, rfl, rfl, rfl⟩) (fun h => absurd rfl h) rfl (Nat.le_of_ble_eq_true rfl) dX6_costs_19 22 rfl h (fun r_3 h => ?_)
    refine z_iconst C 0 dX6_costs_22 (by decide) 23 rfl ?_
    refine z_iload_n C dX6_costs_23 rfl 2 rfl 24 rfl ?_
    refine z_callR C (wX0 T a4 r_3) (fun v h => c_X0_inkOf l D T a4  r_3 0 r_2 v h) ⟨rfl, rfl⟩ (z_cwV C 2 gX6_costs_X0_inkOf rfl rfl dd_X0_inkOf ⟨(Nat.le_of_ble_eq_true rfl), (Nat.le_of_ble_eq_true rfl)⟩) (hD.zaddr rfl) [13, 14, 15, 16, 17, 18, 19] rfl rfl (fun _ => ⟨a4 99, [.int 0, .int r_2], 0, 0, _, _, rfl, rfl, rfl, rfl, rfl⟩) (fun h => absurd rfl h) rfl (Nat.le_of_ble_eq_true rfl) dX6_costs_24 27 rfl h (fun r_4 h => ?_)
    refine z_istore_n C [(0, .ref (a0 99)), (1, .int v1), (2, .int r_2), (3, .int r_4)] dX6_costs_27 rfl (Nat.le_of_ble_eq_true rfl) [1, 2, 3, 0] rfl 28 rfl ?_
    refine z_iload_n C dX6_costs_28 rfl 3 rfl 29 rfl ?_
    refine z_bipush C (-2) dX6_costs_29 (by decide) 31 rfl ?_
    refine z_icmp_ne C 39 dX6_costs_31 (by decide) 34 rfl h (fun h => ?_) (fun h => ?_)
    · refine z_iload_n C dX6_costs_39 rfl 3 rfl 40 rfl ?_
      refine z_aload_n C dX6_costs_40 rfl 0 rfl 41 rfl ?_
      refine z_get C (in_X6_costs_X6) 0 rfl rfl 3 (by decide) (List.mem_of_getElem? (i := 2) rfl) rfl rfl dX6_costs_41 44 rfl ?_
      refine z_iconst C 0 dX6_costs_44 (by decide) 45 rfl ?_
      refine z_iload_n C dX6_costs_45 rfl 2 rfl 46 rfl ?_
      refine z_iconst C 1 dX6_costs_46 (by decide) 47 rfl ?_
      refine z_iload_n C dX6_costs_47 rfl 1 rfl 48 rfl ?_
      refine z_ishl C dX6_costs_48 49 rfl ?_
      refine z_ixor C dX6_costs_49 50 rfl ?_
      refine z_callR C (wX0 T a4 r_3) (fun v h => c_X0_inkOf l D T a4  r_3 0 (r_2 ^^^ (1 <<< (v1 &&& 31))) v h) ⟨rfl, rfl⟩ (z_cwV C 2 gX6_costs_X0_inkOf rfl rfl dd_X0_inkOf ⟨(Nat.le_of_ble_eq_true rfl), (Nat.le_of_ble_eq_true rfl)⟩) (hD.zaddr rfl) [13, 14, 15, 16, 17, 18, 19] rfl rfl (fun _ => ⟨a4 99, [.int 0, .int (r_2 ^^^ (1 <<< (v1 &&& 31)))], 0, 0, _, _, rfl, rfl, rfl, rfl, rfl⟩) (fun h => absurd rfl h) rfl (Nat.le_of_ble_eq_true rfl) dX6_costs_50 53 rfl h (fun r_5 h => ?_)
      refine z_isub C dX6_costs_53 54 rfl ?_
      exact z_iretW (x := r_3) (ex := ex) (fun z => wX6 a0 a1 a2 a3 a4 a5 a6 a7 a8 a9 ++ (wX4 T a1 S1 ++ (wX1 T a2 S2 ++ (wX1 T a3 S3 ++ (wX0 T a4 z ++ (wX5 T a5 S5 ++ (wX5 T a6 S6 ++ (wX5 T a7 S7 ++ (wX5 T a8 S8 ++ wX3 T a9 S9))))))))) C hr dX6_costs_54 h rfl
    · refine z_bipush C (-2) dX6_costs_34 (by decide) 36 rfl ?_
      refine z_goto C 54 dX6_costs_36 (by decide) ?_
      exact z_iretW (x := r_3) (ex := ex) (fun z => wX6 a0 a1 a2 a3 a4 a5 a6 a7 a8 a9 ++ (wX4 T a1 S1 ++ (wX1 T a2 S2 ++ (wX1 T a3 S3 ++ (wX0 T a4 z ++ (wX5 T a5 S5 ++ (wX5 T a6 S6 ++ (wX5 T a7 S7 ++ (wX5 T a8 S8 ++ wX3 T a9 S9))))))))) C hr dX6_costs_54 h rfl
  · refine z_iconst C (-1) dX6_costs_8 (by decide) 9 rfl ?_
    exact z_iretW (x := S4) (ex := ex) (fun z => wX6 a0 a1 a2 a3 a4 a5 a6 a7 a8 a9 ++ (wX4 T a1 S1 ++ (wX1 T a2 S2 ++ (wX1 T a3 S3 ++ (wX0 T a4 z ++ (wX5 T a5 S5 ++ (wX5 T a6 S6 ++ (wX5 T a7 S7 ++ (wX5 T a8 S8 ++ wX3 T a9 S9))))))))) C hr dX6_costs_9 h rfl

end
