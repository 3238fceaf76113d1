/-! StreamTree.count (I)I -/
section
variable {p : Program} {l : Launch} {e : Env} {R : Room} {s : State} {m : MethodId} {args : Array Value} {below : List Frame} {meth : Method} {c : Code} {Q : State → Prop} {A : Nat → Prop} {D : va_G} {T : Nat → ClassId} {a0 : Nat → Nat} {a1 : Nat → Nat} {a2 : Nat → Nat} {a3 : Nat → Nat} {a4 : Nat → Nat} {a5 : Nat → Nat} {a6 : Nat → Nat} {a7 : Nat → Nat} {a8 : Nat → Nat} {a9 : Nat → Nat}
theorem in_X6_count_X4 : ∀ w ∈ u_ws RX4 TX4 8, w ∈ wsX6_count := fun _ h => (List.mem_cons_of_mem _ (List.mem_append_left _ (List.mem_append_right _ h)))
theorem in_X6_count_X1 : ∀ w ∈ u_ws RX1 TX1 10, w ∈ wsX6_count := fun _ h => (List.mem_cons_of_mem _ (List.mem_append_left _ (List.mem_append_left _ (List.mem_append_right _ h))))
theorem in_X6_count_X6 : ∀ w ∈ u_ws RX6 TX6 9, w ∈ wsX6_count := fun _ h => (List.mem_cons_of_mem _ (List.mem_append_left _ (List.mem_append_left _ (List.mem_append_left _ (List.mem_append_right _ h)))))
def f_X6_count (S1 : Nat → Nat → Int32) (S2 : Nat → Nat → Int32) (S3 : Nat → Nat → Int32) (S4 : Nat → Nat → Int32) (S5 : Nat → Nat → Int32) (S6 : Nat → Nat → Int32) (S7 : Nat → Nat → Int32) (S8 : Nat → Nat → Int32) (S9 : Nat → Nat → Int32) (v1 : Int32) : Option (Int32 × (Nat → Nat → Int32)) := if v1 = 0 then (some ((S2 0 0), S4)) else (if v1 = 1 then (some ((S2 1 0), S4)) else (if v1 = 2 then (some ((S2 5 0), S4)) else (if v1 = 3 then ((f_X1_rocks S2).bind fun r_1 => some (r_1, S4)) else (if v1 = 4 then (some ((S2 2 0), S4)) else (if v1 = 5 then (some ((S2 3 0), S4)) else (if v1 = 6 then (some ((S2 4 0), S4)) else (if v1 = 7 then ((f_X1_allPlaces S2).bind fun r_2 => (f_X1_amountOf S2 r_2).bind fun r_3 => some (r_3, S4)) else (if v1 = 8 then (some ((S1 0 0), S4)) else (if v1 = 9 then ((f_X6_knownBests S1 S2 S3 S4 S5 S6 S7 S8 S9).bind fun r_4 => (f_X0_inkSavedByLeast r_4 S2).bind fun r_5 => some (r_5, r_4)) else (some ((-1), S4)))))))))))
theorem dd_X6_count : RX6 ≠ "java/lang/invoke/MethodHandle" ∧ RX6 ≠ "java/lang/invoke/VarHandle" ∧ (parseMethodDescriptor yX6_count.desc).map (fun d => d.parameters.length) = some 1 := by decide +kernel
set_option maxHeartbeats 4000000 in
set_option maxRecDepth 100000 in
theorem c_X6_count (l : Launch) (D : va_G) (T : Nat → ClassId) (a0 : Nat → Nat) (a1 : Nat → Nat) (a2 : Nat → Nat) (a3 : Nat → Nat) (a4 : Nat → Nat) (a5 : Nat → Nat) (a6 : Nat → Nat) (a7 : Nat → Nat) (a8 : Nat → Nat) (a9 : Nat → Nat) (S1 : Nat → Nat → Int32) (S2 : Nat → Nat → Int32) (S3 : Nat → Nat → Int32) (S4 : Nat → Nat → Int32) (S5 : Nat → Nat → Int32) (S6 : Nat → Nat → Int32) (S7 : Nat → Nat → Int32) (S8 : Nat → Nat → Int32) (S9 : Nat → Nat → Int32) (v1 : Int32) (ex : Int32 × (Nat → Nat → Int32)) (h : f_X6_count S1 S2 S3 S4 S5 S6 S7 S8 S9 v1 = some ex) : zWI l yX6_count wsX6_count ({ frames := 6, cells := 0, slots := 0, locals := 148 } : Room) D T [.ref (a0 99), .int v1] (wX6 a0 a1 a2 a3 a4 a5 a6 a7 a8 a9 ++ (wX4 T a1 S1 ++ (wX1 T a2 S2 ++ (wX1 T a3 S3 ++ (wX0 T a4 S4 ++ (wX5 T a5 S5 ++ (wX5 T a6 S6 ++ (wX5 T a7 S7 ++ (wX5 T a8 S8 ++ wX3 T a9 S9))))))))) ex.1 (wX6 a0 a1 a2 a3 a4 a5 a6 a7 a8 a9 ++ (wX4 T a1 S1 ++ (wX1 T a2 S2 ++ (wX1 T a3 S3 ++ (wX0 T a4 ex.2 ++ (wX5 T a5 S5 ++ (wX5 T a6 S6 ++ (wX5 T a7 S7 ++ (wX5 T a8 S8 ++ wX3 T a9 S9))))))))) := by
  refine z_begin (cc := cX6_count) (nL := 2) (own := RX6) (fr := 6) (lc := 148) (ret := some .int) (by decide) rfl (Nat.le_of_ble_eq_true rfl) (zA (wX6 a0 a1 a2 a3 a4 a5 a6 a7 a8 a9 ++ (wX4 T a1 S1 ++ (wX1 T a2 S2 ++ (wX1 T a3 S3 ++ (wX0 T a4 S4 ++ (wX5 T a5 S5 ++ (wX5 T a6 S6 ++ (wX5 T a7 S7 ++ (wX5 T a8 S8 ++ wX3 T a9 S9)))))))))) rfl [(0, .ref (a0 99)), (1, .int v1)] rfl ⟨rfl, rfl⟩ rfl ?_
  intro p e s m args below meth c C hr hD
  have hD := hD.zself
  unfold f_X6_count at h
  refine z_iload_n C dX6_count_0 rfl 1 rfl 1 rfl ?_
  refine z_case h (fun hx h => ?_) (fun hx_0 h => ?_)
  · refine z_tableIn (off := 55) C 56 dX6_count_1 hx (by decide) (by decide) (by decide) (by decide) ?_
    refine z_aload_n C dX6_count_56 rfl 0 rfl 57 rfl ?_
    refine z_get C (in_X6_count_X6) 0 rfl rfl 1 (by decide) (List.mem_of_getElem? (i := 1) rfl) rfl rfl dX6_count_57 60 rfl ?_
    refine z_get C (in_X6_count_X1) 3 rfl rfl 0 (by decide) (List.mem_of_getElem? (i := 2) rfl) rfl rfl dX6_count_60 63 rfl ?_
    exact z_iretW (x := S4) (ex := ex) (fun z => wX6 a0 a1 a2 a3 a4 a5 a6 a7 a8 a9 ++ (wX4 T a1 S1 ++ (wX1 T a2 S2 ++ (wX1 T a3 S3 ++ (wX0 T a4 z ++ (wX5 T a5 S5 ++ (wX5 T a6 S6 ++ (wX5 T a7 S7 ++ (wX5 T a8 S8 ++ wX3 T a9 S9))))))))) C hr dX6_count_63 h rfl
  · refine z_case h (fun hx h => ?_) (fun hx_1 h => ?_)
    · refine z_tableIn (off := 63) C 64 dX6_count_1 hx (by decide) (by decide) (by decide) (by decide) ?_
      refine z_aload_n C dX6_count_64 rfl 0 rfl 65 rfl ?_
      refine z_get C (in_X6_count_X6) 0 rfl rfl 1 (by decide) (List.mem_of_getElem? (i := 1) rfl) rfl rfl dX6_count_65 68 rfl ?_
      refine z_get C (in_X6_count_X1) 3 rfl rfl 1 (by decide) (List.mem_of_getElem? (i := 3) rfl) rfl rfl dX6_count_68 71 rfl ?_
      exact z_iretW (x := S4) (ex := ex) (fun z => wX6 a0 a1 a2 a3 a4 a5 a6 a7 a8 a9 ++ (wX4 T a1 S1 ++ (wX1 T a2 S2 ++ (wX1 T a3 S3 ++ (wX0 T a4 z ++ (wX5 T a5 S5 ++ (wX5 T a6 S6 ++ (wX5 T a7 S7 ++ (wX5 T a8 S8 ++ wX3 T a9 S9))))))))) C hr dX6_count_71 h rfl
    · refine z_case h (fun hx h => ?_) (fun hx_2 h => ?_)
      · refine z_tableIn (off := 71) C 72 dX6_count_1 hx (by decide) (by decide) (by decide) (by decide) ?_
        refine z_aload_n C dX6_count_72 rfl 0 rfl 73 rfl ?_
        refine z_get C (in_X6_count_X6) 0 rfl rfl 1 (by decide) (List.mem_of_getElem? (i := 1) rfl) rfl rfl dX6_count_73 76 rfl ?_
        refine z_get C (in_X6_count_X1) 3 rfl rfl 5 (by decide) (List.mem_of_getElem? (i := 4) rfl) rfl rfl dX6_count_76 79 rfl ?_
        exact z_iretW (x := S4) (ex := ex) (fun z => wX6 a0 a1 a2 a3 a4 a5 a6 a7 a8 a9 ++ (wX4 T a1 S1 ++ (wX1 T a2 S2 ++ (wX1 T a3 S3 ++ (wX0 T a4 z ++ (wX5 T a5 S5 ++ (wX5 T a6 S6 ++ (wX5 T a7 S7 ++ (wX5 T a8 S8 ++ wX3 T a9 S9))))))))) C hr dX6_count_79 h rfl
      · refine z_case h (fun hx h => ?_) (fun hx_3 h => ?_)
        · refine z_tableIn (off := 79) C 80 dX6_count_1 hx (by decide) (by decide) (by decide) (by decide) ?_
          refine z_aload_n C dX6_count_80 rfl 0 rfl 81 rfl ?_
          refine z_get C (in_X6_count_X6) 0 rfl rfl 1 (by decide) (List.mem_of_getElem? (i := 1) rfl) rfl rfl dX6_count_81 84 rfl ?_
          refine z_callR C (wX1 T a2 S2) (fun v h => c_X1_rocks l D T a2  S2  v h) ⟨rfl, rfl⟩ (z_cwV C 0 gX6_count_X1_rocks rfl rfl dd_X1_rocks ⟨(Nat.le_of_ble_eq_true rfl), (Nat.le_of_ble_eq_true rfl)⟩) (hD.zaddr rfl) [3, 4, 5, 6, 7] rfl rfl (fun _ => ⟨a2 99, [], 1, 0, _, _, rfl, rfl, rfl, rfl, rfl⟩) (fun h => absurd rfl h) rfl (Nat.le_of_ble_eq_true rfl) dX6_count_84 87 rfl h (fun r_1 h => ?_)
          exact z_iretW (x := S4) (ex := ex) (fun z => wX6 a0 a1 a2 a3 a4 a5 a6 a7 a8 a9 ++ (wX4 T a1 S1 ++ (wX1 T a2 S2 ++ (wX1 T a3 S3 ++ (wX0 T a4 z ++ (wX5 T a5 S5 ++ (wX5 T a6 S6 ++ (wX5 T a7 S7 ++ (wX5 T a8 S8 ++ wX3 T a9 S9))))))))) C hr dX6_count_87 h rfl
        · refine z_case h (fun hx h => ?_) (fun hx_4 h => ?_)
          · refine z_tableIn (off := 87) C 88 dX6_count_1 hx (by decide) (by decide) (by decide) (by decide) ?_
            refine z_aload_n C dX6_count_88 rfl 0 rfl 89 rfl ?_
            refine z_get C (in_X6_count_X6) 0 rfl rfl 1 (by decide) (List.mem_of_getElem? (i := 1) rfl) rfl rfl dX6_count_89 92 rfl ?_
            refine z_get C (in_X6_count_X1) 3 rfl rfl 2 (by decide) (List.mem_of_getElem? (i := 5) rfl) rfl rfl dX6_count_92 95 rfl ?_
            exact z_iretW (x := S4) (ex := ex) (fun z => wX6 a0 a1 a2 a3 a4 a5 a6 a7 a8 a9 ++ (wX4 T a1 S1 ++ (wX1 T a2 S2 ++ (wX1 T a3 S3 ++ (wX0 T a4 z ++ (wX5 T a5 S5 ++ (wX5 T a6 S6 ++ (wX5 T a7 S7 ++ (wX5 T a8 S8 ++ wX3 T a9 S9))))))))) C hr dX6_count_95 h rfl
          · refine z_case h (fun hx h => ?_) (fun hx_5 h => ?_)
            · refine z_tableIn (off := 95) C 96 dX6_count_1 hx (by decide) (by decide) (by decide) (by decide) ?_
              refine z_aload_n C dX6_count_96 rfl 0 rfl 97 rfl ?_
              refine z_get C (in_X6_count_X6) 0 rfl rfl 1 (by decide) (List.mem_of_getElem? (i := 1) rfl) rfl rfl dX6_count_97 100 rfl ?_
              refine z_get C (in_X6_count_X1) 3 rfl rfl 3 (by decide) (List.mem_of_getElem? (i := 6) rfl) rfl rfl dX6_count_100 103 rfl ?_
              exact z_iretW (x := S4) (ex := ex) (fun z => wX6 a0 a1 a2 a3 a4 a5 a6 a7 a8 a9 ++ (wX4 T a1 S1 ++ (wX1 T a2 S2 ++ (wX1 T a3 S3 ++ (wX0 T a4 z ++ (wX5 T a5 S5 ++ (wX5 T a6 S6 ++ (wX5 T a7 S7 ++ (wX5 T a8 S8 ++ wX3 T a9 S9))))))))) C hr dX6_count_103 h rfl
            · refine z_case h (fun hx h => ?_) (fun hx_6 h => ?_)
              · refine z_tableIn (off := 103) C 104 dX6_count_1 hx (by decide) (by decide) (by decide) (by decide) ?_
                refine z_aload_n C dX6_count_104 rfl 0 rfl 105 rfl ?_
                refine z_get C (in_X6_count_X6) 0 rfl rfl 1 (by decide) (List.mem_of_getElem? (i := 1) rfl) rfl rfl dX6_count_105 108 rfl ?_
                refine z_get C (in_X6_count_X1) 3 rfl rfl 4 (by decide) (List.mem_of_getElem? (i := 7) rfl) rfl rfl dX6_count_108 111 rfl ?_
                exact z_iretW (x := S4) (ex := ex) (fun z => wX6 a0 a1 a2 a3 a4 a5 a6 a7 a8 a9 ++ (wX4 T a1 S1 ++ (wX1 T a2 S2 ++ (wX1 T a3 S3 ++ (wX0 T a4 z ++ (wX5 T a5 S5 ++ (wX5 T a6 S6 ++ (wX5 T a7 S7 ++ (wX5 T a8 S8 ++ wX3 T a9 S9))))))))) C hr dX6_count_111 h rfl
              · refine z_case h (fun hx h => ?_) (fun hx_7 h => ?_)
                · refine z_tableIn (off := 111) C 112 dX6_count_1 hx (by decide) (by decide) (by decide) (by decide) ?_
                  refine z_aload_n C dX6_count_112 rfl 0 rfl 113 rfl ?_
                  refine z_get C (in_X6_count_X6) 0 rfl rfl 1 (by decide) (List.mem_of_getElem? (i := 1) rfl) rfl rfl dX6_count_113 116 rfl ?_
                  refine z_aload_n C dX6_count_116 rfl 0 rfl 117 rfl ?_
                  refine z_get C (in_X6_count_X6) 0 rfl rfl 1 (by decide) (List.mem_of_getElem? (i := 1) rfl) rfl rfl dX6_count_117 120 rfl ?_
                  refine z_callR C (wX1 T a2 S2) (fun v h => c_X1_allPlaces l D T a2  S2  v h) ⟨rfl, rfl⟩ (z_cwV C 0 gX6_count_X1_allPlaces rfl rfl dd_X1_allPlaces ⟨(Nat.le_of_ble_eq_true rfl), (Nat.le_of_ble_eq_true rfl)⟩) (hD.zaddr rfl) [3, 4, 5, 6, 7] rfl rfl (fun _ => ⟨a2 99, [], 1, 0, _, _, rfl, rfl, rfl, rfl, rfl⟩) (fun h => absurd rfl h) rfl (Nat.le_of_ble_eq_true rfl) dX6_count_120 123 rfl h (fun r_2 h => ?_)
                  refine z_callR C (wX1 T a2 S2) (fun v h => c_X1_amountOf l D T a2  S2 r_2 v h) ⟨rfl, rfl⟩ (z_cwV C 1 gX6_count_X1_amountOf rfl rfl dd_X1_amountOf ⟨(Nat.le_of_ble_eq_true rfl), (Nat.le_of_ble_eq_true rfl)⟩) (hD.zaddr rfl) [3, 4, 5, 6, 7] rfl rfl (fun _ => ⟨a2 99, [.int r_2], 1, 0, _, _, rfl, rfl, rfl, rfl, rfl⟩) (fun h => absurd rfl h) rfl (Nat.le_of_ble_eq_true rfl) dX6_count_123 126 rfl h (fun r_3 h => ?_)
                  exact z_iretW (x := S4) (ex := ex) (fun z => wX6 a0 a1 a2 a3 a4 a5 a6 a7 a8 a9 ++ (wX4 T a1 S1 ++ (wX1 T a2 S2 ++ (wX1 T a3 S3 ++ (wX0 T a4 z ++ (wX5 T a5 S5 ++ (wX5 T a6 S6 ++ (wX5 T a7 S7 ++ (wX5 T a8 S8 ++ wX3 T a9 S9))))))))) C hr dX6_count_126 h rfl
                · refine z_case h (fun hx h => ?_) (fun hx_8 h => ?_)
                  · refine z_tableIn (off := 126) C 127 dX6_count_1 hx (by decide) (by decide) (by decide) (by decide) ?_
                    refine z_aload_n C dX6_count_127 rfl 0 rfl 128 rfl ?_
                    refine z_get C (in_X6_count_X6) 0 rfl rfl 0 (by decide) (List.mem_of_getElem? (i := 8) rfl) rfl rfl dX6_count_128 131 rfl ?_
                    refine z_get C (in_X6_count_X4) 1 rfl rfl 0 (by decide) (List.mem_of_getElem? (i := 9) rfl) rfl rfl dX6_count_131 134 rfl ?_
                    exact z_iretW (x := S4) (ex := ex) (fun z => wX6 a0 a1 a2 a3 a4 a5 a6 a7 a8 a9 ++ (wX4 T a1 S1 ++ (wX1 T a2 S2 ++ (wX1 T a3 S3 ++ (wX0 T a4 z ++ (wX5 T a5 S5 ++ (wX5 T a6 S6 ++ (wX5 T a7 S7 ++ (wX5 T a8 S8 ++ wX3 T a9 S9))))))))) C hr dX6_count_134 h rfl
                  · refine z_case h (fun hx h => ?_) (fun hx_9 h => ?_)
                    · refine z_tableIn (off := 134) C 135 dX6_count_1 hx (by decide) (by decide) (by decide) (by decide) ?_
                      refine z_aload_n C dX6_count_135 rfl 0 rfl 136 rfl ?_
                      refine z_callA C (wX6 a0 a1 a2 a3 a4 a5 a6 a7 a8 a9 ++ (wX4 T a1 S1 ++ (wX1 T a2 S2 ++ (wX1 T a3 S3 ++ (wX0 T a4 S4 ++ (wX5 T a5 S5 ++ (wX5 T a6 S6 ++ (wX5 T a7 S7 ++ (wX5 T a8 S8 ++ wX3 T a9 S9))))))))) (([] : va_W)) (fun z => a4 99) (fun z => wX6 a0 a1 a2 a3 a4 a5 a6 a7 a8 a9 ++ (wX4 T a1 S1 ++ (wX1 T a2 S2 ++ (wX1 T a3 S3 ++ (wX0 T a4 z ++ (wX5 T a5 S5 ++ (wX5 T a6 S6 ++ (wX5 T a7 S7 ++ (wX5 T a8 S8 ++ wX3 T a9 S9))))))))) (fun z => wX6 a0 a1 a2 a3 a4 a5 a6 a7 a8 a9 ++ (wX4 T a1 S1 ++ (wX1 T a2 S2 ++ (wX1 T a3 S3 ++ (wX0 T a4 z ++ (wX5 T a5 S5 ++ (wX5 T a6 S6 ++ (wX5 T a7 S7 ++ (wX5 T a8 S8 ++ wX3 T a9 S9))))))))) (fun z h => c_X6_knownBests l D T a0 a1 a2 a3 a4 a5 a6 a7 a8 a9  S1 S2 S3 S4 S5 S6 S7 S8 S9  z h) ⟨rfl, rfl⟩ (z_cwV C 0 gX6_count_X6_knownBests rfl rfl dd_X6_knownBests ⟨(Nat.le_of_ble_eq_true rfl), (Nat.le_of_ble_eq_true rfl)⟩) (hD.zaddr rfl) [0, 1, 2, 3, 4, 5, 6, 7, 8, 9, 10, 11, 12, 13, 14, 15, 16, 17, 18, 19, 20, 21, 22, 23, 24, 25, 26, 27, 28, 29, 30, 31, 32, 33] [] [0, 1, 2, 3, 4, 5, 6, 7, 8, 9, 10, 11, 12, 13, 14, 15, 16, 17, 18, 19, 20, 21, 22, 23, 24, 25, 26, 27, 28, 29, 30, 31, 32, 33] rfl rfl rfl (by decide) (fun _ => rfl) (fun _ => ⟨a0 99, [], 5, 0, _, _, rfl, rfl, rfl, rfl, rfl⟩) (fun h => absurd rfl h) rfl (Nat.le_of_ble_eq_true rfl) dX6_count_136 139 rfl h (fun r_4 h => ?_)
                      refine z_aload_n C dX6_count_139 rfl 0 rfl 140 rfl ?_
                      refine z_get C (in_X6_count_X6) 0 rfl rfl 1 (by decide) (List.mem_of_getElem? (i := 1) rfl) rfl rfl dX6_count_140 143 rfl ?_
                      refine z_callR C (wX0 T a4 r_4 ++ wX1 T a2 S2) (fun v h => c_X0_inkSavedByLeast l D T a4 a2  r_4 S2  v h) ⟨rfl, rfl⟩ (z_cwV C 1 gX6_count_X0_inkSavedByLeast rfl rfl dd_X0_inkSavedByLeast ⟨(Nat.le_of_ble_eq_true rfl), (Nat.le_of_ble_eq_true rfl)⟩) (hD.zaddr rfl) [13, 14, 15, 16, 17, 18, 19, 3, 4, 5, 6, 7] rfl rfl (fun _ => ⟨a4 99, [.ref (a2 99)], 0, 0, _, _, rfl, rfl, rfl, rfl, rfl⟩) (fun h => absurd rfl h) rfl (Nat.le_of_ble_eq_true rfl) dX6_count_143 146 rfl h (fun r_5 h => ?_)
                      exact z_iretW (x := r_4) (ex := ex) (fun z => wX6 a0 a1 a2 a3 a4 a5 a6 a7 a8 a9 ++ (wX4 T a1 S1 ++ (wX1 T a2 S2 ++ (wX1 T a3 S3 ++ (wX0 T a4 z ++ (wX5 T a5 S5 ++ (wX5 T a6 S6 ++ (wX5 T a7 S7 ++ (wX5 T a8 S8 ++ wX3 T a9 S9))))))))) C hr dX6_count_146 h rfl
                    · refine z_tableOut C 147 dX6_count_1 (by have : (v1).toInt ≠ 0 := z_ne_toInt hx_0; have : (v1).toInt ≠ 1 := z_ne_toInt hx_1; have : (v1).toInt ≠ 2 := z_ne_toInt hx_2; have : (v1).toInt ≠ 3 := z_ne_toInt hx_3; have : (v1).toInt ≠ 4 := z_ne_toInt hx_4; have : (v1).toInt ≠ 5 := z_ne_toInt hx_5; have : (v1).toInt ≠ 6 := z_ne_toInt hx_6; have : (v1).toInt ≠ 7 := z_ne_toInt hx_7; have : (v1).toInt ≠ 8 := z_ne_toInt hx_8; have : (v1).toInt ≠ 9 := z_ne_toInt hx_9; omega) (by decide) ?_
                      refine z_iconst C (-1) dX6_count_147 (by decide) 148 rfl ?_
                      exact z_iretW (x := S4) (ex := ex) (fun z => wX6 a0 a1 a2 a3 a4 a5 a6 a7 a8 a9 ++ (wX4 T a1 S1 ++ (wX1 T a2 S2 ++ (wX1 T a3 S3 ++ (wX0 T a4 z ++ (wX5 T a5 S5 ++ (wX5 T a6 S6 ++ (wX5 T a7 S7 ++ (wX5 T a8 S8 ++ wX3 T a9 S9))))))))) C hr dX6_count_148 h rfl

end
