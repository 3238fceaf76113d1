/-! the cases of the law's switch -/
section LWC
variable {p : Program} {l : Launch} {e : Env} {s : State} {m : MethodId} {below : List Frame} {meth : Method} {c : Code} {Q : State → Prop} {D : va_G} {T : Nat → ClassId} {adK adV : Nat → Nat} {b L sa : Nat} {xs : Nat → Int32} {cJ : ClassId}
set_option maxHeartbeats 4000000 in
set_option maxRecDepth 100000 in
theorem lw_at {j : Nat} {K : Nat → Nat → Nat} {a0 a1 a2 a3 a4 a5 a6 a7 a8 a9 b0 : Nat → Nat} {S1 S2 S3 S4 S5 S6 S7 S8 S9 M : Nat → Nat → Int32} {q : Nat} {f : Nat → Int64} {cells slots : Nat} (hl0 : l.stackTraces = false) (C0 : lwC p s m meth c D T adK adV b L sa xs cJ) (hj : 6 * j + 6 ≤ L) (hI : ivK K S1 S2 S4 S5 S6 S7 S8 M) (hD : va_D (fun q : Nat => s.heap.size ≤ q) ((wX6 a0 a1 a2 a3 a4 a5 a6 a7 a8 a9 ++ (wX4 T a1 S1 ++ (wX1 T a2 S2 ++ (wX1 T a3 S3 ++ (wX0 T a4 S4 ++ (wX5 T a5 S5 ++ (wX5 T a6 S6 ++ (wX5 T a7 S7 ++ (wX5 T a8 S8 ++ wX3 T a9 S9))))))))) ++ (wX7 T b0 M ++ wJ cJ q f))) (hc : cells + 5 * tpL S1 ≤ 53 + 106 * j) (hs : slots + 25 * tpL S1 ≤ 98797 + 600 * j) (KK : lwG p l e s m below meth c Q D T b cJ j) : zt p l e room_1 s m #[Value.ref b] below meth c 7 (fun q : Nat => s.heap.size ≤ q) D cells slots Q ((wX6 a0 a1 a2 a3 a4 a5 a6 a7 a8 a9 ++ (wX4 T a1 S1 ++ (wX1 T a2 S2 ++ (wX1 T a3 S3 ++ (wX0 T a4 S4 ++ (wX5 T a5 S5 ++ (wX5 T a6 S6 ++ (wX5 T a7 S7 ++ (wX5 T a8 S8 ++ wX3 T a9 S9))))))))) ++ (wX7 T b0 M ++ wJ cJ q f)) [(0, .ref b), (1, .ref (a0 99)), (2, .ref (b0 99)), (3, .ref q), (4, .int (nI (6 * j)))] 422 [] := by
  obtain ⟨C1, hXs, hbl, hL, hE, hX, hKJ⟩ := C0
  have hbA : ¬ (fun q : Nat => s.heap.size ≤ q) b := Nat.not_le.mpr hbl
  have hA : ∀ q : Nat, s.heap.size ≤ q → (fun q : Nat => s.heap.size ≤ q) q := fun _ h => h
  have C := C1 cells slots (by omega) (by omega)
  obtain ⟨ex, x, M', h1, h2, hI', h5⟩ := m_at2 (S3 := S3) (S9 := S9) hI (sv xs (6 * j) 1) (sv xs (6 * j) 2)
  have C2 := C1 (cells + 1) (slots + 6) (by omega) (by omega)
  refine z_aload_n C dL_law_422 rfl 1 rfl 423 rfl ?_
  refine z_sarg (z := 1) 1 C hXs hbl hbA (lw_in hL hj 1 (by decide)) (by decide) rfl rfl dL_law_423 dL_law_424 dL_law_426 dL_law_427 dL_law_428 429 rfl ?_
  refine z_sarg (z := 2) 2 C hXs hbl hbA (lw_in hL hj 2 (by decide)) (by decide) rfl rfl dL_law_429 dL_law_430 dL_law_432 dL_law_433 dL_law_434 435 rfl ?_
  refine z_aload_n C dL_law_435 rfl 3 rfl 436 rfl ?_
  have hD1 : va_D (fun q : Nat => s.heap.size ≤ q) ((wX6 a0 a1 a2 a3 a4 a5 a6 a7 a8 a9 ++ (wX4 T a1 S1 ++ (wX1 T a2 S2 ++ (wX1 T a3 S3 ++ (wX0 T a4 S4 ++ (wX5 T a5 S5 ++ (wX5 T a6 S6 ++ (wX5 T a7 S7 ++ (wX5 T a8 S8 ++ (wX3 T a9 S9 ++ wJ cJ q f)))))))))) ++ wX7 T b0 M) := hD.sub [0, 1, 2, 3, 4, 5, 6, 7, 8, 9, 10, 11, 12, 13, 14, 15, 16, 17, 18, 19, 20, 21, 22, 23, 24, 25, 26, 27, 28, 29, 30, 31, 32, 33, 52, 34, 35, 36, 37, 38, 39, 40, 41, 42, 43, 44, 45, 46, 47, 48, 49, 50, 51] rfl rfl
  refine z_perm (w' := (wX6 a0 a1 a2 a3 a4 a5 a6 a7 a8 a9 ++ (wX4 T a1 S1 ++ (wX1 T a2 S2 ++ (wX1 T a3 S3 ++ (wX0 T a4 S4 ++ (wX5 T a5 S5 ++ (wX5 T a6 S6 ++ (wX5 T a7 S7 ++ (wX5 T a8 S8 ++ (wX3 T a9 S9 ++ wJ cJ q f)))))))))) ++ wX7 T b0 M) [0, 1, 2, 3, 4, 5, 6, 7, 8, 9, 10, 11, 12, 13, 14, 15, 16, 17, 18, 19, 20, 21, 22, 23, 24, 25, 26, 27, 28, 29, 30, 31, 32, 33, 52, 34, 35, 36, 37, 38, 39, 40, 41, 42, 43, 44, 45, 46, 47, 48, 49, 50, 51] rfl ?_
  refine z_callLA (wf := fun f' => (wX6 a0 a1 a2 a3 a4 a5 a6 a7 a8 a9 ++ (wX4 T a1 S1 ++ (wX1 T a2 S2 ++ (wX1 T a3 S3 ++ (wX0 T a4 S4 ++ (wX5 T a5 S5 ++ (wX5 T a6 S6 ++ (wX5 T a7 S7 ++ (wX5 T a8 S8 ++ (wX3 T a9 S9 ++ wJ cJ q f'))))))))))) C hX hKJ (c_L_at l hl0 D T sa cJ q f a0 a1 a2 a3 a4 a5 a6 a7 a8 a9 S1 S2 S3 S4 S5 S6 S7 S8 S9 (sv xs (6 * j) 1) (sv xs (6 * j) 2) ex h1) (vx_cwSW 4 C.1.2.2.2.2 gL_law_L_at rfl rfl rfl dd_L_at ⟨(Nat.le_of_ble_eq_true rfl), (Nat.le_of_ble_eq_true rfl)⟩) ⟨C2.2.2.2.2.1, C2.2.2.2.2.2⟩ hD1 rfl rfl (Nat.le_of_ble_eq_true rfl) dL_law_436 439 rfl (fun r f' hr => ?_)
  refine z_perm (w' := (wX6 a0 a1 a2 a3 a4 a5 a6 a7 a8 a9 ++ (wX4 T a1 S1 ++ (wX1 T a2 S2 ++ (wX1 T a3 S3 ++ (wX0 T a4 S4 ++ (wX5 T a5 S5 ++ (wX5 T a6 S6 ++ (wX5 T a7 S7 ++ (wX5 T a8 S8 ++ wX3 T a9 S9))))))))) ++ (wX7 T b0 M ++ wJ cJ q f')) [0, 1, 2, 3, 4, 5, 6, 7, 8, 9, 10, 11, 12, 13, 14, 15, 16, 17, 18, 19, 20, 21, 22, 23, 24, 25, 26, 27, 28, 29, 30, 31, 32, 33, 35, 36, 37, 38, 39, 40, 41, 42, 43, 44, 45, 46, 47, 48, 49, 50, 51, 52, 34] rfl ?_
  have hD2 : va_D (fun q : Nat => s.heap.size ≤ q) ((wX6 a0 a1 a2 a3 a4 a5 a6 a7 a8 a9 ++ (wX4 T a1 S1 ++ (wX1 T a2 S2 ++ (wX1 T a3 S3 ++ (wX0 T a4 S4 ++ (wX5 T a5 S5 ++ (wX5 T a6 S6 ++ (wX5 T a7 S7 ++ (wX5 T a8 S8 ++ wX3 T a9 S9))))))))) ++ (wX7 T b0 M ++ wJ cJ q f')) := hD.zaddr rfl
  refine z_istore C2 [(0, .ref b), (1, .ref (a0 99)), (2, .ref (b0 99)), (3, .ref q), (4, .int (nI (6 * j))), (5, .int r)] dL_law_439 (by decide) [1, 2, 3, 4, 5, 0] rfl 441 rfl ?_
  refine z_aload_n C2 dL_law_441 rfl 2 rfl 442 rfl ?_
  refine z_sarg (z := 1) 1 C2 hXs hbl hbA (lw_in hL hj 1 (by decide)) (by decide) rfl rfl dL_law_442 dL_law_443 dL_law_445 dL_law_446 dL_law_447 448 rfl ?_
  refine z_sarg (z := 2) 2 C2 hXs hbl hbA (lw_in hL hj 2 (by decide)) (by decide) rfl rfl dL_law_448 dL_law_449 dL_law_451 dL_law_452 dL_law_453 454 rfl ?_
  refine z_callM (wa := (wX6 a0 a1 a2 a3 a4 a5 a6 a7 a8 a9 ++ (wX4 T a1 S1 ++ (wX1 T a2 S2 ++ (wX1 T a3 S3 ++ (wX0 T a4 S4 ++ (wX5 T a5 S5 ++ (wX5 T a6 S6 ++ (wX5 T a7 S7 ++ (wX5 T a8 S8 ++ wX3 T a9 S9)))))))))) C2 (c_X7_at l D T b0 M (sv xs (6 * j) 1) (sv xs (6 * j) 2) (x, M') h2) ⟨rfl, rfl⟩ (z_cwV C2 2 gL_law_X7_at rfl rfl dd_X7_at ⟨(Nat.le_of_ble_eq_true rfl), (Nat.le_of_ble_eq_true rfl)⟩) hD2 ⟨b0 99, [.int (sv xs (6 * j) 1), .int (sv xs (6 * j) 2)], 6, 0, _, _, rfl, rfl, rfl, rfl, rfl⟩ rfl (Nat.le_of_ble_eq_true rfl) dL_law_454 457 rfl ?_
  have hD3 : va_D (fun q : Nat => s.heap.size ≤ q) ((wX6 a0 a1 a2 a3 a4 a5 a6 a7 a8 a9 ++ (wX4 T a1 S1 ++ (wX1 T a2 S2 ++ (wX1 T a3 S3 ++ (wX0 T a4 S4 ++ (wX5 T a5 S5 ++ (wX5 T a6 S6 ++ (wX5 T a7 S7 ++ (wX5 T a8 S8 ++ wX3 T a9 S9))))))))) ++ (wX7 T b0 M' ++ wJ cJ q f')) := hD.zaddr rfl
  refine z_istore C2 [(0, .ref b), (1, .ref (a0 99)), (2, .ref (b0 99)), (3, .ref q), (4, .int (nI (6 * j))), (5, .int r), (6, .int x)] dL_law_457 (by decide) [1, 2, 3, 4, 5, 6, 0] rfl 459 rfl ?_
  refine z_aload_n C2 dL_law_459 rfl 2 rfl 460 rfl ?_
  refine z_callMR (wa := (wX6 a0 a1 a2 a3 a4 a5 a6 a7 a8 a9 ++ (wX4 T a1 S1 ++ (wX1 T a2 S2 ++ (wX1 T a3 S3 ++ (wX0 T a4 S4 ++ (wX5 T a5 S5 ++ (wX5 T a6 S6 ++ (wX5 T a7 S7 ++ (wX5 T a8 S8 ++ wX3 T a9 S9)))))))))) C2 (c_X7_thrown l D T b0 M' (M' 0 0) rfl) ⟨rfl, rfl⟩ (z_cwV C2 0 gL_law_X7_thrown rfl rfl dd_X7_thrown ⟨(Nat.le_of_ble_eq_true rfl), (Nat.le_of_ble_eq_true rfl)⟩) hD3 ⟨b0 99, [], 6, 0, _, _, rfl, rfl, rfl, rfl, rfl⟩ rfl (Nat.le_of_ble_eq_true rfl) dL_law_460 463 rfl ?_
  refine z_iload C2 dL_law_463 5 rfl 465 rfl ?_
  have hfin : zt p l e room_1 s m #[Value.ref b] below meth c 7 (fun q : Nat => s.heap.size ≤ q) D (cells + 1) (slots + 6) Q ((wX6 a0 a1 a2 a3 a4 a5 a6 a7 a8 a9 ++ (wX4 T a1 S1 ++ (wX1 T a2 S2 ++ (wX1 T a3 S3 ++ (wX0 T a4 S4 ++ (wX5 T a5 S5 ++ (wX5 T a6 S6 ++ (wX5 T a7 S7 ++ (wX5 T a8 S8 ++ wX3 T a9 S9))))))))) ++ (wX7 T b0 M' ++ wJ cJ q f')) [(0, .ref b), (1, .ref (a0 99)), (2, .ref (b0 99)), (3, .ref q), (4, .int (nI (6 * j))), (5, .int r), (6, .int x)] 487 [] := z_goto C2 1019 dL_law_487 (by decide) (z_locals (ks := [0, 1, 2, 3, 4]) rfl (KK K a0 a1 a2 a3 a4 a5 a6 a7 a8 a9 b0 S1 S2 S3 S4 S5 S6 S7 S8 S9 M' q f' _ _ hI' hD3 (by omega) (by omega)))
  have hmr : M' 0 0 = r := by
    rcases h5 with ⟨z1, z2⟩ | ⟨z1, z2⟩ <;> rcases hr with ⟨v, y1, y2, y3⟩ | ⟨y1, y2⟩
    · rw [z1] at y1; cases y1
    · rw [z2, y2]
    · rw [z2, y2]
    · rw [z1] at y1; cases y1
  refine z_icmp_eq (X := some ()) (Y := none) (ex := ()) C2 470 dL_law_465 (by decide) 468 rfl (if_pos hmr) (fun _ => ?_) (fun h => nomatch h)
  refine z_iload C2 dL_law_470 5 rfl 472 rfl ?_
  by_cases hr0 : r = 0
  · refine z_if_ne (X := none) (Y := some ()) (ex := ()) C2 487 dL_law_472 (by decide) 475 rfl (if_pos hr0) (fun h => nomatch h) (fun _ => ?_)
    have hf : f' 0 = x.toInt64 := by
      rcases h5 with ⟨z1, z2⟩ | ⟨z1, z2⟩ <;> rcases hr with ⟨v, y1, y2, y3⟩ | ⟨y1, y2⟩
      · rw [z1] at y1; cases y1
      · rw [hr0] at y2; exact absurd y2 (by decide)
      · rw [z1] at y1; cases y1; exact y3
      · rw [z1] at y1; cases y1
    refine z_aload_n C2 dL_law_475 rfl 3 rfl 476 rfl ?_
    refine z_iconst C2 0 dL_law_476 (by decide) 477 rfl ?_
    intro H locs ls hP hS hl
    refine va_lald (D := D) C2.1.1 C2.1.2.1 hKJ hP 52 0 rfl rfl (vp_in_nI (n := 0) (by decide) (by decide)) dL_law_477 ?_
    refine lv_iload C2.1.1 C2.1.2.1 dL_law_478 (lv_at hl 6 rfl) ?_
    refine lv_i2l C2.1.1 C2.1.2.1 dL_law_480 rfl ?_
    refine W.lcmp C2.1.1 C2.1.2.1 dL_law_481 ?_
    exact lv_if_eq (tgt := 487) C2.1.1 C2.1.2.1 dL_law_482 (by decide) (fun _ => hfin H locs ls hP hS hl) (fun h => absurd ((lg_cmp_eq _ _).mpr hf) h)
  · refine z_if_ne (X := some ()) (Y := none) (ex := ()) C2 487 dL_law_472 (by decide) 475 rfl (if_neg hr0) (fun _ => hfin) (fun h => nomatch h)
end LWC
