/-! the cases of the law's switch -/
section LWC
variable {p : Program} {l : Launch} {e : Env} {s : State} {m : MethodId} {below : List Frame} {meth : Method} {c : Code} {Q : State → Prop} {D : va_G} {T : Nat → ClassId} {adK adV : Nat → Nat} {b L sa : Nat} {xs : Nat → Int32} {cJ : ClassId}
set_option maxHeartbeats 4000000 in
set_option maxRecDepth 100000 in
theorem lw_rock {j : Nat} {K : Nat → Nat → Nat} {a0 a1 a2 a3 a4 a5 a6 a7 a8 a9 b0 : Nat → Nat} {S1 S2 S3 S4 S5 S6 S7 S8 S9 M : Nat → Nat → Int32} {q : Nat} {f : Nat → Int64} {cells slots : Nat} (C0 : lwC p s m meth c D T adK adV b L sa xs cJ) (hj : 6 * j + 6 ≤ L) (hI : ivK K S1 S2 S4 S5 S6 S7 S8 M) (hD : va_D (fun q : Nat => s.heap.size ≤ q) ((wX6 a0 a1 a2 a3 a4 a5 a6 a7 a8 a9 ++ (wX4 T a1 S1 ++ (wX1 T a2 S2 ++ (wX1 T a3 S3 ++ (wX0 T a4 S4 ++ (wX5 T a5 S5 ++ (wX5 T a6 S6 ++ (wX5 T a7 S7 ++ (wX5 T a8 S8 ++ wX3 T a9 S9))))))))) ++ (wX7 T b0 M ++ wJ cJ q f))) (hc : cells + 5 * tpL S1 ≤ 53 + 106 * j) (hs : slots + 25 * tpL S1 ≤ 98797 + 600 * j) (KK : lwG p l e s m below meth c Q D T b cJ j) : zt p l e room_1 s m #[Value.ref b] below meth c 7 (fun q : Nat => s.heap.size ≤ q) D cells slots Q ((wX6 a0 a1 a2 a3 a4 a5 a6 a7 a8 a9 ++ (wX4 T a1 S1 ++ (wX1 T a2 S2 ++ (wX1 T a3 S3 ++ (wX0 T a4 S4 ++ (wX5 T a5 S5 ++ (wX5 T a6 S6 ++ (wX5 T a7 S7 ++ (wX5 T a8 S8 ++ wX3 T a9 S9))))))))) ++ (wX7 T b0 M ++ wJ cJ q f)) [(0, .ref b), (1, .ref (a0 99)), (2, .ref (b0 99)), (3, .ref q), (4, .int (nI (6 * j)))] 320 [] := by
  obtain ⟨C1, hXs, hbl, hL, hE, hX, hKJ⟩ := C0
  have hbA : ¬ (fun q : Nat => s.heap.size ≤ q) b := Nat.not_le.mpr hbl
  have hA : ∀ q : Nat, s.heap.size ≤ q → (fun q : Nat => s.heap.size ≤ q) q := fun _ h => h
  have C := C1 cells slots (by omega) (by omega)
  by_cases h3 : (sv xs (6 * j) 3) = 0
  · obtain ⟨x, S2', S4', S5', S6', S7', S8', M', h1, h2, h0, K', hI'⟩ := m_rock (S3 := S3) (S9 := S9) hI (sv xs (6 * j) 1) (sv xs (6 * j) 2) 0 (by decide)
    refine z_aload_n C dL_law_320 rfl 1 rfl 321 rfl ?_
    refine z_sarg (z := 1) 1 C hXs hbl hbA (lw_in hL hj 1 (by decide)) (by decide) rfl rfl dL_law_321 dL_law_322 dL_law_324 dL_law_325 dL_law_326 327 rfl ?_
    refine z_sarg (z := 2) 2 C hXs hbl hbA (lw_in hL hj 2 (by decide)) (by decide) rfl rfl dL_law_327 dL_law_328 dL_law_330 dL_law_331 dL_law_332 333 rfl ?_
    refine z_sarg (z := 3) 3 C hXs hbl hbA (lw_in hL hj 3 (by decide)) (by decide) rfl rfl dL_law_333 dL_law_334 dL_law_336 dL_law_337 dL_law_338 339 rfl ?_
    refine z_if_eq (X := some ()) (Y := none) (ex := ()) C 346 dL_law_339 (by decide) 342 rfl (if_pos h3) (fun _ => ?_) (fun h => nomatch h)
    refine z_iconst C 0 dL_law_346 (by decide) 347 rfl ?_
    refine z_callL C (c_X6_rock l D T a0 a1 a2 a3 a4 a5 a6 a7 a8 a9 S1 S2 S3 S4 S5 S6 S7 S8 S9 (sv xs (6 * j) 1) (sv xs (6 * j) 2) 0 (x, S2', S4', S5', S6', S7', S8') h1) ⟨rfl, rfl⟩ (z_cwV C 3 gL_law_X6_rock rfl rfl dd_X6_rock ⟨(Nat.le_of_ble_eq_true rfl), (Nat.le_of_ble_eq_true rfl)⟩) hD ⟨a0 99, [.int (sv xs (6 * j) 1), .int (sv xs (6 * j) 2), .int 0], 5, 0, _, _, rfl, rfl, rfl, rfl, rfl⟩ rfl (Nat.le_of_ble_eq_true rfl) dL_law_347 350 rfl ?_
    have hD1 : va_D (fun q : Nat => s.heap.size ≤ q) ((wX6 a0 a1 a2 a3 a4 a5 a6 a7 a8 a9 ++ (wX4 T a1 S1 ++ (wX1 T a2 S2' ++ (wX1 T a3 S3 ++ (wX0 T a4 S4' ++ (wX5 T a5 S5' ++ (wX5 T a6 S6' ++ (wX5 T a7 S7' ++ (wX5 T a8 S8' ++ wX3 T a9 S9))))))))) ++ (wX7 T b0 M ++ wJ cJ q f)) := hD.zaddr rfl
    refine z_aload_n C dL_law_350 rfl 2 rfl 351 rfl ?_
    refine z_sarg (z := 1) 1 C hXs hbl hbA (lw_in hL hj 1 (by decide)) (by decide) rfl rfl dL_law_351 dL_law_352 dL_law_354 dL_law_355 dL_law_356 357 rfl ?_
    refine z_sarg (z := 2) 2 C hXs hbl hbA (lw_in hL hj 2 (by decide)) (by decide) rfl rfl dL_law_357 dL_law_358 dL_law_360 dL_law_361 dL_law_362 363 rfl ?_
    refine z_sarg (z := 3) 3 C hXs hbl hbA (lw_in hL hj 3 (by decide)) (by decide) rfl rfl dL_law_363 dL_law_364 dL_law_366 dL_law_367 dL_law_368 369 rfl ?_
    refine z_if_eq (X := some ()) (Y := none) (ex := ()) C 376 dL_law_369 (by decide) 372 rfl (if_pos h3) (fun _ => ?_) (fun h => nomatch h)
    refine z_iconst C 0 dL_law_376 (by decide) 377 rfl ?_
    refine z_callM (wa := (wX6 a0 a1 a2 a3 a4 a5 a6 a7 a8 a9 ++ (wX4 T a1 S1 ++ (wX1 T a2 S2' ++ (wX1 T a3 S3 ++ (wX0 T a4 S4' ++ (wX5 T a5 S5' ++ (wX5 T a6 S6' ++ (wX5 T a7 S7' ++ (wX5 T a8 S8' ++ wX3 T a9 S9)))))))))) C (c_X7_rock l D T b0 M (sv xs (6 * j) 1) (sv xs (6 * j) 2) 0 (x, M') h2) ⟨rfl, rfl⟩ (z_cwV C 3 gL_law_X7_rock rfl rfl dd_X7_rock ⟨(Nat.le_of_ble_eq_true rfl), (Nat.le_of_ble_eq_true rfl)⟩) hD1 ⟨b0 99, [.int (sv xs (6 * j) 1), .int (sv xs (6 * j) 2), .int 0], 6, 0, _, _, rfl, rfl, rfl, rfl, rfl⟩ rfl (Nat.le_of_ble_eq_true rfl) dL_law_377 380 rfl ?_
    refine z_icmp_eq (X := some ()) (Y := none) (ex := ()) C 1019 dL_law_380 (by decide) 383 rfl (if_pos rfl) (fun _ => ?_) (fun h => nomatch h)
    exact KK K' a0 a1 a2 a3 a4 a5 a6 a7 a8 a9 b0 S1 S2' S3 S4' S5' S6' S7' S8' S9 M' q f cells slots hI' (hD.zaddr rfl) (by omega) (by omega)
  · obtain ⟨x, S2', S4', S5', S6', S7', S8', M', h1, h2, h0, K', hI'⟩ := m_rock (S3 := S3) (S9 := S9) hI (sv xs (6 * j) 1) (sv xs (6 * j) 2) 1 (by decide)
    refine z_aload_n C dL_law_320 rfl 1 rfl 321 rfl ?_
    refine z_sarg (z := 1) 1 C hXs hbl hbA (lw_in hL hj 1 (by decide)) (by decide) rfl rfl dL_law_321 dL_law_322 dL_law_324 dL_law_325 dL_law_326 327 rfl ?_
    refine z_sarg (z := 2) 2 C hXs hbl hbA (lw_in hL hj 2 (by decide)) (by decide) rfl rfl dL_law_327 dL_law_328 dL_law_330 dL_law_331 dL_law_332 333 rfl ?_
    refine z_sarg (z := 3) 3 C hXs hbl hbA (lw_in hL hj 3 (by decide)) (by decide) rfl rfl dL_law_333 dL_law_334 dL_law_336 dL_law_337 dL_law_338 339 rfl ?_
    refine z_if_eq (X := none) (Y := some ()) (ex := ()) C 346 dL_law_339 (by decide) 342 rfl (if_neg h3) (fun h => nomatch h) (fun _ => ?_)
    refine z_iconst C 1 dL_law_342 (by decide) 343 rfl ?_
    refine z_goto C 347 dL_law_343 (by decide) ?_
    refine z_callL C (c_X6_rock l D T a0 a1 a2 a3 a4 a5 a6 a7 a8 a9 S1 S2 S3 S4 S5 S6 S7 S8 S9 (sv xs (6 * j) 1) (sv xs (6 * j) 2) 1 (x, S2', S4', S5', S6', S7', S8') h1) ⟨rfl, rfl⟩ (z_cwV C 3 gL_law_X6_rock rfl rfl dd_X6_rock ⟨(Nat.le_of_ble_eq_true rfl), (Nat.le_of_ble_eq_true rfl)⟩) hD ⟨a0 99, [.int (sv xs (6 * j) 1), .int (sv xs (6 * j) 2), .int 1], 5, 0, _, _, rfl, rfl, rfl, rfl, rfl⟩ rfl (Nat.le_of_ble_eq_true rfl) dL_law_347 350 rfl ?_
    have hD1 : va_D (fun q : Nat => s.heap.size ≤ q) ((wX6 a0 a1 a2 a3 a4 a5 a6 a7 a8 a9 ++ (wX4 T a1 S1 ++ (wX1 T a2 S2' ++ (wX1 T a3 S3 ++ (wX0 T a4 S4' ++ (wX5 T a5 S5' ++ (wX5 T a6 S6' ++ (wX5 T a7 S7' ++ (wX5 T a8 S8' ++ wX3 T a9 S9))))))))) ++ (wX7 T b0 M ++ wJ cJ q f)) := hD.zaddr rfl
    refine z_aload_n C dL_law_350 rfl 2 rfl 351 rfl ?_
    refine z_sarg (z := 1) 1 C hXs hbl hbA (lw_in hL hj 1 (by decide)) (by decide) rfl rfl dL_law_351 dL_law_352 dL_law_354 dL_law_355 dL_law_356 357 rfl ?_
    refine z_sarg (z := 2) 2 C hXs hbl hbA (lw_in hL hj 2 (by decide)) (by decide) rfl rfl dL_law_357 dL_law_358 dL_law_360 dL_law_361 dL_law_362 363 rfl ?_
    refine z_sarg (z := 3) 3 C hXs hbl hbA (lw_in hL hj 3 (by decide)) (by decide) rfl rfl dL_law_363 dL_law_364 dL_law_366 dL_law_367 dL_law_368 369 rfl ?_
    refine z_if_eq (X := none) (Y := some ()) (ex := ()) C 376 dL_law_369 (by decide) 372 rfl (if_neg h3) (fun h => nomatch h) (fun _ => ?_)
    refine z_iconst C 1 dL_law_372 (by decide) 373 rfl ?_
    refine z_goto C 377 dL_law_373 (by decide) ?_
    refine z_callM (wa := (wX6 a0 a1 a2 a3 a4 a5 a6 a7 a8 a9 ++ (wX4 T a1 S1 ++ (wX1 T a2 S2' ++ (wX1 T a3 S3 ++ (wX0 T a4 S4' ++ (wX5 T a5 S5' ++ (wX5 T a6 S6' ++ (wX5 T a7 S7' ++ (wX5 T a8 S8' ++ wX3 T a9 S9)))))))))) C (c_X7_rock l D T b0 M (sv xs (6 * j) 1) (sv xs (6 * j) 2) 1 (x, M') h2) ⟨rfl, rfl⟩ (z_cwV C 3 gL_law_X7_rock rfl rfl dd_X7_rock ⟨(Nat.le_of_ble_eq_true rfl), (Nat.le_of_ble_eq_true rfl)⟩) hD1 ⟨b0 99, [.int (sv xs (6 * j) 1), .int (sv xs (6 * j) 2), .int 1], 6, 0, _, _, rfl, rfl, rfl, rfl, rfl⟩ rfl (Nat.le_of_ble_eq_true rfl) dL_law_377 380 rfl ?_
    refine z_icmp_eq (X := some ()) (Y := none) (ex := ()) C 1019 dL_law_380 (by decide) 383 rfl (if_pos rfl) (fun _ => ?_) (fun h => nomatch h)
    exact KK K' a0 a1 a2 a3 a4 a5 a6 a7 a8 a9 b0 S1 S2' S3 S4' S5' S6' S7' S8' S9 M' q f cells slots hI' (hD.zaddr rfl) (by omega) (by omega)
end LWC
