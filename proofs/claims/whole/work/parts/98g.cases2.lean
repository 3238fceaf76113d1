/-! the cases of the law's switch -/
section LWC
variable {p : Program} {l : Launch} {e : Env} {s : State} {m : MethodId} {below : List Frame} {meth : Method} {c : Code} {Q : State → Prop} {D : va_G} {T : Nat → ClassId} {adK adV : Nat → Nat} {b L sa : Nat} {xs : Nat → Int32} {cJ : ClassId}
set_option maxHeartbeats 4000000 in
set_option maxRecDepth 100000 in
theorem lw_width {j : Nat} {K : Nat → Nat → Nat} {a0 a1 a2 a3 a4 a5 a6 a7 a8 a9 b0 : Nat → Nat} {S1 S2 S3 S4 S5 S6 S7 S8 S9 M : Nat → Nat → Int32} {q : Nat} {f : Nat → Int64} {cells slots : Nat} (C0 : lwC p s m meth c D T adK adV b L sa xs cJ) (hj : 6 * j + 6 ≤ L) (hI : ivK K S1 S2 S4 S5 S6 S7 S8 M) (hD : va_D (fun q : Nat => s.heap.size ≤ q) ((wX6 a0 a1 a2 a3 a4 a5 a6 a7 a8 a9 ++ (wX4 T a1 S1 ++ (wX1 T a2 S2 ++ (wX1 T a3 S3 ++ (wX0 T a4 S4 ++ (wX5 T a5 S5 ++ (wX5 T a6 S6 ++ (wX5 T a7 S7 ++ (wX5 T a8 S8 ++ wX3 T a9 S9))))))))) ++ (wX7 T b0 M ++ wJ cJ q f))) (hc : cells + 5 * tpL S1 ≤ 53 + 106 * j) (hs : slots + 25 * tpL S1 ≤ 98797 + 600 * j) (KK : lwG p l e s m below meth c Q D T b cJ j) : zt p l e room_1 s m #[Value.ref b] below meth c 7 (fun q : Nat => s.heap.size ≤ q) D cells slots Q ((wX6 a0 a1 a2 a3 a4 a5 a6 a7 a8 a9 ++ (wX4 T a1 S1 ++ (wX1 T a2 S2 ++ (wX1 T a3 S3 ++ (wX0 T a4 S4 ++ (wX5 T a5 S5 ++ (wX5 T a6 S6 ++ (wX5 T a7 S7 ++ (wX5 T a8 S8 ++ wX3 T a9 S9))))))))) ++ (wX7 T b0 M ++ wJ cJ q f)) [(0, .ref b), (1, .ref (a0 99)), (2, .ref (b0 99)), (3, .ref q), (4, .int (nI (6 * j)))] 515 [] := by
  obtain ⟨C1, hXs, hbl, hL, hE, hX, hKJ⟩ := C0
  have hbA : ¬ (fun q : Nat => s.heap.size ≤ q) b := Nat.not_le.mpr hbl
  have hA : ∀ q : Nat, s.heap.size ≤ q → (fun q : Nat => s.heap.size ≤ q) q := fun _ h => h
  have C := C1 cells slots (by omega) (by omega)
  obtain ⟨x, S4', S5', S6', S7', S8', M', h1, h2, h0, hI'⟩ := m_width (S3 := S3) (S9 := S9) hI (sv xs (6 * j) 1) (sv xs (6 * j) 2) (sv xs (6 * j) 3)
  refine z_aload_n C dL_law_515 rfl 1 rfl 516 rfl ?_
  refine z_sarg (z := 1) 1 C hXs hbl hbA (lw_in hL hj 1 (by decide)) (by decide) rfl rfl dL_law_516 dL_law_517 dL_law_519 dL_law_520 dL_law_521 522 rfl ?_
  refine z_sarg (z := 2) 2 C hXs hbl hbA (lw_in hL hj 2 (by decide)) (by decide) rfl rfl dL_law_522 dL_law_523 dL_law_525 dL_law_526 dL_law_527 528 rfl ?_
  refine z_sarg (z := 3) 3 C hXs hbl hbA (lw_in hL hj 3 (by decide)) (by decide) rfl rfl dL_law_528 dL_law_529 dL_law_531 dL_law_532 dL_law_533 534 rfl ?_
  refine z_callL C (c_X6_width l D T a0 a1 a2 a3 a4 a5 a6 a7 a8 a9 S1 S2 S3 S4 S5 S6 S7 S8 S9 (sv xs (6 * j) 1) (sv xs (6 * j) 2) (sv xs (6 * j) 3) (x, S4', S5', S6', S7', S8') h1) ⟨rfl, rfl⟩ (z_cwV C 3 gL_law_X6_width rfl rfl dd_X6_width ⟨(Nat.le_of_ble_eq_true rfl), (Nat.le_of_ble_eq_true rfl)⟩) hD ⟨a0 99, [.int (sv xs (6 * j) 1), .int (sv xs (6 * j) 2), .int (sv xs (6 * j) 3)], 5, 0, _, _, rfl, rfl, rfl, rfl, rfl⟩ rfl (Nat.le_of_ble_eq_true rfl) dL_law_534 537 rfl ?_
  have hD1 : va_D (fun q : Nat => s.heap.size ≤ q) ((wX6 a0 a1 a2 a3 a4 a5 a6 a7 a8 a9 ++ (wX4 T a1 S1 ++ (wX1 T a2 S2 ++ (wX1 T a3 S3 ++ (wX0 T a4 S4' ++ (wX5 T a5 S5' ++ (wX5 T a6 S6' ++ (wX5 T a7 S7' ++ (wX5 T a8 S8' ++ wX3 T a9 S9))))))))) ++ (wX7 T b0 M ++ wJ cJ q f)) := hD.zaddr rfl
  refine z_aload_n C dL_law_537 rfl 2 rfl 538 rfl ?_
  refine z_sarg (z := 1) 1 C hXs hbl hbA (lw_in hL hj 1 (by decide)) (by decide) rfl rfl dL_law_538 dL_law_539 dL_law_541 dL_law_542 dL_law_543 544 rfl ?_
  refine z_sarg (z := 2) 2 C hXs hbl hbA (lw_in hL hj 2 (by decide)) (by decide) rfl rfl dL_law_544 dL_law_545 dL_law_547 dL_law_548 dL_law_549 550 rfl ?_
  refine z_sarg (z := 3) 3 C hXs hbl hbA (lw_in hL hj 3 (by decide)) (by decide) rfl rfl dL_law_550 dL_law_551 dL_law_553 dL_law_554 dL_law_555 556 rfl ?_
  refine z_callM (wa := (wX6 a0 a1 a2 a3 a4 a5 a6 a7 a8 a9 ++ (wX4 T a1 S1 ++ (wX1 T a2 S2 ++ (wX1 T a3 S3 ++ (wX0 T a4 S4' ++ (wX5 T a5 S5' ++ (wX5 T a6 S6' ++ (wX5 T a7 S7' ++ (wX5 T a8 S8' ++ wX3 T a9 S9)))))))))) C (c_X7_width l D T b0 M (sv xs (6 * j) 1) (sv xs (6 * j) 2) (sv xs (6 * j) 3) (x, M') h2) ⟨rfl, rfl⟩ (z_cwV C 3 gL_law_X7_width rfl rfl dd_X7_width ⟨(Nat.le_of_ble_eq_true rfl), (Nat.le_of_ble_eq_true rfl)⟩) hD1 ⟨b0 99, [.int (sv xs (6 * j) 1), .int (sv xs (6 * j) 2), .int (sv xs (6 * j) 3)], 6, 0, _, _, rfl, rfl, rfl, rfl, rfl⟩ rfl (Nat.le_of_ble_eq_true rfl) dL_law_556 559 rfl ?_
  refine z_icmp_eq (X := some ()) (Y := none) (ex := ()) C 1019 dL_law_559 (by decide) 562 rfl (if_pos rfl) (fun _ => ?_) (fun h => nomatch h)
  exact KK K a0 a1 a2 a3 a4 a5 a6 a7 a8 a9 b0 S1 S2 S3 S4' S5' S6' S7' S8' S9 M' q f cells slots hI' (hD.zaddr rfl) (by omega) (by omega)

set_option maxHeartbeats 4000000 in
set_option maxRecDepth 100000 in
theorem lw_step {j : Nat} {K : Nat → Nat → Nat} {a0 a1 a2 a3 a4 a5 a6 a7 a8 a9 b0 : Nat → Nat} {S1 S2 S3 S4 S5 S6 S7 S8 S9 M : Nat → Nat → Int32} {q : Nat} {f : Nat → Int64} {cells slots : Nat} (C0 : lwC p s m meth c D T adK adV b L sa xs cJ) (hj : 6 * j + 6 ≤ L) (hI : ivK K S1 S2 S4 S5 S6 S7 S8 M) (hD : va_D (fun q : Nat => s.heap.size ≤ q) ((wX6 a0 a1 a2 a3 a4 a5 a6 a7 a8 a9 ++ (wX4 T a1 S1 ++ (wX1 T a2 S2 ++ (wX1 T a3 S3 ++ (wX0 T a4 S4 ++ (wX5 T a5 S5 ++ (wX5 T a6 S6 ++ (wX5 T a7 S7 ++ (wX5 T a8 S8 ++ wX3 T a9 S9))))))))) ++ (wX7 T b0 M ++ wJ cJ q f))) (hc : cells + 5 * tpL S1 ≤ 53 + 106 * j) (hs : slots + 25 * tpL S1 ≤ 98797 + 600 * j) (KK : lwG p l e s m below meth c Q D T b cJ j) : zt p l e room_1 s m #[Value.ref b] below meth c 7 (fun q : Nat => s.heap.size ≤ q) D cells slots Q ((wX6 a0 a1 a2 a3 a4 a5 a6 a7 a8 a9 ++ (wX4 T a1 S1 ++ (wX1 T a2 S2 ++ (wX1 T a3 S3 ++ (wX0 T a4 S4 ++ (wX5 T a5 S5 ++ (wX5 T a6 S6 ++ (wX5 T a7 S7 ++ (wX5 T a8 S8 ++ wX3 T a9 S9))))))))) ++ (wX7 T b0 M ++ wJ cJ q f)) [(0, .ref b), (1, .ref (a0 99)), (2, .ref (b0 99)), (3, .ref q), (4, .int (nI (6 * j)))] 564 [] := by
  obtain ⟨C1, hXs, hbl, hL, hE, hX, hKJ⟩ := C0
  have hbA : ¬ (fun q : Nat => s.heap.size ≤ q) b := Nat.not_le.mpr hbl
  have hA : ∀ q : Nat, s.heap.size ≤ q → (fun q : Nat => s.heap.size ≤ q) q := fun _ h => h
  have C := C1 cells slots (by omega) (by omega)
  obtain ⟨x, S4', S5', S6', S7', S8', M', h1, h2, h0, hI'⟩ := m_step (S3 := S3) (S9 := S9) hI (sv xs (6 * j) 1) (sv xs (6 * j) 2) (sv xs (6 * j) 3)
  refine z_aload_n C dL_law_564 rfl 1 rfl 565 rfl ?_
  refine z_sarg (z := 1) 1 C hXs hbl hbA (lw_in hL hj 1 (by decide)) (by decide) rfl rfl dL_law_565 dL_law_566 dL_law_568 dL_law_569 dL_law_570 571 rfl ?_
  refine z_sarg (z := 2) 2 C hXs hbl hbA (lw_in hL hj 2 (by decide)) (by decide) rfl rfl dL_law_571 dL_law_572 dL_law_574 dL_law_575 dL_law_576 577 rfl ?_
  refine z_sarg (z := 3) 3 C hXs hbl hbA (lw_in hL hj 3 (by decide)) (by decide) rfl rfl dL_law_577 dL_law_578 dL_law_580 dL_law_581 dL_law_582 583 rfl ?_
  refine z_callL C (c_X6_step l D T a0 a1 a2 a3 a4 a5 a6 a7 a8 a9 S1 S2 S3 S4 S5 S6 S7 S8 S9 (sv xs (6 * j) 1) (sv xs (6 * j) 2) (sv xs (6 * j) 3) (x, S4', S5', S6', S7', S8') h1) ⟨rfl, rfl⟩ (z_cwV C 3 gL_law_X6_step rfl rfl dd_X6_step ⟨(Nat.le_of_ble_eq_true rfl), (Nat.le_of_ble_eq_true rfl)⟩) hD ⟨a0 99, [.int (sv xs (6 * j) 1), .int (sv xs (6 * j) 2), .int (sv xs (6 * j) 3)], 5, 0, _, _, rfl, rfl, rfl, rfl, rfl⟩ rfl (Nat.le_of_ble_eq_true rfl) dL_law_583 586 rfl ?_
  have hD1 : va_D (fun q : Nat => s.heap.size ≤ q) ((wX6 a0 a1 a2 a3 a4 a5 a6 a7 a8 a9 ++ (wX4 T a1 S1 ++ (wX1 T a2 S2 ++ (wX1 T a3 S3 ++ (wX0 T a4 S4' ++ (wX5 T a5 S5' ++ (wX5 T a6 S6' ++ (wX5 T a7 S7' ++ (wX5 T a8 S8' ++ wX3 T a9 S9))))))))) ++ (wX7 T b0 M ++ wJ cJ q f)) := hD.zaddr rfl
  refine z_aload_n C dL_law_586 rfl 2 rfl 587 rfl ?_
  refine z_sarg (z := 1) 1 C hXs hbl hbA (lw_in hL hj 1 (by decide)) (by decide) rfl rfl dL_law_587 dL_law_588 dL_law_590 dL_law_591 dL_law_592 593 rfl ?_
  refine z_sarg (z := 2) 2 C hXs hbl hbA (lw_in hL hj 2 (by decide)) (by decide) rfl rfl dL_law_593 dL_law_594 dL_law_596 dL_law_597 dL_law_598 599 rfl ?_
  refine z_sarg (z := 3) 3 C hXs hbl hbA (lw_in hL hj 3 (by decide)) (by decide) rfl rfl dL_law_599 dL_law_600 dL_law_602 dL_law_603 dL_law_604 605 rfl ?_
  refine z_callM (wa := (wX6 a0 a1 a2 a3 a4 a5 a6 a7 a8 a9 ++ (wX4 T a1 S1 ++ (wX1 T a2 S2 ++ (wX1 T a3 S3 ++ (wX0 T a4 S4' ++ (wX5 T a5 S5' ++ (wX5 T a6 S6' ++ (wX5 T a7 S7' ++ (wX5 T a8 S8' ++ wX3 T a9 S9)))))))))) C (c_X7_step l D T b0 M (sv xs (6 * j) 1) (sv xs (6 * j) 2) (sv xs (6 * j) 3) (x, M') h2) ⟨rfl, rfl⟩ (z_cwV C 3 gL_law_X7_step rfl rfl dd_X7_step ⟨(Nat.le_of_ble_eq_true rfl), (Nat.le_of_ble_eq_true rfl)⟩) hD1 ⟨b0 99, [.int (sv xs (6 * j) 1), .int (sv xs (6 * j) 2), .int (sv xs (6 * j) 3)], 6, 0, _, _, rfl, rfl, rfl, rfl, rfl⟩ rfl (Nat.le_of_ble_eq_true rfl) dL_law_605 608 rfl ?_
  refine z_icmp_eq (X := some ()) (Y := none) (ex := ()) C 1019 dL_law_608 (by decide) 611 rfl (if_pos rfl) (fun _ => ?_) (fun h => nomatch h)
  exact KK K a0 a1 a2 a3 a4 a5 a6 a7 a8 a9 b0 S1 S2 S3 S4' S5' S6' S7' S8' S9 M' q f cells slots hI' (hD.zaddr rfl) (by omega) (by omega)

set_option maxHeartbeats 4000000 in
set_option maxRecDepth 100000 in
theorem lw_join {j : Nat} {K : Nat → Nat → Nat} {a0 a1 a2 a3 a4 a5 a6 a7 a8 a9 b0 : Nat → Nat} {S1 S2 S3 S4 S5 S6 S7 S8 S9 M : Nat → Nat → Int32} {q : Nat} {f : Nat → Int64} {cells slots : Nat} (C0 : lwC p s m meth c D T adK adV b L sa xs cJ) (hj : 6 * j + 6 ≤ L) (hI : ivK K S1 S2 S4 S5 S6 S7 S8 M) (hD : va_D (fun q : Nat => s.heap.size ≤ q) ((wX6 a0 a1 a2 a3 a4 a5 a6 a7 a8 a9 ++ (wX4 T a1 S1 ++ (wX1 T a2 S2 ++ (wX1 T a3 S3 ++ (wX0 T a4 S4 ++ (wX5 T a5 S5 ++ (wX5 T a6 S6 ++ (wX5 T a7 S7 ++ (wX5 T a8 S8 ++ wX3 T a9 S9))))))))) ++ (wX7 T b0 M ++ wJ cJ q f))) (hc : cells + 5 * tpL S1 ≤ 53 + 106 * j) (hs : slots + 25 * tpL S1 ≤ 98797 + 600 * j) (KK : lwG p l e s m below meth c Q D T b cJ j) : zt p l e room_1 s m #[Value.ref b] below meth c 7 (fun q : Nat => s.heap.size ≤ q) D cells slots Q ((wX6 a0 a1 a2 a3 a4 a5 a6 a7 a8 a9 ++ (wX4 T a1 S1 ++ (wX1 T a2 S2 ++ (wX1 T a3 S3 ++ (wX0 T a4 S4 ++ (wX5 T a5 S5 ++ (wX5 T a6 S6 ++ (wX5 T a7 S7 ++ (wX5 T a8 S8 ++ wX3 T a9 S9))))))))) ++ (wX7 T b0 M ++ wJ cJ q f)) [(0, .ref b), (1, .ref (a0 99)), (2, .ref (b0 99)), (3, .ref q), (4, .int (nI (6 * j)))] 613 [] := by
  obtain ⟨C1, hXs, hbl, hL, hE, hX, hKJ⟩ := C0
  have hbA : ¬ (fun q : Nat => s.heap.size ≤ q) b := Nat.not_le.mpr hbl
  have hA : ∀ q : Nat, s.heap.size ≤ q → (fun q : Nat => s.heap.size ≤ q) q := fun _ h => h
  have C := C1 cells slots (by omega) (by omega)
  obtain ⟨x, S4', S5', S6', S7', S8', M', h1, h2, h0, hI'⟩ := m_join (S3 := S3) (S9 := S9) hI (sv xs (6 * j) 1) (sv xs (6 * j) 2) (sv xs (6 * j) 3)
  refine z_aload_n C dL_law_613 rfl 1 rfl 614 rfl ?_
  refine z_sarg (z := 1) 1 C hXs hbl hbA (lw_in hL hj 1 (by decide)) (by decide) rfl rfl dL_law_614 dL_law_615 dL_law_617 dL_law_618 dL_law_619 620 rfl ?_
  refine z_sarg (z := 2) 2 C hXs hbl hbA (lw_in hL hj 2 (by decide)) (by decide) rfl rfl dL_law_620 dL_law_621 dL_law_623 dL_law_624 dL_law_625 626 rfl ?_
  refine z_sarg (z := 3) 3 C hXs hbl hbA (lw_in hL hj 3 (by decide)) (by decide) rfl rfl dL_law_626 dL_law_627 dL_law_629 dL_law_630 dL_law_631 632 rfl ?_
  refine z_callL C (c_X6_join l D T a0 a1 a2 a3 a4 a5 a6 a7 a8 a9 S1 S2 S3 S4 S5 S6 S7 S8 S9 (sv xs (6 * j) 1) (sv xs (6 * j) 2) (sv xs (6 * j) 3) (x, S4', S5', S6', S7', S8') h1) ⟨rfl, rfl⟩ (z_cwV C 3 gL_law_X6_join rfl rfl dd_X6_join ⟨(Nat.le_of_ble_eq_true rfl), (Nat.le_of_ble_eq_true rfl)⟩) hD ⟨a0 99, [.int (sv xs (6 * j) 1), .int (sv xs (6 * j) 2), .int (sv xs (6 * j) 3)], 5, 0, _, _, rfl, rfl, rfl, rfl, rfl⟩ rfl (Nat.le_of_ble_eq_true rfl) dL_law_632 635 rfl ?_
  have hD1 : va_D (fun q : Nat => s.heap.size ≤ q) ((wX6 a0 a1 a2 a3 a4 a5 a6 a7 a8 a9 ++ (wX4 T a1 S1 ++ (wX1 T a2 S2 ++ (wX1 T a3 S3 ++ (wX0 T a4 S4' ++ (wX5 T a5 S5' ++ (wX5 T a6 S6' ++ (wX5 T a7 S7' ++ (wX5 T a8 S8' ++ wX3 T a9 S9))))))))) ++ (wX7 T b0 M ++ wJ cJ q f)) := hD.zaddr rfl
  refine z_aload_n C dL_law_635 rfl 2 rfl 636 rfl ?_
  refine z_sarg (z := 1) 1 C hXs hbl hbA (lw_in hL hj 1 (by decide)) (by decide) rfl rfl dL_law_636 dL_law_637 dL_law_639 dL_law_640 dL_law_641 642 rfl ?_
  refine z_sarg (z := 2) 2 C hXs hbl hbA (lw_in hL hj 2 (by decide)) (by decide) rfl rfl dL_law_642 dL_law_643 dL_law_645 dL_law_646 dL_law_647 648 rfl ?_
  refine z_sarg (z := 3) 3 C hXs hbl hbA (lw_in hL hj 3 (by decide)) (by decide) rfl rfl dL_law_648 dL_law_649 dL_law_651 dL_law_652 dL_law_653 654 rfl ?_
  refine z_callM (wa := (wX6 a0 a1 a2 a3 a4 a5 a6 a7 a8 a9 ++ (wX4 T a1 S1 ++ (wX1 T a2 S2 ++ (wX1 T a3 S3 ++ (wX0 T a4 S4' ++ (wX5 T a5 S5' ++ (wX5 T a6 S6' ++ (wX5 T a7 S7' ++ (wX5 T a8 S8' ++ wX3 T a9 S9)))))))))) C (c_X7_join l D T b0 M (sv xs (6 * j) 1) (sv xs (6 * j) 2) (sv xs (6 * j) 3) (x, M') h2) ⟨rfl, rfl⟩ (z_cwV C 3 gL_law_X7_join rfl rfl dd_X7_join ⟨(Nat.le_of_ble_eq_true rfl), (Nat.le_of_ble_eq_true rfl)⟩) hD1 ⟨b0 99, [.int (sv xs (6 * j) 1), .int (sv xs (6 * j) 2), .int (sv xs (6 * j) 3)], 6, 0, _, _, rfl, rfl, rfl, rfl, rfl⟩ rfl (Nat.le_of_ble_eq_true rfl) dL_law_654 657 rfl ?_
  refine z_icmp_eq (X := some ()) (Y := none) (ex := ()) C 1019 dL_law_657 (by decide) 660 rfl (if_pos rfl) (fun _ => ?_) (fun h => nomatch h)
  exact KK K a0 a1 a2 a3 a4 a5 a6 a7 a8 a9 b0 S1 S2 S3 S4' S5' S6' S7' S8' S9 M' q f cells slots hI' (hD.zaddr rfl) (by omega) (by omega)

set_option maxHeartbeats 4000000 in
set_option maxRecDepth 100000 in
theorem lw_drawn {j : Nat} {K : Nat → Nat → Nat} {a0 a1 a2 a3 a4 a5 a6 a7 a8 a9 b0 : Nat → Nat} {S1 S2 S3 S4 S5 S6 S7 S8 S9 M : Nat → Nat → Int32} {q : Nat} {f : Nat → Int64} {cells slots : Nat} (C0 : lwC p s m meth c D T adK adV b L sa xs cJ) (hj : 6 * j + 6 ≤ L) (hI : ivK K S1 S2 S4 S5 S6 S7 S8 M) (hD : va_D (fun q : Nat => s.heap.size ≤ q) ((wX6 a0 a1 a2 a3 a4 a5 a6 a7 a8 a9 ++ (wX4 T a1 S1 ++ (wX1 T a2 S2 ++ (wX1 T a3 S3 ++ (wX0 T a4 S4 ++ (wX5 T a5 S5 ++ (wX5 T a6 S6 ++ (wX5 T a7 S7 ++ (wX5 T a8 S8 ++ wX3 T a9 S9))))))))) ++ (wX7 T b0 M ++ wJ cJ q f))) (hc : cells + 5 * tpL S1 ≤ 53 + 106 * j) (hs : slots + 25 * tpL S1 ≤ 98797 + 600 * j) (KK : lwG p l e s m below meth c Q D T b cJ j) : zt p l e room_1 s m #[Value.ref b] below meth c 7 (fun q : Nat => s.heap.size ≤ q) D cells slots Q ((wX6 a0 a1 a2 a3 a4 a5 a6 a7 a8 a9 ++ (wX4 T a1 S1 ++ (wX1 T a2 S2 ++ (wX1 T a3 S3 ++ (wX0 T a4 S4 ++ (wX5 T a5 S5 ++ (wX5 T a6 S6 ++ (wX5 T a7 S7 ++ (wX5 T a8 S8 ++ wX3 T a9 S9))))))))) ++ (wX7 T b0 M ++ wJ cJ q f)) [(0, .ref b), (1, .ref (a0 99)), (2, .ref (b0 99)), (3, .ref q), (4, .int (nI (6 * j)))] 662 [] := by
  obtain ⟨C1, hXs, hbl, hL, hE, hX, hKJ⟩ := C0
  have hbA : ¬ (fun q : Nat => s.heap.size ≤ q) b := Nat.not_le.mpr hbl
  have hA : ∀ q : Nat, s.heap.size ≤ q → (fun q : Nat => s.heap.size ≤ q) q := fun _ h => h
  have C := C1 cells slots (by omega) (by omega)
  obtain ⟨x, S4', S5', S6', S7', S8', M', h1, h2, h0, hI'⟩ := m_drawn (S3 := S3) (S9 := S9) hI (sv xs (6 * j) 1) (sv xs (6 * j) 2)
  refine z_aload_n C dL_law_662 rfl 1 rfl 663 rfl ?_
  refine z_sarg (z := 1) 1 C hXs hbl hbA (lw_in hL hj 1 (by decide)) (by decide) rfl rfl dL_law_663 dL_law_664 dL_law_666 dL_law_667 dL_law_668 669 rfl ?_
  refine z_sarg (z := 2) 2 C hXs hbl hbA (lw_in hL hj 2 (by decide)) (by decide) rfl rfl dL_law_669 dL_law_670 dL_law_672 dL_law_673 dL_law_674 675 rfl ?_
  refine z_callL C (c_X6_drawn l D T a0 a1 a2 a3 a4 a5 a6 a7 a8 a9 S1 S2 S3 S4 S5 S6 S7 S8 S9 (sv xs (6 * j) 1) (sv xs (6 * j) 2) (x, S4', S5', S6', S7', S8') h1) ⟨rfl, rfl⟩ (z_cwV C 2 gL_law_X6_drawn rfl rfl dd_X6_drawn ⟨(Nat.le_of_ble_eq_true rfl), (Nat.le_of_ble_eq_true rfl)⟩) hD ⟨a0 99, [.int (sv xs (6 * j) 1), .int (sv xs (6 * j) 2)], 5, 0, _, _, rfl, rfl, rfl, rfl, rfl⟩ rfl (Nat.le_of_ble_eq_true rfl) dL_law_675 678 rfl ?_
  have hD1 : va_D (fun q : Nat => s.heap.size ≤ q) ((wX6 a0 a1 a2 a3 a4 a5 a6 a7 a8 a9 ++ (wX4 T a1 S1 ++ (wX1 T a2 S2 ++ (wX1 T a3 S3 ++ (wX0 T a4 S4' ++ (wX5 T a5 S5' ++ (wX5 T a6 S6' ++ (wX5 T a7 S7' ++ (wX5 T a8 S8' ++ wX3 T a9 S9))))))))) ++ (wX7 T b0 M ++ wJ cJ q f)) := hD.zaddr rfl
  refine z_aload_n C dL_law_678 rfl 2 rfl 679 rfl ?_
  refine z_sarg (z := 1) 1 C hXs hbl hbA (lw_in hL hj 1 (by decide)) (by decide) rfl rfl dL_law_679 dL_law_680 dL_law_682 dL_law_683 dL_law_684 685 rfl ?_
  refine z_sarg (z := 2) 2 C hXs hbl hbA (lw_in hL hj 2 (by decide)) (by decide) rfl rfl dL_law_685 dL_law_686 dL_law_688 dL_law_689 dL_law_690 691 rfl ?_
  refine z_callM (wa := (wX6 a0 a1 a2 a3 a4 a5 a6 a7 a8 a9 ++ (wX4 T a1 S1 ++ (wX1 T a2 S2 ++ (wX1 T a3 S3 ++ (wX0 T a4 S4' ++ (wX5 T a5 S5' ++ (wX5 T a6 S6' ++ (wX5 T a7 S7' ++ (wX5 T a8 S8' ++ wX3 T a9 S9)))))))))) C (c_X7_drawn l D T b0 M (sv xs (6 * j) 1) (sv xs (6 * j) 2) (x, M') h2) ⟨rfl, rfl⟩ (z_cwV C 2 gL_law_X7_drawn rfl rfl dd_X7_drawn ⟨(Nat.le_of_ble_eq_true rfl), (Nat.le_of_ble_eq_true rfl)⟩) hD1 ⟨b0 99, [.int (sv xs (6 * j) 1), .int (sv xs (6 * j) 2)], 6, 0, _, _, rfl, rfl, rfl, rfl, rfl⟩ rfl (Nat.le_of_ble_eq_true rfl) dL_law_691 694 rfl ?_
  refine z_icmp_eq (X := some ()) (Y := none) (ex := ()) C 1019 dL_law_694 (by decide) 697 rfl (if_pos rfl) (fun _ => ?_) (fun h => nomatch h)
  exact KK K a0 a1 a2 a3 a4 a5 a6 a7 a8 a9 b0 S1 S2 S3 S4' S5' S6' S7' S8' S9 M' q f cells slots hI' (hD.zaddr rfl) (by omega) (by omega)
end LWC
