/-! the cases of the law's switch -/
section LWC
variable {p : Program} {l : Launch} {e : Env} {s : State} {m : MethodId} {below : List Frame} {meth : Method} {c : Code} {Q : State → Prop} {D : va_G} {T : Nat → ClassId} {adK adV : Nat → Nat} {b L sa : Nat} {xs : Nat → Int32} {cJ : ClassId}
set_option maxHeartbeats 4000000 in
set_option maxRecDepth 100000 in
theorem lw_way {j : Nat} {K : Nat → Nat → Nat} {a0 a1 a2 a3 a4 a5 a6 a7 a8 a9 b0 : Nat → Nat} {S1 S2 S3 S4 S5 S6 S7 S8 S9 M : Nat → Nat → Int32} {q : Nat} {f : Nat → Int64} {cells slots : Nat} (C0 : lwC p s m meth c D T adK adV b L sa xs cJ) (hj : 6 * j + 6 ≤ L) (hI : ivK K S1 S2 S4 S5 S6 S7 S8 M) (hD : va_D (fun q : Nat => s.heap.size ≤ q) ((wX6 a0 a1 a2 a3 a4 a5 a6 a7 a8 a9 ++ (wX4 T a1 S1 ++ (wX1 T a2 S2 ++ (wX1 T a3 S3 ++ (wX0 T a4 S4 ++ (wX5 T a5 S5 ++ (wX5 T a6 S6 ++ (wX5 T a7 S7 ++ (wX5 T a8 S8 ++ wX3 T a9 S9))))))))) ++ (wX7 T b0 M ++ wJ cJ q f))) (hc : cells + 5 * tpL S1 ≤ 53 + 106 * j) (hs : slots + 25 * tpL S1 ≤ 98797 + 600 * j) (KK : lwG p l e s m below meth c Q D T b cJ j) : zt p l e room_1 s m #[Value.ref b] below meth c 7 (fun q : Nat => s.heap.size ≤ q) D cells slots Q ((wX6 a0 a1 a2 a3 a4 a5 a6 a7 a8 a9 ++ (wX4 T a1 S1 ++ (wX1 T a2 S2 ++ (wX1 T a3 S3 ++ (wX0 T a4 S4 ++ (wX5 T a5 S5 ++ (wX5 T a6 S6 ++ (wX5 T a7 S7 ++ (wX5 T a8 S8 ++ wX3 T a9 S9))))))))) ++ (wX7 T b0 M ++ wJ cJ q f)) [(0, .ref b), (1, .ref (a0 99)), (2, .ref (b0 99)), (3, .ref q), (4, .int (nI (6 * j)))] 699 [] := by
  obtain ⟨C1, hXs, hbl, hL, hE, hX, hKJ⟩ := C0
  have hbA : ¬ (fun q : Nat => s.heap.size ≤ q) b := Nat.not_le.mpr hbl
  have hA : ∀ q : Nat, s.heap.size ≤ q → (fun q : Nat => s.heap.size ≤ q) q := fun _ h => h
  have C := C1 cells slots (by omega) (by omega)
  obtain ⟨x, S4', S5', S6', S7', S8', M', h1, h2, h0, hI'⟩ := m_way (S3 := S3) (S9 := S9) hI (sv xs (6 * j) 1) (sv xs (6 * j) 2) (sv xs (6 * j) 3)
  refine z_aload_n C dL_law_699 rfl 1 rfl 700 rfl ?_
  refine z_sarg (z := 1) 1 C hXs hbl hbA (lw_in hL hj 1 (by decide)) (by decide) rfl rfl dL_law_700 dL_law_701 dL_law_703 dL_law_704 dL_law_705 706 rfl ?_
  refine z_sarg (z := 2) 2 C hXs hbl hbA (lw_in hL hj 2 (by decide)) (by decide) rfl rfl dL_law_706 dL_law_707 dL_law_709 dL_law_710 dL_law_711 712 rfl ?_
  refine z_sarg (z := 3) 3 C hXs hbl hbA (lw_in hL hj 3 (by decide)) (by decide) rfl rfl dL_law_712 dL_law_713 dL_law_715 dL_law_716 dL_law_717 718 rfl ?_
  refine z_callL C (c_X6_way l D T a0 a1 a2 a3 a4 a5 a6 a7 a8 a9 S1 S2 S3 S4 S5 S6 S7 S8 S9 (sv xs (6 * j) 1) (sv xs (6 * j) 2) (sv xs (6 * j) 3) (x, S4', S5', S6', S7', S8') h1) ⟨rfl, rfl⟩ (z_cwV C 3 gL_law_X6_way rfl rfl dd_X6_way ⟨(Nat.le_of_ble_eq_true rfl), (Nat.le_of_ble_eq_true rfl)⟩) hD ⟨a0 99, [.int (sv xs (6 * j) 1), .int (sv xs (6 * j) 2), .int (sv xs (6 * j) 3)], 5, 0, _, _, rfl, rfl, rfl, rfl, rfl⟩ rfl (Nat.le_of_ble_eq_true rfl) dL_law_718 721 rfl ?_
  have hD1 : va_D (fun q : Nat => s.heap.size ≤ q) ((wX6 a0 a1 a2 a3 a4 a5 a6 a7 a8 a9 ++ (wX4 T a1 S1 ++ (wX1 T a2 S2 ++ (wX1 T a3 S3 ++ (wX0 T a4 S4' ++ (wX5 T a5 S5' ++ (wX5 T a6 S6' ++ (wX5 T a7 S7' ++ (wX5 T a8 S8' ++ wX3 T a9 S9))))))))) ++ (wX7 T b0 M ++ wJ cJ q f)) := hD.zaddr rfl
  refine z_aload_n C dL_law_721 rfl 2 rfl 722 rfl ?_
  refine z_sarg (z := 1) 1 C hXs hbl hbA (lw_in hL hj 1 (by decide)) (by decide) rfl rfl dL_law_722 dL_law_723 dL_law_725 dL_law_726 dL_law_727 728 rfl ?_
  refine z_sarg (z := 2) 2 C hXs hbl hbA (lw_in hL hj 2 (by decide)) (by decide) rfl rfl dL_law_728 dL_law_729 dL_law_731 dL_law_732 dL_law_733 734 rfl ?_
  refine z_sarg (z := 3) 3 C hXs hbl hbA (lw_in hL hj 3 (by decide)) (by decide) rfl rfl dL_law_734 dL_law_735 dL_law_737 dL_law_738 dL_law_739 740 rfl ?_
  refine z_callM (wa := (wX6 a0 a1 a2 a3 a4 a5 a6 a7 a8 a9 ++ (wX4 T a1 S1 ++ (wX1 T a2 S2 ++ (wX1 T a3 S3 ++ (wX0 T a4 S4' ++ (wX5 T a5 S5' ++ (wX5 T a6 S6' ++ (wX5 T a7 S7' ++ (wX5 T a8 S8' ++ wX3 T a9 S9)))))))))) C (c_X7_way l D T b0 M (sv xs (6 * j) 1) (sv xs (6 * j) 2) (sv xs (6 * j) 3) (x, M') h2) ⟨rfl, rfl⟩ (z_cwV C 3 gL_law_X7_way rfl rfl dd_X7_way ⟨(Nat.le_of_ble_eq_true rfl), (Nat.le_of_ble_eq_true rfl)⟩) hD1 ⟨b0 99, [.int (sv xs (6 * j) 1), .int (sv xs (6 * j) 2), .int (sv xs (6 * j) 3)], 6, 0, _, _, rfl, rfl, rfl, rfl, rfl⟩ rfl (Nat.le_of_ble_eq_true rfl) dL_law_740 743 rfl ?_
  refine z_icmp_eq (X := some ()) (Y := none) (ex := ()) C 1019 dL_law_743 (by decide) 746 rfl (if_pos rfl) (fun _ => ?_) (fun h => nomatch h)
  exact KK K a0 a1 a2 a3 a4 a5 a6 a7 a8 a9 b0 S1 S2 S3 S4' S5' S6' S7' S8' S9 M' q f cells slots hI' (hD.zaddr rfl) (by omega) (by omega)

set_option maxHeartbeats 4000000 in
set_option maxRecDepth 100000 in
theorem lw_borne {j : Nat} {K : Nat → Nat → Nat} {a0 a1 a2 a3 a4 a5 a6 a7 a8 a9 b0 : Nat → Nat} {S1 S2 S3 S4 S5 S6 S7 S8 S9 M : Nat → Nat → Int32} {q : Nat} {f : Nat → Int64} {cells slots : Nat} (C0 : lwC p s m meth c D T adK adV b L sa xs cJ) (hj : 6 * j + 6 ≤ L) (hI : ivK K S1 S2 S4 S5 S6 S7 S8 M) (hD : va_D (fun q : Nat => s.heap.size ≤ q) ((wX6 a0 a1 a2 a3 a4 a5 a6 a7 a8 a9 ++ (wX4 T a1 S1 ++ (wX1 T a2 S2 ++ (wX1 T a3 S3 ++ (wX0 T a4 S4 ++ (wX5 T a5 S5 ++ (wX5 T a6 S6 ++ (wX5 T a7 S7 ++ (wX5 T a8 S8 ++ wX3 T a9 S9))))))))) ++ (wX7 T b0 M ++ wJ cJ q f))) (hc : cells + 5 * tpL S1 ≤ 53 + 106 * j) (hs : slots + 25 * tpL S1 ≤ 98797 + 600 * j) (KK : lwG p l e s m below meth c Q D T b cJ j) : zt p l e room_1 s m #[Value.ref b] below meth c 7 (fun q : Nat => s.heap.size ≤ q) D cells slots Q ((wX6 a0 a1 a2 a3 a4 a5 a6 a7 a8 a9 ++ (wX4 T a1 S1 ++ (wX1 T a2 S2 ++ (wX1 T a3 S3 ++ (wX0 T a4 S4 ++ (wX5 T a5 S5 ++ (wX5 T a6 S6 ++ (wX5 T a7 S7 ++ (wX5 T a8 S8 ++ wX3 T a9 S9))))))))) ++ (wX7 T b0 M ++ wJ cJ q f)) [(0, .ref b), (1, .ref (a0 99)), (2, .ref (b0 99)), (3, .ref q), (4, .int (nI (6 * j)))] 748 [] := by
  obtain ⟨C1, hXs, hbl, hL, hE, hX, hKJ⟩ := C0
  have hbA : ¬ (fun q : Nat => s.heap.size ≤ q) b := Nat.not_le.mpr hbl
  have hA : ∀ q : Nat, s.heap.size ≤ q → (fun q : Nat => s.heap.size ≤ q) q := fun _ h => h
  have C := C1 cells slots (by omega) (by omega)
  obtain ⟨x, S4', S5', S6', S7', S8', M', h1, h2, h0, hI'⟩ := m_borne (S3 := S3) (S9 := S9) hI (sv xs (6 * j) 1) (sv xs (6 * j) 2) (sv xs (6 * j) 3)
  refine z_aload_n C dL_law_748 rfl 1 rfl 749 rfl ?_
  refine z_sarg (z := 1) 1 C hXs hbl hbA (lw_in hL hj 1 (by decide)) (by decide) rfl rfl dL_law_749 dL_law_750 dL_law_752 dL_law_753 dL_law_754 755 rfl ?_
  refine z_sarg (z := 2) 2 C hXs hbl hbA (lw_in hL hj 2 (by decide)) (by decide) rfl rfl dL_law_755 dL_law_756 dL_law_758 dL_law_759 dL_law_760 761 rfl ?_
  refine z_sarg (z := 3) 3 C hXs hbl hbA (lw_in hL hj 3 (by decide)) (by decide) rfl rfl dL_law_761 dL_law_762 dL_law_764 dL_law_765 dL_law_766 767 rfl ?_
  refine z_callL C (c_X6_borne l D T a0 a1 a2 a3 a4 a5 a6 a7 a8 a9 S1 S2 S3 S4 S5 S6 S7 S8 S9 (sv xs (6 * j) 1) (sv xs (6 * j) 2) (sv xs (6 * j) 3) (x, S4', S5', S6', S7', S8') h1) ⟨rfl, rfl⟩ (z_cwV C 3 gL_law_X6_borne rfl rfl dd_X6_borne ⟨(Nat.le_of_ble_eq_true rfl), (Nat.le_of_ble_eq_true rfl)⟩) hD ⟨a0 99, [.int (sv xs (6 * j) 1), .int (sv xs (6 * j) 2), .int (sv xs (6 * j) 3)], 5, 0, _, _, rfl, rfl, rfl, rfl, rfl⟩ rfl (Nat.le_of_ble_eq_true rfl) dL_law_767 770 rfl ?_
  have hD1 : va_D (fun q : Nat => s.heap.size ≤ q) ((wX6 a0 a1 a2 a3 a4 a5 a6 a7 a8 a9 ++ (wX4 T a1 S1 ++ (wX1 T a2 S2 ++ (wX1 T a3 S3 ++ (wX0 T a4 S4' ++ (wX5 T a5 S5' ++ (wX5 T a6 S6' ++ (wX5 T a7 S7' ++ (wX5 T a8 S8' ++ wX3 T a9 S9))))))))) ++ (wX7 T b0 M ++ wJ cJ q f)) := hD.zaddr rfl
  refine z_aload_n C dL_law_770 rfl 2 rfl 771 rfl ?_
  refine z_sarg (z := 1) 1 C hXs hbl hbA (lw_in hL hj 1 (by decide)) (by decide) rfl rfl dL_law_771 dL_law_772 dL_law_774 dL_law_775 dL_law_776 777 rfl ?_
  refine z_sarg (z := 2) 2 C hXs hbl hbA (lw_in hL hj 2 (by decide)) (by decide) rfl rfl dL_law_777 dL_law_778 dL_law_780 dL_law_781 dL_law_782 783 rfl ?_
  refine z_sarg (z := 3) 3 C hXs hbl hbA (lw_in hL hj 3 (by decide)) (by decide) rfl rfl dL_law_783 dL_law_784 dL_law_786 dL_law_787 dL_law_788 789 rfl ?_
  refine z_callM (wa := (wX6 a0 a1 a2 a3 a4 a5 a6 a7 a8 a9 ++ (wX4 T a1 S1 ++ (wX1 T a2 S2 ++ (wX1 T a3 S3 ++ (wX0 T a4 S4' ++ (wX5 T a5 S5' ++ (wX5 T a6 S6' ++ (wX5 T a7 S7' ++ (wX5 T a8 S8' ++ wX3 T a9 S9)))))))))) C (c_X7_borne l D T b0 M (sv xs (6 * j) 1) (sv xs (6 * j) 2) (sv xs (6 * j) 3) (x, M') h2) ⟨rfl, rfl⟩ (z_cwV C 3 gL_law_X7_borne rfl rfl dd_X7_borne ⟨(Nat.le_of_ble_eq_true rfl), (Nat.le_of_ble_eq_true rfl)⟩) hD1 ⟨b0 99, [.int (sv xs (6 * j) 1), .int (sv xs (6 * j) 2), .int (sv xs (6 * j) 3)], 6, 0, _, _, rfl, rfl, rfl, rfl, rfl⟩ rfl (Nat.le_of_ble_eq_true rfl) dL_law_789 792 rfl ?_
  refine z_icmp_eq (X := some ()) (Y := none) (ex := ()) C 1019 dL_law_792 (by decide) 795 rfl (if_pos rfl) (fun _ => ?_) (fun h => nomatch h)
  exact KK K a0 a1 a2 a3 a4 a5 a6 a7 a8 a9 b0 S1 S2 S3 S4' S5' S6' S7' S8' S9 M' q f cells slots hI' (hD.zaddr rfl) (by omega) (by omega)

set_option maxHeartbeats 4000000 in
set_option maxRecDepth 100000 in
theorem lw_alone {j : Nat} {K : Nat → Nat → Nat} {a0 a1 a2 a3 a4 a5 a6 a7 a8 a9 b0 : Nat → Nat} {S1 S2 S3 S4 S5 S6 S7 S8 S9 M : Nat → Nat → Int32} {q : Nat} {f : Nat → Int64} {cells slots : Nat} (C0 : lwC p s m meth c D T adK adV b L sa xs cJ) (hj : 6 * j + 6 ≤ L) (hI : ivK K S1 S2 S4 S5 S6 S7 S8 M) (hD : va_D (fun q : Nat => s.heap.size ≤ q) ((wX6 a0 a1 a2 a3 a4 a5 a6 a7 a8 a9 ++ (wX4 T a1 S1 ++ (wX1 T a2 S2 ++ (wX1 T a3 S3 ++ (wX0 T a4 S4 ++ (wX5 T a5 S5 ++ (wX5 T a6 S6 ++ (wX5 T a7 S7 ++ (wX5 T a8 S8 ++ wX3 T a9 S9))))))))) ++ (wX7 T b0 M ++ wJ cJ q f))) (hc : cells + 5 * tpL S1 ≤ 53 + 106 * j) (hs : slots + 25 * tpL S1 ≤ 98797 + 600 * j) (KK : lwG p l e s m below meth c Q D T b cJ j) : zt p l e room_1 s m #[Value.ref b] below meth c 7 (fun q : Nat => s.heap.size ≤ q) D cells slots Q ((wX6 a0 a1 a2 a3 a4 a5 a6 a7 a8 a9 ++ (wX4 T a1 S1 ++ (wX1 T a2 S2 ++ (wX1 T a3 S3 ++ (wX0 T a4 S4 ++ (wX5 T a5 S5 ++ (wX5 T a6 S6 ++ (wX5 T a7 S7 ++ (wX5 T a8 S8 ++ wX3 T a9 S9))))))))) ++ (wX7 T b0 M ++ wJ cJ q f)) [(0, .ref b), (1, .ref (a0 99)), (2, .ref (b0 99)), (3, .ref q), (4, .int (nI (6 * j)))] 797 [] := by
  obtain ⟨C1, hXs, hbl, hL, hE, hX, hKJ⟩ := C0
  have hbA : ¬ (fun q : Nat => s.heap.size ≤ q) b := Nat.not_le.mpr hbl
  have hA : ∀ q : Nat, s.heap.size ≤ q → (fun q : Nat => s.heap.size ≤ q) q := fun _ h => h
  have C := C1 cells slots (by omega) (by omega)
  obtain ⟨x, S4', M', h1, h2, h0, hI'⟩ := m_alone (S3 := S3) (S9 := S9) hI (sv xs (6 * j) 1)
  refine z_aload_n C dL_law_797 rfl 1 rfl 798 rfl ?_
  refine z_sarg (z := 1) 1 C hXs hbl hbA (lw_in hL hj 1 (by decide)) (by decide) rfl rfl dL_law_798 dL_law_799 dL_law_801 dL_law_802 dL_law_803 804 rfl ?_
  refine z_callL C (c_X6_alone l D T a0 a1 a2 a3 a4 a5 a6 a7 a8 a9 S1 S2 S3 S4 S5 S6 S7 S8 S9 (sv xs (6 * j) 1) (x, S4') h1) ⟨rfl, rfl⟩ (z_cwV C 1 gL_law_X6_alone rfl rfl dd_X6_alone ⟨(Nat.le_of_ble_eq_true rfl), (Nat.le_of_ble_eq_true rfl)⟩) hD ⟨a0 99, [.int (sv xs (6 * j) 1)], 5, 0, _, _, rfl, rfl, rfl, rfl, rfl⟩ rfl (Nat.le_of_ble_eq_true rfl) dL_law_804 807 rfl ?_
  have hD1 : va_D (fun q : Nat => s.heap.size ≤ q) ((wX6 a0 a1 a2 a3 a4 a5 a6 a7 a8 a9 ++ (wX4 T a1 S1 ++ (wX1 T a2 S2 ++ (wX1 T a3 S3 ++ (wX0 T a4 S4' ++ (wX5 T a5 S5 ++ (wX5 T a6 S6 ++ (wX5 T a7 S7 ++ (wX5 T a8 S8 ++ wX3 T a9 S9))))))))) ++ (wX7 T b0 M ++ wJ cJ q f)) := hD.zaddr rfl
  refine z_aload_n C dL_law_807 rfl 2 rfl 808 rfl ?_
  refine z_sarg (z := 1) 1 C hXs hbl hbA (lw_in hL hj 1 (by decide)) (by decide) rfl rfl dL_law_808 dL_law_809 dL_law_811 dL_law_812 dL_law_813 814 rfl ?_
  refine z_callM (wa := (wX6 a0 a1 a2 a3 a4 a5 a6 a7 a8 a9 ++ (wX4 T a1 S1 ++ (wX1 T a2 S2 ++ (wX1 T a3 S3 ++ (wX0 T a4 S4' ++ (wX5 T a5 S5 ++ (wX5 T a6 S6 ++ (wX5 T a7 S7 ++ (wX5 T a8 S8 ++ wX3 T a9 S9)))))))))) C (c_X7_alone l D T b0 M (sv xs (6 * j) 1) (x, M') h2) ⟨rfl, rfl⟩ (z_cwV C 1 gL_law_X7_alone rfl rfl dd_X7_alone ⟨(Nat.le_of_ble_eq_true rfl), (Nat.le_of_ble_eq_true rfl)⟩) hD1 ⟨b0 99, [.int (sv xs (6 * j) 1)], 6, 0, _, _, rfl, rfl, rfl, rfl, rfl⟩ rfl (Nat.le_of_ble_eq_true rfl) dL_law_814 817 rfl ?_
  refine z_icmp_eq (X := some ()) (Y := none) (ex := ()) C 1019 dL_law_817 (by decide) 820 rfl (if_pos rfl) (fun _ => ?_) (fun h => nomatch h)
  exact KK K a0 a1 a2 a3 a4 a5 a6 a7 a8 a9 b0 S1 S2 S3 S4' S5 S6 S7 S8 S9 M' q f cells slots hI' (hD.zaddr rfl) (by omega) (by omega)

set_option maxHeartbeats 4000000 in
set_option maxRecDepth 100000 in
theorem lw_costs {j : Nat} {K : Nat → Nat → Nat} {a0 a1 a2 a3 a4 a5 a6 a7 a8 a9 b0 : Nat → Nat} {S1 S2 S3 S4 S5 S6 S7 S8 S9 M : Nat → Nat → Int32} {q : Nat} {f : Nat → Int64} {cells slots : Nat} (C0 : lwC p s m meth c D T adK adV b L sa xs cJ) (hj : 6 * j + 6 ≤ L) (hI : ivK K S1 S2 S4 S5 S6 S7 S8 M) (hD : va_D (fun q : Nat => s.heap.size ≤ q) ((wX6 a0 a1 a2 a3 a4 a5 a6 a7 a8 a9 ++ (wX4 T a1 S1 ++ (wX1 T a2 S2 ++ (wX1 T a3 S3 ++ (wX0 T a4 S4 ++ (wX5 T a5 S5 ++ (wX5 T a6 S6 ++ (wX5 T a7 S7 ++ (wX5 T a8 S8 ++ wX3 T a9 S9))))))))) ++ (wX7 T b0 M ++ wJ cJ q f))) (hc : cells + 5 * tpL S1 ≤ 53 + 106 * j) (hs : slots + 25 * tpL S1 ≤ 98797 + 600 * j) (KK : lwG p l e s m below meth c Q D T b cJ j) : zt p l e room_1 s m #[Value.ref b] below meth c 7 (fun q : Nat => s.heap.size ≤ q) D cells slots Q ((wX6 a0 a1 a2 a3 a4 a5 a6 a7 a8 a9 ++ (wX4 T a1 S1 ++ (wX1 T a2 S2 ++ (wX1 T a3 S3 ++ (wX0 T a4 S4 ++ (wX5 T a5 S5 ++ (wX5 T a6 S6 ++ (wX5 T a7 S7 ++ (wX5 T a8 S8 ++ wX3 T a9 S9))))))))) ++ (wX7 T b0 M ++ wJ cJ q f)) [(0, .ref b), (1, .ref (a0 99)), (2, .ref (b0 99)), (3, .ref q), (4, .int (nI (6 * j)))] 822 [] := by
  obtain ⟨C1, hXs, hbl, hL, hE, hX, hKJ⟩ := C0
  have hbA : ¬ (fun q : Nat => s.heap.size ≤ q) b := Nat.not_le.mpr hbl
  have hA : ∀ q : Nat, s.heap.size ≤ q → (fun q : Nat => s.heap.size ≤ q) q := fun _ h => h
  have C := C1 cells slots (by omega) (by omega)
  obtain ⟨x, S4', M', h1, h2, h0, hI'⟩ := m_costs (S3 := S3) (S9 := S9) hI (sv xs (6 * j) 1)
  refine z_aload_n C dL_law_822 rfl 1 rfl 823 rfl ?_
  refine z_sarg (z := 1) 1 C hXs hbl hbA (lw_in hL hj 1 (by decide)) (by decide) rfl rfl dL_law_823 dL_law_824 dL_law_826 dL_law_827 dL_law_828 829 rfl ?_
  refine z_callL C (c_X6_costs l D T a0 a1 a2 a3 a4 a5 a6 a7 a8 a9 S1 S2 S3 S4 S5 S6 S7 S8 S9 (sv xs (6 * j) 1) (x, S4') h1) ⟨rfl, rfl⟩ (z_cwV C 1 gL_law_X6_costs rfl rfl dd_X6_costs ⟨(Nat.le_of_ble_eq_true rfl), (Nat.le_of_ble_eq_true rfl)⟩) hD ⟨a0 99, [.int (sv xs (6 * j) 1)], 5, 0, _, _, rfl, rfl, rfl, rfl, rfl⟩ rfl (Nat.le_of_ble_eq_true rfl) dL_law_829 832 rfl ?_
  have hD1 : va_D (fun q : Nat => s.heap.size ≤ q) ((wX6 a0 a1 a2 a3 a4 a5 a6 a7 a8 a9 ++ (wX4 T a1 S1 ++ (wX1 T a2 S2 ++ (wX1 T a3 S3 ++ (wX0 T a4 S4' ++ (wX5 T a5 S5 ++ (wX5 T a6 S6 ++ (wX5 T a7 S7 ++ (wX5 T a8 S8 ++ wX3 T a9 S9))))))))) ++ (wX7 T b0 M ++ wJ cJ q f)) := hD.zaddr rfl
  refine z_aload_n C dL_law_832 rfl 2 rfl 833 rfl ?_
  refine z_sarg (z := 1) 1 C hXs hbl hbA (lw_in hL hj 1 (by decide)) (by decide) rfl rfl dL_law_833 dL_law_834 dL_law_836 dL_law_837 dL_law_838 839 rfl ?_
  refine z_callM (wa := (wX6 a0 a1 a2 a3 a4 a5 a6 a7 a8 a9 ++ (wX4 T a1 S1 ++ (wX1 T a2 S2 ++ (wX1 T a3 S3 ++ (wX0 T a4 S4' ++ (wX5 T a5 S5 ++ (wX5 T a6 S6 ++ (wX5 T a7 S7 ++ (wX5 T a8 S8 ++ wX3 T a9 S9)))))))))) C (c_X7_costs l D T b0 M (sv xs (6 * j) 1) (x, M') h2) ⟨rfl, rfl⟩ (z_cwV C 1 gL_law_X7_costs rfl rfl dd_X7_costs ⟨(Nat.le_of_ble_eq_true rfl), (Nat.le_of_ble_eq_true rfl)⟩) hD1 ⟨b0 99, [.int (sv xs (6 * j) 1)], 6, 0, _, _, rfl, rfl, rfl, rfl, rfl⟩ rfl (Nat.le_of_ble_eq_true rfl) dL_law_839 842 rfl ?_
  refine z_icmp_eq (X := some ()) (Y := none) (ex := ()) C 1019 dL_law_842 (by decide) 845 rfl (if_pos rfl) (fun _ => ?_) (fun h => nomatch h)
  exact KK K a0 a1 a2 a3 a4 a5 a6 a7 a8 a9 b0 S1 S2 S3 S4' S5 S6 S7 S8 S9 M' q f cells slots hI' (hD.zaddr rfl) (by omega) (by omega)
end LWC
