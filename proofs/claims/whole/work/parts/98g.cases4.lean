/-! the cases of the law's switch -/
section LWC
variable {p : Program} {l : Launch} {e : Env} {s : State} {m : MethodId} {below : List Frame} {meth : Method} {c : Code} {Q : State → Prop} {D : va_G} {T : Nat → ClassId} {adK adV : Nat → Nat} {b L sa : Nat} {xs : Nat → Int32} {cJ : ClassId}
set_option maxHeartbeats 4000000 in
set_option maxRecDepth 100000 in
theorem lw_bars {j : Nat} {K : Nat → Nat → Nat} {a0 a1 a2 a3 a4 a5 a6 a7 a8 a9 b0 : Nat → Nat} {S1 S2 S3 S4 S5 S6 S7 S8 S9 M : Nat → Nat → Int32} {q : Nat} {f : Nat → Int64} {cells slots : Nat} (C0 : lwC p s m meth c D T adK adV b L sa xs cJ) (hj : 6 * j + 6 ≤ L) (hI : ivK K S1 S2 S4 S5 S6 S7 S8 M) (hD : va_D (fun q : Nat => s.heap.size ≤ q) ((wX6 a0 a1 a2 a3 a4 a5 a6 a7 a8 a9 ++ (wX4 T a1 S1 ++ (wX1 T a2 S2 ++ (wX1 T a3 S3 ++ (wX0 T a4 S4 ++ (wX5 T a5 S5 ++ (wX5 T a6 S6 ++ (wX5 T a7 S7 ++ (wX5 T a8 S8 ++ wX3 T a9 S9))))))))) ++ (wX7 T b0 M ++ wJ cJ q f))) (hc : cells + 5 * tpL S1 ≤ 53 + 106 * j) (hs : slots + 25 * tpL S1 ≤ 98797 + 600 * j) (KK : lwG p l e s m below meth c Q D T b cJ j) : zt p l e room_1 s m #[Value.ref b] below meth c 7 (fun q : Nat => s.heap.size ≤ q) D cells slots Q ((wX6 a0 a1 a2 a3 a4 a5 a6 a7 a8 a9 ++ (wX4 T a1 S1 ++ (wX1 T a2 S2 ++ (wX1 T a3 S3 ++ (wX0 T a4 S4 ++ (wX5 T a5 S5 ++ (wX5 T a6 S6 ++ (wX5 T a7 S7 ++ (wX5 T a8 S8 ++ wX3 T a9 S9))))))))) ++ (wX7 T b0 M ++ wJ cJ q f)) [(0, .ref b), (1, .ref (a0 99)), (2, .ref (b0 99)), (3, .ref q), (4, .int (nI (6 * j)))] 847 [] := by
  obtain ⟨C1, hXs, hbl, hL, hE, hX, hKJ⟩ := C0
  have hbA : ¬ (fun q : Nat => s.heap.size ≤ q) b := Nat.not_le.mpr hbl
  have hA : ∀ q : Nat, s.heap.size ≤ q → (fun q : Nat => s.heap.size ≤ q) q := fun _ h => h
  have C := C1 cells slots (by omega) (by omega)
  obtain ⟨x, S2', S4', S5', S6', S7', S8', M', h1, h2, h0, K', hI'⟩ := m_bars (S3 := S3) (S9 := S9) hI (sv xs (6 * j) 1) (sv xs (6 * j) 2)
  refine z_aload_n C dL_law_847 rfl 1 rfl 848 rfl ?_
  refine z_sarg (z := 1) 1 C hXs hbl hbA (lw_in hL hj 1 (by decide)) (by decide) rfl rfl dL_law_848 dL_law_849 dL_law_851 dL_law_852 dL_law_853 854 rfl ?_
  refine z_sarg (z := 2) 2 C hXs hbl hbA (lw_in hL hj 2 (by decide)) (by decide) rfl rfl dL_law_854 dL_law_855 dL_law_857 dL_law_858 dL_law_859 860 rfl ?_
  refine z_callL C (c_X6_bars l D T a0 a1 a2 a3 a4 a5 a6 a7 a8 a9 S1 S2 S3 S4 S5 S6 S7 S8 S9 (sv xs (6 * j) 1) (sv xs (6 * j) 2) (x, S2', S4', S5', S6', S7', S8') h1) ⟨rfl, rfl⟩ (z_cwV C 2 gL_law_X6_bars rfl rfl dd_X6_bars ⟨(Nat.le_of_ble_eq_true rfl), (Nat.le_of_ble_eq_true rfl)⟩) hD ⟨a0 99, [.int (sv xs (6 * j) 1), .int (sv xs (6 * j) 2)], 5, 0, _, _, rfl, rfl, rfl, rfl, rfl⟩ rfl (Nat.le_of_ble_eq_true rfl) dL_law_860 863 rfl ?_
  have hD1 : va_D (fun q : Nat => s.heap.size ≤ q) ((wX6 a0 a1 a2 a3 a4 a5 a6 a7 a8 a9 ++ (wX4 T a1 S1 ++ (wX1 T a2 S2' ++ (wX1 T a3 S3 ++ (wX0 T a4 S4' ++ (wX5 T a5 S5' ++ (wX5 T a6 S6' ++ (wX5 T a7 S7' ++ (wX5 T a8 S8' ++ wX3 T a9 S9))))))))) ++ (wX7 T b0 M ++ wJ cJ q f)) := hD.zaddr rfl
  refine z_aload_n C dL_law_863 rfl 2 rfl 864 rfl ?_
  refine z_sarg (z := 1) 1 C hXs hbl hbA (lw_in hL hj 1 (by decide)) (by decide) rfl rfl dL_law_864 dL_law_865 dL_law_867 dL_law_868 dL_law_869 870 rfl ?_
  refine z_sarg (z := 2) 2 C hXs hbl hbA (lw_in hL hj 2 (by decide)) (by decide) rfl rfl dL_law_870 dL_law_871 dL_law_873 dL_law_874 dL_law_875 876 rfl ?_
  refine z_callM (wa := (wX6 a0 a1 a2 a3 a4 a5 a6 a7 a8 a9 ++ (wX4 T a1 S1 ++ (wX1 T a2 S2' ++ (wX1 T a3 S3 ++ (wX0 T a4 S4' ++ (wX5 T a5 S5' ++ (wX5 T a6 S6' ++ (wX5 T a7 S7' ++ (wX5 T a8 S8' ++ wX3 T a9 S9)))))))))) C (c_X7_bars l D T b0 M (sv xs (6 * j) 1) (sv xs (6 * j) 2) (x, M') h2) ⟨rfl, rfl⟩ (z_cwV C 2 gL_law_X7_bars rfl rfl dd_X7_bars ⟨(Nat.le_of_ble_eq_true rfl), (Nat.le_of_ble_eq_true rfl)⟩) hD1 ⟨b0 99, [.int (sv xs (6 * j) 1), .int (sv xs (6 * j) 2)], 6, 0, _, _, rfl, rfl, rfl, rfl, rfl⟩ rfl (Nat.le_of_ble_eq_true rfl) dL_law_876 879 rfl ?_
  refine z_icmp_eq (X := some ()) (Y := none) (ex := ()) C 1019 dL_law_879 (by decide) 882 rfl (if_pos rfl) (fun _ => ?_) (fun h => nomatch h)
  exact KK K' a0 a1 a2 a3 a4 a5 a6 a7 a8 a9 b0 S1 S2' S3 S4' S5' S6' S7' S8' S9 M' q f cells slots hI' (hD.zaddr rfl) (by omega) (by omega)

set_option maxHeartbeats 4000000 in
set_option maxRecDepth 100000 in
theorem lw_more {j : Nat} {K : Nat → Nat → Nat} {a0 a1 a2 a3 a4 a5 a6 a7 a8 a9 b0 : Nat → Nat} {S1 S2 S3 S4 S5 S6 S7 S8 S9 M : Nat → Nat → Int32} {q : Nat} {f : Nat → Int64} {cells slots : Nat} (C0 : lwC p s m meth c D T adK adV b L sa xs cJ) (hj : 6 * j + 6 ≤ L) (hI : ivK K S1 S2 S4 S5 S6 S7 S8 M) (hD : va_D (fun q : Nat => s.heap.size ≤ q) ((wX6 a0 a1 a2 a3 a4 a5 a6 a7 a8 a9 ++ (wX4 T a1 S1 ++ (wX1 T a2 S2 ++ (wX1 T a3 S3 ++ (wX0 T a4 S4 ++ (wX5 T a5 S5 ++ (wX5 T a6 S6 ++ (wX5 T a7 S7 ++ (wX5 T a8 S8 ++ wX3 T a9 S9))))))))) ++ (wX7 T b0 M ++ wJ cJ q f))) (hc : cells + 5 * tpL S1 ≤ 53 + 106 * j) (hs : slots + 25 * tpL S1 ≤ 98797 + 600 * j) (KK : lwG p l e s m below meth c Q D T b cJ j) : zt p l e room_1 s m #[Value.ref b] below meth c 7 (fun q : Nat => s.heap.size ≤ q) D cells slots Q ((wX6 a0 a1 a2 a3 a4 a5 a6 a7 a8 a9 ++ (wX4 T a1 S1 ++ (wX1 T a2 S2 ++ (wX1 T a3 S3 ++ (wX0 T a4 S4 ++ (wX5 T a5 S5 ++ (wX5 T a6 S6 ++ (wX5 T a7 S7 ++ (wX5 T a8 S8 ++ wX3 T a9 S9))))))))) ++ (wX7 T b0 M ++ wJ cJ q f)) [(0, .ref b), (1, .ref (a0 99)), (2, .ref (b0 99)), (3, .ref q), (4, .int (nI (6 * j)))] 884 [] := by
  obtain ⟨C1, hXs, hbl, hL, hE, hX, hKJ⟩ := C0
  have hbA : ¬ (fun q : Nat => s.heap.size ≤ q) b := Nat.not_le.mpr hbl
  have hA : ∀ q : Nat, s.heap.size ≤ q → (fun q : Nat => s.heap.size ≤ q) q := fun _ h => h
  have C := C1 cells slots (by omega) (by omega)
  obtain ⟨x, S4', S5', S6', S7', S8', S9', M', h1, h2, h0, hI'⟩ := m_more (S3 := S3) (S9 := S9) hI (sv xs (6 * j) 1) (sv xs (6 * j) 2) (sv xs (6 * j) 3) (sv xs (6 * j) 4)
  refine z_aload_n C dL_law_884 rfl 1 rfl 885 rfl ?_
  refine z_sarg (z := 1) 1 C hXs hbl hbA (lw_in hL hj 1 (by decide)) (by decide) rfl rfl dL_law_885 dL_law_886 dL_law_888 dL_law_889 dL_law_890 891 rfl ?_
  refine z_sarg (z := 2) 2 C hXs hbl hbA (lw_in hL hj 2 (by decide)) (by decide) rfl rfl dL_law_891 dL_law_892 dL_law_894 dL_law_895 dL_law_896 897 rfl ?_
  refine z_sarg (z := 3) 3 C hXs hbl hbA (lw_in hL hj 3 (by decide)) (by decide) rfl rfl dL_law_897 dL_law_898 dL_law_900 dL_law_901 dL_law_902 903 rfl ?_
  refine z_sarg (z := 4) 4 C hXs hbl hbA (lw_in hL hj 4 (by decide)) (by decide) rfl rfl dL_law_903 dL_law_904 dL_law_906 dL_law_907 dL_law_908 909 rfl ?_
  refine z_callL C (c_X6_more l D T a0 a1 a2 a3 a4 a5 a6 a7 a8 a9 S1 S2 S3 S4 S5 S6 S7 S8 S9 (sv xs (6 * j) 1) (sv xs (6 * j) 2) (sv xs (6 * j) 3) (sv xs (6 * j) 4) (x, S4', S5', S6', S7', S8', S9') h1) ⟨rfl, rfl⟩ (z_cwV C 4 gL_law_X6_more rfl rfl dd_X6_more ⟨(Nat.le_of_ble_eq_true rfl), (Nat.le_of_ble_eq_true rfl)⟩) hD ⟨a0 99, [.int (sv xs (6 * j) 1), .int (sv xs (6 * j) 2), .int (sv xs (6 * j) 3), .int (sv xs (6 * j) 4)], 5, 0, _, _, rfl, rfl, rfl, rfl, rfl⟩ rfl (Nat.le_of_ble_eq_true rfl) dL_law_909 912 rfl ?_
  have hD1 : va_D (fun q : Nat => s.heap.size ≤ q) ((wX6 a0 a1 a2 a3 a4 a5 a6 a7 a8 a9 ++ (wX4 T a1 S1 ++ (wX1 T a2 S2 ++ (wX1 T a3 S3 ++ (wX0 T a4 S4' ++ (wX5 T a5 S5' ++ (wX5 T a6 S6' ++ (wX5 T a7 S7' ++ (wX5 T a8 S8' ++ wX3 T a9 S9'))))))))) ++ (wX7 T b0 M ++ wJ cJ q f)) := hD.zaddr rfl
  refine z_aload_n C dL_law_912 rfl 2 rfl 913 rfl ?_
  refine z_sarg (z := 1) 1 C hXs hbl hbA (lw_in hL hj 1 (by decide)) (by decide) rfl rfl dL_law_913 dL_law_914 dL_law_916 dL_law_917 dL_law_918 919 rfl ?_
  refine z_sarg (z := 2) 2 C hXs hbl hbA (lw_in hL hj 2 (by decide)) (by decide) rfl rfl dL_law_919 dL_law_920 dL_law_922 dL_law_923 dL_law_924 925 rfl ?_
  refine z_sarg (z := 3) 3 C hXs hbl hbA (lw_in hL hj 3 (by decide)) (by decide) rfl rfl dL_law_925 dL_law_926 dL_law_928 dL_law_929 dL_law_930 931 rfl ?_
  refine z_sarg (z := 4) 4 C hXs hbl hbA (lw_in hL hj 4 (by decide)) (by decide) rfl rfl dL_law_931 dL_law_932 dL_law_934 dL_law_935 dL_law_936 937 rfl ?_
  refine z_callM (wa := (wX6 a0 a1 a2 a3 a4 a5 a6 a7 a8 a9 ++ (wX4 T a1 S1 ++ (wX1 T a2 S2 ++ (wX1 T a3 S3 ++ (wX0 T a4 S4' ++ (wX5 T a5 S5' ++ (wX5 T a6 S6' ++ (wX5 T a7 S7' ++ (wX5 T a8 S8' ++ wX3 T a9 S9')))))))))) C (c_X7_more l D T b0 M (sv xs (6 * j) 1) (sv xs (6 * j) 2) (sv xs (6 * j) 3) (sv xs (6 * j) 4) (x, M') h2) ⟨rfl, rfl⟩ (z_cwV C 4 gL_law_X7_more rfl rfl dd_X7_more ⟨(Nat.le_of_ble_eq_true rfl), (Nat.le_of_ble_eq_true rfl)⟩) hD1 ⟨b0 99, [.int (sv xs (6 * j) 1), .int (sv xs (6 * j) 2), .int (sv xs (6 * j) 3), .int (sv xs (6 * j) 4)], 6, 0, _, _, rfl, rfl, rfl, rfl, rfl⟩ rfl (Nat.le_of_ble_eq_true rfl) dL_law_937 940 rfl ?_
  refine z_icmp_eq (X := some ()) (Y := none) (ex := ()) C 1019 dL_law_940 (by decide) 943 rfl (if_pos rfl) (fun _ => ?_) (fun h => nomatch h)
  exact KK K a0 a1 a2 a3 a4 a5 a6 a7 a8 a9 b0 S1 S2 S3 S4' S5' S6' S7' S8' S9' M' q f cells slots hI' (hD.zaddr rfl) (by omega) (by omega)

set_option maxHeartbeats 4000000 in
set_option maxRecDepth 100000 in
theorem lw_best {j : Nat} {K : Nat → Nat → Nat} {a0 a1 a2 a3 a4 a5 a6 a7 a8 a9 b0 : Nat → Nat} {S1 S2 S3 S4 S5 S6 S7 S8 S9 M : Nat → Nat → Int32} {q : Nat} {f : Nat → Int64} {cells slots : Nat} (C0 : lwC p s m meth c D T adK adV b L sa xs cJ) (hj : 6 * j + 6 ≤ L) (hI : ivK K S1 S2 S4 S5 S6 S7 S8 M) (hD : va_D (fun q : Nat => s.heap.size ≤ q) ((wX6 a0 a1 a2 a3 a4 a5 a6 a7 a8 a9 ++ (wX4 T a1 S1 ++ (wX1 T a2 S2 ++ (wX1 T a3 S3 ++ (wX0 T a4 S4 ++ (wX5 T a5 S5 ++ (wX5 T a6 S6 ++ (wX5 T a7 S7 ++ (wX5 T a8 S8 ++ wX3 T a9 S9))))))))) ++ (wX7 T b0 M ++ wJ cJ q f))) (hc : cells + 5 * tpL S1 ≤ 53 + 106 * j) (hs : slots + 25 * tpL S1 ≤ 98797 + 600 * j) (KK : lwG p l e s m below meth c Q D T b cJ j) : zt p l e room_1 s m #[Value.ref b] below meth c 7 (fun q : Nat => s.heap.size ≤ q) D cells slots Q ((wX6 a0 a1 a2 a3 a4 a5 a6 a7 a8 a9 ++ (wX4 T a1 S1 ++ (wX1 T a2 S2 ++ (wX1 T a3 S3 ++ (wX0 T a4 S4 ++ (wX5 T a5 S5 ++ (wX5 T a6 S6 ++ (wX5 T a7 S7 ++ (wX5 T a8 S8 ++ wX3 T a9 S9))))))))) ++ (wX7 T b0 M ++ wJ cJ q f)) [(0, .ref b), (1, .ref (a0 99)), (2, .ref (b0 99)), (3, .ref q), (4, .int (nI (6 * j)))] 945 [] := by
  obtain ⟨C1, hXs, hbl, hL, hE, hX, hKJ⟩ := C0
  have hbA : ¬ (fun q : Nat => s.heap.size ≤ q) b := Nat.not_le.mpr hbl
  have hA : ∀ q : Nat, s.heap.size ≤ q → (fun q : Nat => s.heap.size ≤ q) q := fun _ h => h
  have C := C1 cells slots (by omega) (by omega)
  obtain ⟨x, S4', M', h1, h2, h0, hI'⟩ := m_best (S3 := S3) (S9 := S9) hI (sv xs (6 * j) 1) (sv xs (6 * j) 2) (sv xs (6 * j) 3)
  refine z_aload_n C dL_law_945 rfl 1 rfl 946 rfl ?_
  refine z_sarg (z := 1) 1 C hXs hbl hbA (lw_in hL hj 1 (by decide)) (by decide) rfl rfl dL_law_946 dL_law_947 dL_law_949 dL_law_950 dL_law_951 952 rfl ?_
  refine z_sarg (z := 2) 2 C hXs hbl hbA (lw_in hL hj 2 (by decide)) (by decide) rfl rfl dL_law_952 dL_law_953 dL_law_955 dL_law_956 dL_law_957 958 rfl ?_
  refine z_sarg (z := 3) 3 C hXs hbl hbA (lw_in hL hj 3 (by decide)) (by decide) rfl rfl dL_law_958 dL_law_959 dL_law_961 dL_law_962 dL_law_963 964 rfl ?_
  refine z_callL C (c_X6_best l D T a0 a1 a2 a3 a4 a5 a6 a7 a8 a9 S1 S2 S3 S4 S5 S6 S7 S8 S9 (sv xs (6 * j) 1) (sv xs (6 * j) 2) (sv xs (6 * j) 3) (x, S4') h1) ⟨rfl, rfl⟩ (z_cwV C 3 gL_law_X6_best rfl rfl dd_X6_best ⟨(Nat.le_of_ble_eq_true rfl), (Nat.le_of_ble_eq_true rfl)⟩) hD ⟨a0 99, [.int (sv xs (6 * j) 1), .int (sv xs (6 * j) 2), .int (sv xs (6 * j) 3)], 5, 0, _, _, rfl, rfl, rfl, rfl, rfl⟩ rfl (Nat.le_of_ble_eq_true rfl) dL_law_964 967 rfl ?_
  have hD1 : va_D (fun q : Nat => s.heap.size ≤ q) ((wX6 a0 a1 a2 a3 a4 a5 a6 a7 a8 a9 ++ (wX4 T a1 S1 ++ (wX1 T a2 S2 ++ (wX1 T a3 S3 ++ (wX0 T a4 S4' ++ (wX5 T a5 S5 ++ (wX5 T a6 S6 ++ (wX5 T a7 S7 ++ (wX5 T a8 S8 ++ wX3 T a9 S9))))))))) ++ (wX7 T b0 M ++ wJ cJ q f)) := hD.zaddr rfl
  refine z_aload_n C dL_law_967 rfl 2 rfl 968 rfl ?_
  refine z_sarg (z := 1) 1 C hXs hbl hbA (lw_in hL hj 1 (by decide)) (by decide) rfl rfl dL_law_968 dL_law_969 dL_law_971 dL_law_972 dL_law_973 974 rfl ?_
  refine z_sarg (z := 2) 2 C hXs hbl hbA (lw_in hL hj 2 (by decide)) (by decide) rfl rfl dL_law_974 dL_law_975 dL_law_977 dL_law_978 dL_law_979 980 rfl ?_
  refine z_sarg (z := 3) 3 C hXs hbl hbA (lw_in hL hj 3 (by decide)) (by decide) rfl rfl dL_law_980 dL_law_981 dL_law_983 dL_law_984 dL_law_985 986 rfl ?_
  refine z_callM (wa := (wX6 a0 a1 a2 a3 a4 a5 a6 a7 a8 a9 ++ (wX4 T a1 S1 ++ (wX1 T a2 S2 ++ (wX1 T a3 S3 ++ (wX0 T a4 S4' ++ (wX5 T a5 S5 ++ (wX5 T a6 S6 ++ (wX5 T a7 S7 ++ (wX5 T a8 S8 ++ wX3 T a9 S9)))))))))) C (c_X7_best l D T b0 M (sv xs (6 * j) 1) (sv xs (6 * j) 2) (sv xs (6 * j) 3) (x, M') h2) ⟨rfl, rfl⟩ (z_cwV C 3 gL_law_X7_best rfl rfl dd_X7_best ⟨(Nat.le_of_ble_eq_true rfl), (Nat.le_of_ble_eq_true rfl)⟩) hD1 ⟨b0 99, [.int (sv xs (6 * j) 1), .int (sv xs (6 * j) 2), .int (sv xs (6 * j) 3)], 6, 0, _, _, rfl, rfl, rfl, rfl, rfl⟩ rfl (Nat.le_of_ble_eq_true rfl) dL_law_986 989 rfl ?_
  refine z_icmp_eq (X := some ()) (Y := none) (ex := ()) C 1019 dL_law_989 (by decide) 992 rfl (if_pos rfl) (fun _ => ?_) (fun h => nomatch h)
  exact KK K a0 a1 a2 a3 a4 a5 a6 a7 a8 a9 b0 S1 S2 S3 S4' S5 S6 S7 S8 S9 M' q f cells slots hI' (hD.zaddr rfl) (by omega) (by omega)

set_option maxHeartbeats 4000000 in
set_option maxRecDepth 100000 in
theorem lw_count {j : Nat} {K : Nat → Nat → Nat} {a0 a1 a2 a3 a4 a5 a6 a7 a8 a9 b0 : Nat → Nat} {S1 S2 S3 S4 S5 S6 S7 S8 S9 M : Nat → Nat → Int32} {q : Nat} {f : Nat → Int64} {cells slots : Nat} (C0 : lwC p s m meth c D T adK adV b L sa xs cJ) (hj : 6 * j + 6 ≤ L) (hI : ivK K S1 S2 S4 S5 S6 S7 S8 M) (hD : va_D (fun q : Nat => s.heap.size ≤ q) ((wX6 a0 a1 a2 a3 a4 a5 a6 a7 a8 a9 ++ (wX4 T a1 S1 ++ (wX1 T a2 S2 ++ (wX1 T a3 S3 ++ (wX0 T a4 S4 ++ (wX5 T a5 S5 ++ (wX5 T a6 S6 ++ (wX5 T a7 S7 ++ (wX5 T a8 S8 ++ wX3 T a9 S9))))))))) ++ (wX7 T b0 M ++ wJ cJ q f))) (hc : cells + 5 * tpL S1 ≤ 53 + 106 * j) (hs : slots + 25 * tpL S1 ≤ 98797 + 600 * j) (KK : lwG p l e s m below meth c Q D T b cJ j) : zt p l e room_1 s m #[Value.ref b] below meth c 7 (fun q : Nat => s.heap.size ≤ q) D cells slots Q ((wX6 a0 a1 a2 a3 a4 a5 a6 a7 a8 a9 ++ (wX4 T a1 S1 ++ (wX1 T a2 S2 ++ (wX1 T a3 S3 ++ (wX0 T a4 S4 ++ (wX5 T a5 S5 ++ (wX5 T a6 S6 ++ (wX5 T a7 S7 ++ (wX5 T a8 S8 ++ wX3 T a9 S9))))))))) ++ (wX7 T b0 M ++ wJ cJ q f)) [(0, .ref b), (1, .ref (a0 99)), (2, .ref (b0 99)), (3, .ref q), (4, .int (nI (6 * j)))] 994 [] := by
  obtain ⟨C1, hXs, hbl, hL, hE, hX, hKJ⟩ := C0
  have hbA : ¬ (fun q : Nat => s.heap.size ≤ q) b := Nat.not_le.mpr hbl
  have hA : ∀ q : Nat, s.heap.size ≤ q → (fun q : Nat => s.heap.size ≤ q) q := fun _ h => h
  have C := C1 cells slots (by omega) (by omega)
  obtain ⟨x, S4', M', h1, h2, h0, hI'⟩ := m_count (S3 := S3) (S9 := S9) hI (sv xs (6 * j) 1)
  refine z_aload_n C dL_law_994 rfl 1 rfl 995 rfl ?_
  refine z_sarg (z := 1) 1 C hXs hbl hbA (lw_in hL hj 1 (by decide)) (by decide) rfl rfl dL_law_995 dL_law_996 dL_law_998 dL_law_999 dL_law_1000 1001 rfl ?_
  refine z_callL C (c_X6_count l D T a0 a1 a2 a3 a4 a5 a6 a7 a8 a9 S1 S2 S3 S4 S5 S6 S7 S8 S9 (sv xs (6 * j) 1) (x, S4') h1) ⟨rfl, rfl⟩ (z_cwV C 1 gL_law_X6_count rfl rfl dd_X6_count ⟨(Nat.le_of_ble_eq_true rfl), (Nat.le_of_ble_eq_true rfl)⟩) hD ⟨a0 99, [.int (sv xs (6 * j) 1)], 5, 0, _, _, rfl, rfl, rfl, rfl, rfl⟩ rfl (Nat.le_of_ble_eq_true rfl) dL_law_1001 1004 rfl ?_
  have hD1 : va_D (fun q : Nat => s.heap.size ≤ q) ((wX6 a0 a1 a2 a3 a4 a5 a6 a7 a8 a9 ++ (wX4 T a1 S1 ++ (wX1 T a2 S2 ++ (wX1 T a3 S3 ++ (wX0 T a4 S4' ++ (wX5 T a5 S5 ++ (wX5 T a6 S6 ++ (wX5 T a7 S7 ++ (wX5 T a8 S8 ++ wX3 T a9 S9))))))))) ++ (wX7 T b0 M ++ wJ cJ q f)) := hD.zaddr rfl
  refine z_aload_n C dL_law_1004 rfl 2 rfl 1005 rfl ?_
  refine z_sarg (z := 1) 1 C hXs hbl hbA (lw_in hL hj 1 (by decide)) (by decide) rfl rfl dL_law_1005 dL_law_1006 dL_law_1008 dL_law_1009 dL_law_1010 1011 rfl ?_
  refine z_callM (wa := (wX6 a0 a1 a2 a3 a4 a5 a6 a7 a8 a9 ++ (wX4 T a1 S1 ++ (wX1 T a2 S2 ++ (wX1 T a3 S3 ++ (wX0 T a4 S4' ++ (wX5 T a5 S5 ++ (wX5 T a6 S6 ++ (wX5 T a7 S7 ++ (wX5 T a8 S8 ++ wX3 T a9 S9)))))))))) C (c_X7_count l D T b0 M (sv xs (6 * j) 1) (x, M') h2) ⟨rfl, rfl⟩ (z_cwV C 1 gL_law_X7_count rfl rfl dd_X7_count ⟨(Nat.le_of_ble_eq_true rfl), (Nat.le_of_ble_eq_true rfl)⟩) hD1 ⟨b0 99, [.int (sv xs (6 * j) 1)], 6, 0, _, _, rfl, rfl, rfl, rfl, rfl⟩ rfl (Nat.le_of_ble_eq_true rfl) dL_law_1011 1014 rfl ?_
  refine z_icmp_eq (X := some ()) (Y := none) (ex := ()) C 1019 dL_law_1014 (by decide) 1017 rfl (if_pos rfl) (fun _ => ?_) (fun h => nomatch h)
  exact KK K a0 a1 a2 a3 a4 a5 a6 a7 a8 a9 b0 S1 S2 S3 S4' S5 S6 S7 S8 S9 M' q f cells slots hI' (hD.zaddr rfl) (by omega) (by omega)
end LWC
