/-! the class's fillCell, fill -/
section FI2
theorem sub_mono1 : ∀ b, b < 128 → ∀ i, i < nsub b - 1 → subN b i < subN b (i + 1) := by decide +kernel
theorem sub_mono {b : Nat} (hb : b < 128) {i : Nat} : ∀ j, i < j → j < nsub b → subN b i < subN b j := by
  intro j
  induction j with
  | zero => intro h; omega
  | succ j ih =>
    intro h1 h2
    have h3 := sub_mono1 b hb j (by omega)
    by_cases e : i = j
    · subst e; exact h3
    · have := ih (by omega) (by omega); omega
theorem sub_mem {b : Nat} (hb : b < 128) {i : Nat} (hi : i < nsub b) : sb (subN b i) b ∧ subN b i < 128 := by
  have h : subN b i ∈ (List.range 128).filter (fun p => p &&& b = p) := by
    rw [← enum1 b hb]; exact List.mem_map.mpr ⟨i, List.mem_range.mpr hi, rfl⟩
  rw [List.mem_filter, List.mem_range] at h
  exact ⟨show subN b i &&& b = subN b i from of_decide_eq_true h.2, h.1⟩
theorem sub_all {b p : Nat} (hb : b < 128) (hp : sb p b) : ∃ i, i < nsub b ∧ subN b i = p := by
  have hlt : p < 128 := sb_lt (n := 7) hp hb
  have h : p ∈ (List.range 128).filter (fun p => p &&& b = p) := List.mem_filter.mpr ⟨List.mem_range.mpr hlt, decide_eq_true (show p &&& b = p from hp)⟩
  rw [← enum1 b hb] at h
  obtain ⟨i, hi, he⟩ := List.mem_map.mp h
  exact ⟨i, List.mem_range.mp hi, he⟩
theorem cellR {K : Nat → Nat → Nat} (hK : wfK K) {r t : Nat} (hr : r ≤ K 0 0) (ht : t < wid K r) : 24 * r + t < 240 := by
  have := wid_le hK r
  have := hK.1.2.1
  omega
theorem tabR_fr {S S' : Nat → Nat → Int32} {K : Nat → Nat → Nat} (hK : wfK K) {r t c : Nat} (hne : 24 * r + t ≠ c) (h5 : S' 5 (24 * r + t) = S 5 (24 * r + t)) (h7 : ∀ j, j < 128 * c ∨ 128 * c + 128 ≤ j → S' 7 j = S 7 j) (h : tabR S K r t) : tabR S' K r t := by
  refine ⟨by rw [h5]; exact h.1, fun s h0 hs => ?_⟩
  have := sb_lt (n := 7) hs (Rt_128 hK r t)
  rw [h7 _ (by omega)]; exact h.2 s h0 hs
theorem tabP_fr {S S' : Nat → Nat → Int32} {K : Nat → Nat → Nat} (h6 : S' 6 = S 6) (h8 : S' 8 = S 8) (h9 : S' 9 = S 9) (h : tabP S K) : tabP S' K := by
  unfold tabP; rw [h6, h8, h9]; exact h
theorem e_fillCell {S S1 : Nat → Nat → Int32} {K : Nat → Nat → Nat} (hK : wfK K) (hC : repC S1 K) {r t : Nat} (hr : r ≤ K 0 0) (ht : t < wid K r) (h5 : S 5 (24 * r + t) = nI (Rt K r t)) (hT : tabP S K) (hO : r < K 0 0 → ∀ t', t' < K 1 0 → tabR S K (r + 1) t') : ∃ S', f_X0_fillCell S S1 (nI r) (nI t) = some S' ∧ tabR S' K r t ∧ (∀ k, k = 0 ∨ k = 5 ∨ k = 6 ∨ 8 ≤ k → S' k = S k) ∧ ∀ j, j < 128 * (24 * r + t) ∨ 128 * (24 * r + t) + 128 ≤ j → S' 7 j = S 7 j := by
  have hX := Rt_128 hK r t
  have hc := cellR hK hr ht
  have hwd := wid_le hK r
  have hb := e_bitCount (Rt K r t) hX
  have hle := nsub_le (Rt K r t) hX
  have hpo := nsub_pos (Rt K r t) hX
  unfold f_X0_fillCell
  rw [e_cellOf, Option.bind_some, zix_nI hc (by decide), nI_clamp (by omega), h5]
  cases hr1 : f_J6_bitCount_0f7a4 (nI (Rt K r t)) with
  | none => rw [hr1] at hb; cases hb
  | some b =>
    rw [hr1] at hb
    have hb' : (1 : Int32) <<< (b &&& 31) = nI (nsub (Rt K r t)) := Option.some.inj hb
    rw [Option.bind_some, zlet_eq, hb']
    have key : ∃ ex, (tabR ex K r t ∧ (∀ k, k = 0 ∨ k = 5 ∨ k = 6 ∨ 8 ≤ k → ex k = S k) ∧ ∀ j, j < 128 * (24 * r + t) ∨ 128 * (24 * r + t) + 128 ≤ j → ex 7 j = S 7 j) ∧ zloop (fun rec a => f_X0_fillCell_L27b S1 (nI r) (nI t) (nI (24 * r + t)) (nI (nsub (Rt K r t))) rec a) zfuel (0, 1, S) = some ex := by
      refine zinv (I := fun i a => ∃ A, a = (nI (subN (Rt K r t) i), nI (i + 1), A) ∧ (∀ k, k = 0 ∨ k = 5 ∨ k = 6 ∨ 8 ≤ k → A k = S k) ∧ (∀ j, j < 128 * (24 * r + t) ∨ 128 * (24 * r + t) + 128 ≤ j → A 7 j = S 7 j) ∧ ∀ j, 1 ≤ j → j ≤ i → A 7 (128 * (24 * r + t) + subN (Rt K r t) j) = nI (Bt K r t (subN (Rt K r t) j)).1) _ (nsub (Rt K r t) - 1) (by omega) ?_ ?_ ?_
      · rintro i hi a ⟨A, rfl, g1, g2, g3⟩
        obtain ⟨m1, m2⟩ := sub_mem hX (i := i + 1) (by omega)
        have m0 : 0 < subN (Rt K r t) (i + 1) := by have := sub_mono hX (i := i) (i + 1) (by omega) (by omega); omega
        have hch := e_choose (S := A) hK hC hr ht m0 m1 (tabP_fr (g1 6 (by omega)) (g1 8 (by omega)) (g1 9 (by omega)) hT) (fun q t' ht' => tabR_fr hK (c := 24 * r + t) (by omega) (by rw [g1 5 (by omega)]) g2 (hO q t' ht')) (fun p p0 ps psb => by
          obtain ⟨j, hj, rfl⟩ := sub_all hX (sb_tr psb m1)
          refine g3 j ?_ ?_
          · rcases Nat.eq_zero_or_pos j with q | q
            · rw [q] at p0; exact absurd p0 (by show ¬ 0 < 0; omega)
            · exact q
          · rcases Nat.lt_or_ge i j with q | q
            · by_cases q2 : j = i + 1
              · rw [q2] at ps; omega
              · have := sub_mono hX (i := i + 1) j (by omega) hj; omega
            · exact q)
        refine ⟨(nI (subN (Rt K r t) (i + 1)), nI (i + 1 + 1), zst (chS A K r t (Bt K r t (subN (Rt K r t) (i + 1)))) 7 (128 * (24 * r + t) + subN (Rt K r t) (i + 1)) (nI (Bt K r t (subN (Rt K r t) (i + 1))).1)), ⟨_, rfl, ?_, ?_, ?_⟩, fun rec => ?_⟩
        · intro k hk; rw [zst_ne _ (by omega), chS_ne (by omega)]; exact g1 k hk
        · intro j hj; rw [zst_row, upd_ne _ (by omega), chS_ne (by omega)]; exact g2 j hj
        · intro j j1 j2
          by_cases e : j = i + 1
          · rw [e, zst_same]
          · have := sub_mono hX (i := j) (i + 1) (by omega) (by omega)
            rw [zst_row, upd_ne _ (by omega), chS_ne (by omega)]; exact g3 j j1 (by omega)
        · have hfin := (Bt_ok hK (r := r) (t := t) m0 (sb_lt m1 (Rt_lt K r t))).1.mpr m1
          have hink : chS A K r t (Bt K r t (subN (Rt K r t) (i + 1))) 1 0 = nI (Bt K r t (subN (Rt K r t) (i + 1))).1 := by
            rw [chS_1.1]; unfold inkI; rw [if_neg (by omega)]
          unfold f_X0_fillCell_L27b
          dsimp only
          rw [if_neg (nI_ge (by omega) (by omega)), zix_nI hc (by decide), nI_clamp (by omega), g1 5 (by omega), h5, e_nextSubset hX, Option.bind_some]
          show (f_X0_choose A S1 (nI r) (nI t) (nI (subN (Rt K r t) (i + 1)))).bind _ = _
          rw [hch, Option.bind_some]
          show zix ((nI (24 * r + t) * 128) + nI (subN (Rt K r t) (i + 1))) 30720 _ = _
          rw [l_128, pk_mul, nI_add, zix_nI (by omega) (by decide), zlet_eq, hink, nI_1, show (24 * r + t) * 128 = 128 * (24 * r + t) by omega]
          rfl
      · rintro a ⟨A, rfl, g1, g2, g3⟩
        refine ⟨A, ⟨⟨by rw [g1 5 (by omega)]; exact h5, fun s h0 hs => ?_⟩, g1, g2⟩, fun rec => ?_⟩
        · obtain ⟨j, hj, rfl⟩ := sub_all hX hs
          refine g3 j ?_ (by omega)
          rcases Nat.eq_zero_or_pos j with q | q
          · rw [q] at h0; exact absurd h0 (by show ¬ 0 < 0; omega)
          · exact q
        · unfold f_X0_fillCell_L27b
          dsimp only
          rw [if_pos (nI_le (by omega) (by omega))]
      · exact ⟨S, rfl, fun _ _ => rfl, fun _ _ => rfl, fun j h1 h2 => by omega⟩
    obtain ⟨S', ⟨q1, q2, q3⟩, hz⟩ := key
    refine ⟨S', ?_, q1, q2, q3⟩
    show (zloop (fun rec a => f_X0_fillCell_L27b S1 (nI r) (nI t) (nI (24 * r + t)) (nI (nsub (Rt K r t))) rec a) zfuel (0, 1, S)).bind _ = _
    rw [hz]; rfl
end FI2
