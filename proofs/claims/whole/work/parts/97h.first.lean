/-! the first state of both; the reference's at -/
section MFI
theorem m_new : ∃ A N1 N2, f_X1_beginAnew (fun _ _ => 0) 5 12 = some A ∧ f_X7_begins (fun _ _ => 0) 5 12 = some N1 ∧ f_X7_asAtFirst N1 = some N2 ∧ N2 0 0 = 0 ∧ ivK (begK 5 12) (fun _ _ => 0) A (fun _ _ => 0) (fun _ _ => 0) (fun _ _ => 0) (fun _ _ => 0) (fun _ _ => 0) N2 := by
  obtain ⟨A, a1, a2⟩ := e_beginAnew (S := fun _ _ => 0) 5 12
  have h0 : repM (fun _ _ => 0) (fun _ _ => 0) := ⟨⟨rfl, rfl, rfl, rfl, rfl, rfl⟩, fun _ _ _ _ _ => rfl, fun _ _ => rfl⟩
  obtain ⟨N1, b1, b2, b3⟩ := e_beginsK h0 5 12
  refine ⟨A, N1, zst (zst (zst N1 3 0 10) 4 0 4) 5 0 3, a1, b1, rfl, ?_, beg_wf (by decide) (by decide) (by decide) (by decide), a2, ⟨⟨?_, ?_, ?_, ?_, ?_, ?_⟩, fun k p _ _ hp => absurd hp (Nat.not_lt_zero _), fun c hc => ?_⟩, ⟨0, fun _ => 0, by decide, rfl, ?_, fun k hk => absurd hk (Nat.not_lt_zero _)⟩, Or.inl rfl, Or.inl rfl, Or.inl rfl, Or.inl rfl, Or.inl rfl⟩
  · rw [zst_ne _ (by decide), zst_ne _ (by decide), zst_ne _ (by decide), b3 0 (by decide) (by decide) (by decide) (by decide)]
  · rw [zst_ne _ (by decide), zst_ne _ (by decide), zst_ne _ (by decide)]; exact b2.1.1
  · rw [zst_ne _ (by decide), zst_ne _ (by decide), zst_ne _ (by decide)]; exact b2.1.2.1
  · rw [zst_ne _ (by decide), zst_ne _ (by decide), zst_same]; rfl
  · rw [zst_ne _ (by decide), zst_same]; rfl
  · rw [zst_same]; rfl
  · rw [zst_ne _ (by decide), zst_ne _ (by decide), zst_ne _ (by decide)]; exact b2.1.2.2.2.2.2
  · rw [zst_ne _ (by decide), zst_ne _ (by decide), zst_ne _ (by decide)]; exact b2.2.2 c hc
  · rw [zst_ne _ (by decide), zst_ne _ (by decide), zst_ne _ (by decide), b3 12 (by decide) (by decide) (by decide) (by decide)]; rfl
theorem m_at {K : Nat → Nat → Nat} {S1 S2 S4 S5 S6 S7 S8 M : Nat → Nat → Int32} (hI : ivK K S1 S2 S4 S5 S6 S7 S8 M) (v1 v2 : Int32) : ((¬ ∃ g j, g < K 5 0 ∧ j < 3 ∧ v1 = nI g ∧ v2 = nI j) ∧ f_X7_at M v1 v2 = some (0, zst M 0 0 1) ∧ ivK K S1 S2 S4 S5 S6 S7 S8 (zst M 0 0 1)) ∨ ∃ g j, g < K 5 0 ∧ j < 3 ∧ v1 = nI g ∧ v2 = nI j ∧ f_X7_at M v1 v2 = some (nI (K (6 + j) g), zst M 0 0 0) ∧ S2 (6 + j) g = nI (K (6 + j) g) ∧ ivK K S1 S2 S4 S5 S6 S7 S8 (zst M 0 0 0) := by
  have hI0 := ivK_0 hI
  have hI1 : ivK K S1 S2 S4 S5 S6 S7 S8 (zst M 0 0 1) := ivK_f (fun k h1 _ => zst_ne _ (by omega) _ _) hI
  obtain ⟨i1, i2, i3, i4, i5⟩ := hI
  have h7 := i1.1.2.2.2.2.2.2.2.2
  have hbad : f_X7_at_J28 M v1 v2 = some (0, zst M 0 0 1) := by
    unfold f_X7_at_J28 f_X7_at_J29
    rw [zlet_eq, zst_same, if_neg (show ¬ (1 : Int32) ≤ 0 by decide)]
  unfold f_X7_at
  rw [i3.1.2.2.2.2.2]
  rcases hp6 (S1 := S1) (S3 := S1) (S4 := S4) (S5 := S5) (S6 := S6) (S7 := S7) (S8 := S8) (S9 := S1) h7 (i2.1 5 (by decide)) v1 with ⟨a1, a2⟩ | ⟨g, hg, rfl, a1, a2⟩
  · rw [a2, Option.bind_some, if_pos rfl]
    refine Or.inl ⟨?_, hbad, hI1⟩
    rintro ⟨g, j, hg, _, rfl, _⟩
    unfold f_X6_hasPlace at a1
    rw [if_neg (nI_pos (by omega)), ilen (i2.1 5 (by decide)) rfl hg (by omega)] at a1
    exact absurd a1 (by decide)
  rw [a2, Option.bind_some, if_neg (show ¬ (1 : Int32) = 0 by decide)]
  rcases wi6 (v := v2) (lo := 0) (hi := 2) (by decide) (by decide) with ⟨d1, d2⟩ | ⟨j, rfl, j1, j2, d1, d2⟩
  · rw [show f_X7_within v2 0 2 = _ from d2, Option.bind_some, if_pos rfl]
    refine Or.inl ⟨?_, hbad, hI1⟩
    rintro ⟨g', j, _, hj, _, rfl⟩
    unfold f_X6_isWithin at d1
    rw [if_neg (nI_nlt (Nat.zero_le _) (by omega)), if_neg (nI_nlt (show j ≤ 2 by omega) (by omega))] at d1
    exact absurd d1 (by decide)
  · rw [show f_X7_within (nI j) 0 2 = _ from d2, Option.bind_some, if_neg (show ¬ (1 : Int32) = 0 by decide)]
    refine Or.inr ⟨g, j, hg, by omega, rfl, rfl, ?_, i2.2.1 (6 + j) g (by omega) (by omega) hg, hI0⟩
    have hM := i3.2.1 (6 + j) g (by omega) (by omega) hg
    unfold f_X7_at_J29
    rw [zlet_eq, zst_same, if_pos (show (0 : Int32) ≤ 0 by decide)]
    rcases (show j = 0 ∨ j = 1 ∨ j = 2 by omega) with rfl | rfl | rfl
    · rw [if_pos (show nI 0 = 0 from rfl), zix_nI (by omega) (by decide), nI_clamp (by omega), zst_ne _ (by decide)]
      rw [show M 6 g = _ from hM]
    · rw [if_neg (show ¬ nI 1 = 0 by decide), if_pos (show nI 1 = 1 from rfl), zix_nI (by omega) (by decide), nI_clamp (by omega), zst_ne _ (by decide)]
      rw [show M 7 g = _ from hM]
    · rw [if_neg (show ¬ nI 2 = 0 by decide), if_neg (show ¬ nI 2 = 1 by decide), zix_nI (by omega) (by decide), nI_clamp (by omega), zst_ne _ (by decide)]
      rw [show M 8 g = _ from hM]
end MFI
