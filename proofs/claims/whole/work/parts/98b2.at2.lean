/-! at, of both -/
section AT2
theorem m_at2 {K : Nat → Nat → Nat} {S1 S2 S3 S4 S5 S6 S7 S8 S9 M : Nat → Nat → Int32} (hI : ivK K S1 S2 S4 S5 S6 S7 S8 M) (v1 v2 : Int32) : ∃ ex x M', f_X6_at S1 S2 S3 S4 S5 S6 S7 S8 S9 v1 v2 = some ex ∧ f_X7_at M v1 v2 = some (x, M') ∧ ivK K S1 S2 S4 S5 S6 S7 S8 M' ∧ ((ex = none ∧ M' 0 0 = 1) ∨ (ex = some x ∧ M' 0 0 = 0)) := by
  have hC : repC S2 K := hI.2.1
  have h7 : K 5 0 ≤ 7 := hI.1.1.2.2.2.2.2.2.2.2
  rcases m_at hI v1 v2 with ⟨hn, e1, hI'⟩ | ⟨g, j, hg, hj, rfl, rfl, e1, e2, hI'⟩
  · refine ⟨none, _, _, ?_, e1, hI', Or.inl ⟨rfl, zst_same _ _ _ _⟩⟩
    rcases hp6 (S1 := S1) (S3 := S3) (S4 := S4) (S5 := S5) (S6 := S6) (S7 := S7) (S8 := S8) (S9 := S9) h7 (hC.1 5 (by decide)) v1 with ⟨a1, a2⟩ | ⟨g, hg, rfl, a1, a2⟩
    · unfold f_X6_at
      rw [a1, Option.bind_some, if_pos rfl]
    · rcases wi6 (v := v2) (lo := 0) (hi := 2) (by decide) (by decide) with ⟨d1, d2⟩ | ⟨j, rfl, j1, j2, d1, d2⟩
      · unfold f_X6_at
        rw [a1, Option.bind_some, if_neg (show ¬ (1 : Int32) = 0 by decide), show f_X6_isWithin v2 0 2 = _ from d1, Option.bind_some, if_pos rfl]
      · exact absurd ⟨g, j, hg, by omega, rfl, rfl⟩ hn
  · refine ⟨some (nI (K (6 + j) g)), _, _, ?_, e1, hI', Or.inr ⟨rfl, zst_same _ _ _ _⟩⟩
    have a1 : f_X6_hasPlace S1 S2 S3 S4 S5 S6 S7 S8 S9 (nI g) = some 1 := by
      unfold f_X6_hasPlace
      rw [if_neg (nI_pos (by omega)), ilen (hC.1 5 (by decide)) rfl hg (by omega)]
    have d1 : f_X6_isWithin (nI j) 0 2 = some 1 := by
      show f_X6_isWithin (nI j) (nI 0) (nI 2) = some 1
      unfold f_X6_isWithin
      rw [if_neg (nI_nlt (Nat.zero_le _) (by omega)), if_neg (nI_nlt (show j ≤ 2 by omega) (by omega))]
    unfold f_X6_at
    rw [a1, Option.bind_some, if_neg (show ¬ (1 : Int32) = 0 by decide), d1, Option.bind_some, if_neg (show ¬ (1 : Int32) = 0 by decide)]
    rcases (show j = 0 ∨ j = 1 ∨ j = 2 by omega) with rfl | rfl | rfl
    · rw [if_pos (show nI 0 = 0 from rfl), zix_nI (by omega) (by decide), show S2 6 g = _ from e2]
    · rw [if_neg (show ¬ nI 1 = 0 by decide), if_pos (show nI 1 = 1 from rfl), zix_nI (by omega) (by decide), show S2 7 g = _ from e2]
    · rw [if_neg (show ¬ nI 2 = 0 by decide), if_neg (show ¬ nI 2 = 1 by decide), zix_nI (by omega) (by decide), show S2 8 g = _ from e2]
end AT2
