/-! the methods of both: what is within; chart and set -/
section MET
theorem wi6 {v : Int32} {lo hi : Nat} (hlo : lo < 2 ^ 31) (hhi : hi < 2 ^ 31) : (f_X6_isWithin v (nI lo) (nI hi) = some 0 ∧ f_X7_within v (nI lo) (nI hi) = some 0) ∨ ∃ n, v = nI n ∧ lo ≤ n ∧ n ≤ hi ∧ f_X6_isWithin v (nI lo) (nI hi) = some 1 ∧ f_X7_within v (nI lo) (nI hi) = some 1 := by
  unfold f_X6_isWithin f_X7_within
  by_cases q : v < nI lo
  · rw [if_pos q]; exact Or.inl ⟨rfl, rfl⟩
  · rw [if_neg q]
    have h0 : ¬ v < 0 := by
      intro z
      apply q
      rw [Int32.lt_iff_toInt_lt] at z ⊢
      rw [nI_toInt hlo]
      have : (0 : Int32).toInt = 0 := rfl
      omega
    obtain ⟨n, hn, rfl⟩ := nI_of h0
    by_cases w : nI hi < nI n
    · rw [if_pos w]; exact Or.inl ⟨rfl, rfl⟩
    · rw [if_neg w]
      refine Or.inr ⟨n, rfl, ?_, ?_, rfl, rfl⟩
      · rcases Nat.lt_or_ge n lo with z | z
        · exact absurd (nI_lt z hlo) q
        · exact z
      · rcases Nat.lt_or_ge hi n with z | z
        · exact absurd (nI_lt z hn) w
        · exact z
theorem hc6 {S M : Nat → Nat → Int32} {K : Nat → Nat → Nat} (hK : wfK K) (hS : repC S K) (hM : repM M K) (v1 v2 : Int32) : (f_X1_hasCell S v1 v2 = some 0 ∧ f_X7_isCell M v1 v2 = some 0 ∧ ¬ ∃ r t, v1 = nI r ∧ v2 = nI t ∧ 1 ≤ r ∧ r ≤ K 0 0 ∧ t < K 1 0) ∨ ∃ r t, v1 = nI r ∧ v2 = nI t ∧ 1 ≤ r ∧ r ≤ K 0 0 ∧ t < K 1 0 ∧ f_X1_hasCell S v1 v2 = some 1 ∧ f_X7_isCell M v1 v2 = some 1 := by
  obtain ⟨k1, k2, k3, k4, _⟩ := hK.1
  unfold f_X1_hasCell f_X7_isCell
  rw [hS.1 0 (by decide), hS.1 1 (by decide), hM.1.1, hM.1.2.1, prd (by omega)]
  rcases wi6 (v := v1) (lo := 1) (hi := K 0 0) (by decide) (by omega) with ⟨a1, a2⟩ | ⟨r, rfl, r1, r2, a1, a2⟩
  · rw [show f_X6_isWithin v1 1 (nI (K 0 0)) = _ from a1, show f_X7_within v1 1 (nI (K 0 0)) = _ from a2]
    refine Or.inl ⟨rfl, rfl, ?_⟩
    rintro ⟨r, t, rfl, _, z1, z2, _⟩
    unfold f_X6_isWithin at a1
    rw [if_neg (nI_nlt z1 (by omega)), if_neg (nI_nlt z2 (by omega))] at a1
    exact absurd a1 (by decide)
  · rw [show f_X6_isWithin (nI r) 1 (nI (K 0 0)) = _ from a1, show f_X7_within (nI r) 1 (nI (K 0 0)) = _ from a2, Option.bind_some, Option.bind_some, if_neg (show ¬ (1 : Int32) = 0 by decide), if_neg (show ¬ (1 : Int32) = 0 by decide)]
    rcases wi6 (v := v2) (lo := 0) (hi := K 1 0 - 1) (by decide) (by omega) with ⟨b1, b2⟩ | ⟨t, rfl, t1, t2, b1, b2⟩
    · rw [show f_X6_isWithin v2 0 (nI (K 1 0 - 1)) = _ from b1, show f_X7_within v2 0 (nI (K 1 0 - 1)) = _ from b2]
      refine Or.inl ⟨rfl, rfl, ?_⟩
      rintro ⟨r', t, _, rfl, _, _, z3⟩
      unfold f_X6_isWithin at b1
      rw [if_neg (nI_nlt (Nat.zero_le _) (by omega)), if_neg (nI_nlt (show t ≤ K 1 0 - 1 by omega) (by omega))] at b1
      exact absurd b1 (by decide)
    · rw [show f_X6_isWithin (nI t) 0 (nI (K 1 0 - 1)) = _ from b1, show f_X7_within (nI t) 0 (nI (K 1 0 - 1)) = _ from b2]
      exact Or.inr ⟨r, t, rfl, rfl, r1, r2, by omega, rfl, rfl⟩
theorem ha6 {S M : Nat → Nat → Int32} {K : Nat → Nat → Nat} (hK : wfK K) (hS : repC S K) (hM : repM M K) (v1 v2 : Int32) : (f_X1_hasCellOrSource S v1 v2 = some 0 ∧ f_X7_isAny M v1 v2 = some 0) ∨ ∃ r t, v1 = nI r ∧ v2 = nI t ∧ r ≤ K 0 0 ∧ t < wid K r ∧ f_X1_hasCellOrSource S v1 v2 = some 1 ∧ f_X7_isAny M v1 v2 = some 1 := by
  unfold f_X1_hasCellOrSource f_X7_isAny
  rcases hc6 hK hS hM v1 v2 with ⟨a1, a2, _⟩ | ⟨r, t, rfl, rfl, r1, r2, r3, a1, a2⟩
  · rw [a1, a2, Option.bind_some, if_pos rfl]
    by_cases z : v1 = 0
    · rw [if_pos z]
      by_cases y : v2 = 0
      · rw [if_pos y]
        exact Or.inr ⟨0, 0, z, y, Nat.zero_le _, by unfold wid; rw [if_pos rfl]; decide, rfl, rfl⟩
      · rw [if_neg y]; exact Or.inl ⟨rfl, rfl⟩
    · rw [if_neg z]; exact Or.inl ⟨rfl, rfl⟩
  · rw [a1, a2]
    exact Or.inr ⟨r, t, rfl, rfl, r2, by unfold wid; rw [if_neg (by omega)]; exact r3, rfl, rfl⟩
theorem fgt (S1 S2 S3 S4 S5 S6 S7 S8 S9 : Nat → Nat → Int32) : f_X6_forgetDrawings S1 S2 S3 S4 S5 S6 S7 S8 S9 = some (zst S4 0 0 0, zst S5 0 0 0, zst S6 0 0 0, zst S7 0 0 0, zst S8 0 0 0) := rfl
theorem fg5 {K : Nat → Nat → Nat} {S4 S5 S6 S7 S8 : Nat → Nat → Int32} : ((zst S4 0 0 0) 0 0 = 0 ∨ tabF (zst S4 0 0 0) K) ∧ ((zst S5 0 0 0) 0 0 = 0 ∨ drC K (zst S5 0 0 0) (tr1 K)) ∧ ((zst S6 0 0 0) 0 0 = 0 ∨ drC K (zst S6 0 0 0) (tr2 K)) ∧ ((zst S7 0 0 0) 0 0 = 0 ∨ drC K (zst S7 0 0 0) (tr3 K)) ∧ ((zst S8 0 0 0) 0 0 = 0 ∨ drC K (zst S8 0 0 0) (tr4 K)) := ⟨Or.inl (zst_same _ _ _ _), Or.inl (zst_same _ _ _ _), Or.inl (zst_same _ _ _ _), Or.inl (zst_same _ _ _ _), Or.inl (zst_same _ _ _ _)⟩
/-- what a method that changes the chart keeps -/
def chgQ (S1 : Nat → Nat → Int32) (c : Option (Int32 × (Nat → Nat → Int32) × (Nat → Nat → Int32) × (Nat → Nat → Int32) × (Nat → Nat → Int32) × (Nat → Nat → Int32) × (Nat → Nat → Int32))) (m : Option (Int32 × (Nat → Nat → Int32))) : Prop := ∃ x S2 S4 S5 S6 S7 S8 M, c = some (x, S2, S4, S5, S6, S7, S8) ∧ m = some (x, M) ∧ M 0 0 = 0 ∧ ∃ K, ivK K S1 S2 S4 S5 S6 S7 S8 M
theorem chg0 {K : Nat → Nat → Nat} {S1 S2 S4 S5 S6 S7 S8 M : Nat → Nat → Int32} {x : Int32} (hI : ivK K S1 S2 S4 S5 S6 S7 S8 M) : chgQ S1 (some (x, S2, S4, S5, S6, S7, S8)) (some (x, zst M 0 0 0)) := ⟨x, S2, S4, S5, S6, S7, S8, _, rfl, rfl, zst_same _ _ _ _, K, ivK_0 hI⟩
theorem m_chart {K : Nat → Nat → Nat} {S1 S2 S3 S4 S5 S6 S7 S8 S9 M : Nat → Nat → Int32} (hI : ivK K S1 S2 S4 S5 S6 S7 S8 M) (v1 v2 : Int32) : chgQ S1 (f_X6_chart S1 S2 S3 S4 S5 S6 S7 S8 S9 v1 v2) (f_X7_chart M v1 v2) := by
  unfold f_X6_chart f_X7_chart
  rw [zlet_eq]
  rcases wi6 (v := v1) (lo := 2) (hi := 9) (by decide) (by decide) with ⟨a1, a2⟩ | ⟨R, rfl, r1, r2, a1, a2⟩
  · rw [show f_X6_isWithin v1 2 9 = _ from a1, show f_X7_within v1 2 9 = _ from a2]
    exact chg0 hI
  rw [show f_X6_isWithin (nI R) 2 9 = _ from a1, show f_X7_within (nI R) 2 9 = _ from a2, Option.bind_some, Option.bind_some, if_neg (show ¬ (1 : Int32) = 0 by decide), if_neg (show ¬ (1 : Int32) = 0 by decide)]
  rcases wi6 (v := v2) (lo := 6) (hi := 24) (by decide) (by decide) with ⟨b1, b2⟩ | ⟨N, rfl, n1, n2, b1, b2⟩
  · rw [show f_X6_isWithin v2 6 24 = _ from b1, show f_X7_within v2 6 24 = _ from b2]
    exact chg0 hI
  rw [show f_X6_isWithin (nI N) 6 24 = _ from b1, show f_X7_within (nI N) 6 24 = _ from b2, Option.bind_some, Option.bind_some, if_neg (show ¬ (1 : Int32) = 0 by decide), if_neg (show ¬ (1 : Int32) = 0 by decide)]
  obtain ⟨i1, i2, i3, i4, i5⟩ := ivK_0 hI
  obtain ⟨S2', e1, e2⟩ := e_clearK i2 R N
  obtain ⟨M', f1, f2, f3⟩ := e_beginsK i3 R N
  rw [e1, Option.bind_some, fgt, Option.bind_some, f1, Option.bind_some]
  exact ⟨1, S2', _, _, _, _, _, M', rfl, rfl, by rw [f3 0 (by decide) (by decide) (by decide) (by decide), zst_same], clrK K R N, clr_wf ⟨i1.1.2.2.2.2.1, i1.1.2.2.2.2.2.1, i1.1.2.2.2.2.2.2.1, i1.1.2.2.2.2.2.2.2.1⟩ r1 r2 n1 n2, e2, f2, tpR_f (f3 11 (by decide) (by decide) (by decide) (by decide)) (f3 12 (by decide) (by decide) (by decide) (by decide)) i4, fg5⟩
def setK (K : Nat → Nat → Nat) (i v : Nat) : Nat → Nat → Nat := fun k j => if k = 2 + i then v else K k j
theorem setC {S : Nat → Nat → Int32} {K : Nat → Nat → Nat} {i v : Nat} (hi : i < 3) (hS : repC S K) : repC (zst S (2 + i) 0 (nI v)) (setK K i v) := by
  obtain ⟨h1, h2, h3⟩ := hS
  refine ⟨fun k hk => ?_, fun k p h6 h8 hp => ?_, fun c hc => ?_⟩
  · unfold setK
    by_cases z : k = 2 + i
    · rw [if_pos z, z, zst_same]
    · rw [if_neg z, zst_ne _ z]; exact h1 k hk
  · unfold setK at hp ⊢
    rw [if_neg (by omega)] at hp
    rw [if_neg (by omega), zst_ne _ (by omega)]; exact h2 k p h6 h8 hp
  · unfold setK
    rw [if_neg (by omega), zst_ne _ (by omega)]; exact h3 c hc
theorem setM {M M' : Nat → Nat → Int32} {K : Nat → Nat → Nat} {i v : Nat} (hi : i < 3) (h' : ∀ k, 1 ≤ k → k ≤ 10 → k ≠ 3 + i → M' k 0 = M k 0 ∧ (6 ≤ k → M' k = M k)) (hv : M' (3 + i) 0 = nI v) (hM : repM M K) : repM M' (setK K i v) := by
  obtain ⟨⟨h0, h1, h2, h3, h4, h5⟩, h6, h9⟩ := hM
  refine ⟨⟨?_, ?_, ?_, ?_, ?_, ?_⟩, fun k p a6 a8 hp => ?_, fun c hc => ?_⟩
  · unfold setK; rw [if_neg (by omega), (h' 1 (by decide) (by decide) (by omega)).1]; exact h0
  · unfold setK; rw [if_neg (by omega), (h' 2 (by decide) (by decide) (by omega)).1]; exact h1
  · unfold setK
    by_cases z : i = 0
    · rw [if_pos (by omega)]; rw [z] at hv; exact hv
    · rw [if_neg (by omega), (h' 3 (by decide) (by decide) (by omega)).1]; exact h2
  · unfold setK
    by_cases z : i = 1
    · rw [if_pos (by omega)]; rw [z] at hv; exact hv
    · rw [if_neg (by omega), (h' 4 (by decide) (by decide) (by omega)).1]; exact h3
  · unfold setK
    by_cases z : i = 2
    · rw [if_pos (by omega)]; rw [z] at hv; exact hv
    · rw [if_neg (by omega), (h' 5 (by decide) (by decide) (by omega)).1]; exact h4
  · unfold setK; rw [if_neg (by omega), (h' 9 (by decide) (by decide) (by omega)).1]; exact h5
  · unfold setK at hp ⊢
    rw [if_neg (by omega)] at hp
    rw [if_neg (by omega), (h' k (by omega) (by omega) (by omega)).2 (by omega)]; exact h6 k p a6 a8 hp
  · unfold setK
    rw [if_neg (by omega), (h' 10 (by decide) (by decide) (by omega)).2 (by omega)]; exact h9 c hc
theorem set_wf {K : Nat → Nat → Nat} {i v : Nat} (hi : i < 3) (h0 : i = 0 → 1 ≤ v ∧ v ≤ 99) (h1 : i = 1 → v ≤ 40) (h2 : i = 2 → v ≤ 6) (hK : wfK K) : wfK (setK K i v) := by
  obtain ⟨⟨k1, k2, k3, k4, k5, k6, k7, k8, k9⟩, w2, w3, w4, w5⟩ := hK
  have e : ∀ k j, k < 2 ∨ 4 < k → setK K i v k j = K k j := fun k j hk => by unfold setK; rw [if_neg (by omega)]
  have e2 : setK K i v 2 0 = if i = 0 then v else K 2 0 := by unfold setK; by_cases z : i = 0 <;> simp_all <;> omega
  have e3 : setK K i v 3 0 = if i = 1 then v else K 3 0 := by unfold setK; by_cases z : i = 1 <;> simp_all <;> omega
  have e4 : setK K i v 4 0 = if i = 2 then v else K 4 0 := by unfold setK; by_cases z : i = 2 <;> simp_all <;> omega
  refine ⟨⟨?_, ?_, ?_, ?_, ?_, ?_, ?_, ?_, ?_⟩, ?_, ?_, ?_, ?_⟩
  · rw [e 0 0 (by omega)]; exact k1
  · rw [e 0 0 (by omega)]; exact k2
  · rw [e 1 0 (by omega)]; exact k3
  · rw [e 1 0 (by omega)]; exact k4
  · rw [e2]; split <;> rename_i z; exact (h0 z).1; exact k5
  · rw [e2]; split <;> rename_i z; exact (h0 z).2; exact k6
  · rw [e3]; split <;> rename_i z; exact h1 z; exact k7
  · rw [e4]; split <;> rename_i z; exact h2 z; exact k8
  · rw [e 5 0 (by omega)]; exact k9
  · intro p hp
    rw [e 5 0 (by omega)] at hp
    rw [e 6 p (by omega), e 7 p (by omega), e 8 p (by omega), e 9 _ (by omega), e 0 0 (by omega), e 1 0 (by omega)]
    exact w2 p hp
  · intro p q hpq hq
    rw [e 5 0 (by omega)] at hq
    rw [e 6 p (by omega), e 7 p (by omega), e 6 q (by omega), e 7 q (by omega)]
    exact w3 p q hpq hq
  · intro c; rw [e 9 c (by omega)]; exact w4 c
  · intro c hc
    rw [e 9 c (by omega)] at hc
    rw [e 0 0 (by omega), e 1 0 (by omega)]
    exact w5 c hc
end MET
