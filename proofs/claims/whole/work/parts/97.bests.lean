/-! the methods of both: alone, costs, best -/
section MBE
theorem hp6 {S1 S2 S3 S4 S5 S6 S7 S8 S9 : Nat → Nat → Int32} {n : Nat} (hn : n ≤ 7) (h5 : S2 5 0 = nI n) (v : Int32) : (f_X6_hasPlace S1 S2 S3 S4 S5 S6 S7 S8 S9 v = some 0 ∧ f_X7_within v 0 (nI n - 1) = some 0) ∨ ∃ g, g < n ∧ v = nI g ∧ f_X6_hasPlace S1 S2 S3 S4 S5 S6 S7 S8 S9 v = some 1 ∧ f_X7_within v 0 (nI n - 1) = some 1 := by
  unfold f_X6_hasPlace f_X7_within
  by_cases q : v < 0
  · rw [if_pos q, if_pos q]; exact Or.inl ⟨rfl, rfl⟩
  rw [if_neg q, if_neg q]
  obtain ⟨g, hg, rfl⟩ := nI_of q
  by_cases z : n ≤ g
  · rw [ilep h5 rfl z hg]
    refine Or.inl ⟨rfl, ?_⟩
    by_cases y : n = 0
    · rw [y, if_pos]
      rw [Int32.lt_iff_toInt_lt, nI_toInt hg]
      have : (nI 0 - 1).toInt = -1 := by decide
      omega
    · rw [prd (by omega), if_pos (nI_lt (by omega) hg)]
  · rw [ilen h5 rfl (by omega) (by omega), prd (by omega), if_neg (nI_nlt (by omega) (by omega))]
    exact Or.inr ⟨g, by omega, rfl, rfl, rfl⟩
/-- what a method that asks the bests keeps -/
def bstQ (K : Nat → Nat → Nat) (S1 S2 S5 S6 S7 S8 : Nat → Nat → Int32) (c : Option (Int32 × (Nat → Nat → Int32))) (m : Option (Int32 × (Nat → Nat → Int32))) : Prop := ∃ x S4 M, c = some (x, S4) ∧ m = some (x, M) ∧ M 0 0 = 0 ∧ ivK K S1 S2 S4 S5 S6 S7 S8 M
theorem bst0 {K : Nat → Nat → Nat} {S1 S2 S4 S5 S6 S7 S8 M : Nat → Nat → Int32} {x : Int32} (hI : ivK K S1 S2 S4 S5 S6 S7 S8 M) : bstQ K S1 S2 S5 S6 S7 S8 (some (x, S4)) (some (x, zst M 0 0 0)) := ⟨x, S4, _, rfl, rfl, zst_same _ _ _ _, ivK_0 hI⟩
theorem kb6 {K : Nat → Nat → Nat} {S1 S2 S3 S4 S5 S6 S7 S8 S9 : Nat → Nat → Int32} (hK : wfK K) (hS : repC S2 K) (h4 : S4 0 0 = 0 ∨ tabF S4 K) : ∃ S4', f_X6_knownBests S1 S2 S3 S4 S5 S6 S7 S8 S9 = some S4' ∧ tabF S4' K := by
  unfold f_X6_knownBests
  by_cases q : S4 0 0 = 0
  · obtain ⟨S', e1, e2, _⟩ := e_fill (S := S4) hK hS
    rw [if_pos q, e1, Option.bind_some]; exact ⟨S', rfl, e2⟩
  · rw [if_neg q]; exact ⟨S4, rfl, h4.resolve_left q⟩
theorem ink0 {K : Nat → Nat → Nat} {S4 : Nat → Nat → Int32} (hK : wfK K) (hT : tabF S4 K) {s : Nat} (hs : s < 2 ^ K 5 0) : f_X0_inkOf S4 0 (nI s) = some (witI K s) := e_inkOf hK hT (r := 0) (t := 0) (Nat.zero_le _) (by unfold wid; rw [if_pos rfl]; decide) hs
theorem wit_1 {K : Nat → Nat → Nat} (hK : wfK K) {g : Nat} (hg : g < K 5 0) : witI K (2 ^ g) = alnI K g := by
  unfold witI
  have : 0 < 2 ^ g := Nat.two_pow_pos g
  rw [if_neg (by omega), aln_eq hK hg]
theorem e_aloneOf {M : Nat → Nat → Int32} {K : Nat → Nat → Nat} (hK : wfK K) (hM : repM M K) (hL : ∀ r t, 1 ≤ r → r ≤ K 0 0 → t < K 1 0 → M 31 (24 * r + t) = nI (lnr K r t)) {g : Nat} (hg : g < K 5 0) : f_X7_aloneOf M (nI g) = some (alnI K g) := by
  obtain ⟨k1, k2, k3, k4, k5, k6, k7, k8, k9⟩ := hK.1
  obtain ⟨p1, p2, p3, p4, p5, p6⟩ := hK.2.1 g hg
  have hf := lnr_far (K := K) (K 6 g) (K 7 g)
  unfold f_X7_aloneOf alnI
  rw [zix_nI (by omega) (by decide), zix_nI (by omega) (by decide), nI_clamp (by omega), hM.2.1 6 g (by decide) (by decide) hg, hM.2.1 7 g (by decide) (by decide) hg, e_cellM, Option.bind_some, zix_nI (by omega) (by decide), nI_clamp (by omega), hL _ _ p1 p2 p3, zlet_eq, hM.2.1 8 g (by decide) (by decide) hg, hM.1.2.2.1]
  by_cases q : lnr K (K 6 g) (K 7 g) < 1000000000
  · rw [ilen l_far rfl q (by omega), if_pos q, zix_nI (by omega) (by decide), nI_add, pk_mul]
  · rw [ilep l_far rfl (by omega) (by omega), if_neg q]
theorem m_alone {K : Nat → Nat → Nat} {S1 S2 S3 S4 S5 S6 S7 S8 S9 M : Nat → Nat → Int32} (hI : ivK K S1 S2 S4 S5 S6 S7 S8 M) (v1 : Int32) : bstQ K S1 S2 S5 S6 S7 S8 (f_X6_alone S1 S2 S3 S4 S5 S6 S7 S8 S9 v1) (f_X7_alone M v1) := by
  have hI0 := ivK_0 hI
  obtain ⟨i1, i2, i3, i4, i5, i6⟩ := hI0
  have h7 := i1.1.2.2.2.2.2.2.2.2
  unfold f_X7_alone
  rw [zlet_eq, i3.1.2.2.2.2.2]
  unfold f_X6_alone
  rcases hp6 (S1 := S1) (S3 := S3) (S4 := S4) (S5 := S5) (S6 := S6) (S7 := S7) (S8 := S8) (S9 := S9) h7 (i2.1 5 (by decide)) v1 with ⟨a1, a2⟩ | ⟨g, hg, rfl, a1, a2⟩
  · rw [a1, a2]; exact bst0 hI
  rw [a1, a2, Option.bind_some, Option.bind_some, if_neg (show ¬ (1 : Int32) = 0 by decide), if_neg (show ¬ (1 : Int32) = 0 by decide)]
  obtain ⟨S4', b1, b2⟩ := kb6 (S1 := S1) (S3 := S3) (S5 := S5) (S6 := S6) (S7 := S7) (S8 := S8) (S9 := S9) i1 i2 i5
  obtain ⟨M', c1, c2, c3⟩ := e_laysLengths i1 i3
  have hM' : repM M' K := repM_f (fun k _ _ => c3 k (by omega)) i3
  rw [b1, Option.bind_some, sh1 g (by omega), ink0 i1 b2 (Nat.pow_lt_pow_right (by decide) hg), wit_1 i1 hg, Option.bind_some, c1, Option.bind_some, e_aloneOf i1 hM' c2 hg, Option.bind_some]
  exact ⟨_, S4', M', rfl, rfl, by rw [c3 0 (by decide), zst_same], i1, i2, hM', tpR_f (c3 11 (by decide)) (c3 12 (by decide)) i4, Or.inr b2, i6⟩
theorem m_costs {K : Nat → Nat → Nat} {S1 S2 S3 S4 S5 S6 S7 S8 S9 M : Nat → Nat → Int32} (hI : ivK K S1 S2 S4 S5 S6 S7 S8 M) (v1 : Int32) : bstQ K S1 S2 S5 S6 S7 S8 (f_X6_costs S1 S2 S3 S4 S5 S6 S7 S8 S9 v1) (f_X7_costs M v1) := by
  obtain ⟨i1, i2, i3, i4, i5, i6⟩ := hI
  have hI0 := ivK_0 ⟨i1, i2, i3, i4, i5, i6⟩
  have h7 := i1.1.2.2.2.2.2.2.2.2
  unfold f_X6_costs
  rcases hp6 (S1 := S1) (S3 := S3) (S4 := S4) (S5 := S5) (S6 := S6) (S7 := S7) (S8 := S8) (S9 := S9) h7 (i2.1 5 (by decide)) v1 with ⟨a1, a2⟩ | ⟨g, hg, rfl, a1, a2⟩
  · unfold f_X7_costs
    rw [zlet_eq, hI0.2.2.1.1.2.2.2.2.2, a1, a2]; exact bst0 ⟨i1, i2, i3, i4, i5, i6⟩
  obtain ⟨M', c1, c2, c3, c4⟩ := e_costsM i1 i3 hg
  obtain ⟨S4', b1, b2⟩ := kb6 (S1 := S1) (S3 := S3) (S5 := S5) (S6 := S6) (S7 := S7) (S8 := S8) (S9 := S9) i1 i2 i5
  have hpw : 0 < 2 ^ K 5 0 := Nat.two_pow_pos _
  have hx : allK K ^^^ 2 ^ g < 2 ^ K 5 0 := Nat.xor_lt_two_pow (by unfold allK; omega) (Nat.pow_lt_pow_right (by decide) hg)
  have hal : nI (2 ^ K 5 0 - 1) = nI (allK K) := rfl
  rw [c1, a1, Option.bind_some, if_neg (show ¬ (1 : Int32) = 0 by decide), e_allPlaces i2 h7, Option.bind_some, b1, Option.bind_some, hal, ink0 i1 b2 (by unfold allK; omega), Option.bind_some, wit_all, sh1 g (by omega), nx_xor, ink0 i1 b2 hx, Option.bind_some]
  unfold cosI
  by_cases q : lstI K = -2
  · rw [if_pos q, if_pos q]
    exact ⟨_, S4', M', rfl, rfl, c4, i1, i2, c2, tpR_f (c3 11 (by omega)) (c3 12 (by omega)) i4, Or.inr b2, i6⟩
  · rw [if_neg q, if_neg q]
    exact ⟨_, S4', M', rfl, rfl, c4, i1, i2, c2, tpR_f (c3 11 (by omega)) (c3 12 (by omega)) i4, Or.inr b2, i6⟩
theorem m_best {K : Nat → Nat → Nat} {S1 S2 S3 S4 S5 S6 S7 S8 S9 M : Nat → Nat → Int32} (hI : ivK K S1 S2 S4 S5 S6 S7 S8 M) (v1 v2 v3 : Int32) : bstQ K S1 S2 S5 S6 S7 S8 (f_X6_best S1 S2 S3 S4 S5 S6 S7 S8 S9 v1 v2 v3) (f_X7_best M v1 v2 v3) := by
  have hI0 := ivK_0 hI
  obtain ⟨i1, i2, i3, i4, i5, i6⟩ := hI0
  obtain ⟨k1, k2, k3, k4, k5, k6, k7, k8, h7⟩ := i1.1
  unfold f_X7_best
  rw [zlet_eq]
  unfold f_X6_best
  rcases ha6 i1 i2 i3 v1 v2 with ⟨a1, a2⟩ | ⟨r, t, rfl, rfl, r2, r3, a1, a2⟩
  · rw [a1, a2]; exact bst0 hI
  have hwd : t < 24 := by unfold wid at r3; split at r3 <;> omega
  have hpw : 2 ^ K 5 0 ≤ 128 := Nat.pow_le_pow_right (by decide) h7
  have hp0 : 0 < 2 ^ K 5 0 := Nat.two_pow_pos _
  rw [a1, a2, Option.bind_some, Option.bind_some, if_neg (show ¬ (1 : Int32) = 0 by decide), if_neg (show ¬ (1 : Int32) = 0 by decide), e_allPlaces i2 h7, Option.bind_some]
  have hzx : ∀ {α : Type} (f : Nat → Option α), zix (nI (24 * r + t)) 240 f = f (24 * r + t) := fun f => zix_nI (by omega) (by decide)
  have hcl : (nI (24 * r + t)).toNatClampNeg = 24 * r + t := nI_clamp (by omega)
  simp only [e_cellOf, e_cellM, Option.bind_some, hzx, hcl]
  have hle := i1.2.2.2.1 (24 * r + t)
  have hJ : ∀ c, (if K 9 (24 * r + t) = 0 then bstQ K S1 S2 S5 S6 S7 S8 c (f_X7_best_J31 (zst M 0 0 0) (nI r) (nI t) v3) else bstQ K S1 S2 S5 S6 S7 S8 c (some (-1, zst M 0 0 0))) → bstQ K S1 S2 S5 S6 S7 S8 c (if nI r ≤ 0 then f_X7_best_J31 (zst M 0 0 0) (nI r) (nI t) v3 else if zst M 0 0 0 10 (24 * r + t) = 0 then f_X7_best_J31 (zst M 0 0 0) (nI r) (nI t) v3 else some (-1, zst M 0 0 0)) := by
    intro c hc
    by_cases z : r = 0
    · rw [ilep rfl l_0 (by omega) (by omega)]
      have hk : K 9 (24 * r + t) = 0 := by
        rcases (show K 9 (24 * r + t) = 0 ∨ K 9 (24 * r + t) = 1 by omega) with y | y
        · exact y
        · have := (i1.2.2.2.2 _ y).1
          omega
      rw [if_pos hk] at hc
      exact hc
    · rw [ilen rfl l_0 (by omega) (by omega)]
      by_cases y : K 9 (24 * r + t) = 0
      · rw [if_pos y] at hc
        rw [ieqp (i3.2.2 _ (by omega)) l_0 y]; exact hc
      · rw [if_neg y] at hc
        rw [ieqn (i3.2.2 _ (by omega)) l_0 y (by omega) (by omega)]; exact hc
  refine hJ _ ?_
  unfold f_X7_best_J31
  rw [e_all i3 h7, Option.bind_some]
  rcases wi6 (v := v3) (lo := 1) (hi := 2 ^ K 5 0 - 1) (by decide) (by omega) with ⟨b1, b2⟩ | ⟨s, rfl, n1, n2, b1, b2⟩
  · rw [show f_X6_isWithin v3 1 (nI (2 ^ K 5 0 - 1)) = _ from b1, show f_X7_within v3 1 (nI (2 ^ K 5 0 - 1)) = _ from b2]
    split
    · exact bst0 hI
    · exact bst0 hI
  rw [show f_X6_isWithin (nI s) 1 (nI (2 ^ K 5 0 - 1)) = _ from b1, show f_X7_within (nI s) 1 (nI (2 ^ K 5 0 - 1)) = _ from b2, Option.bind_some, Option.bind_some, if_neg (show ¬ (1 : Int32) = 0 by decide), if_neg (show ¬ (1 : Int32) = 0 by decide)]
  by_cases y : K 9 (24 * r + t) = 0
  · rw [if_pos y, ieqp (i2.2.2 _ (by omega)) l_0 y]
    obtain ⟨S4', d1, d2⟩ := kb6 (S1 := S1) (S3 := S3) (S5 := S5) (S6 := S6) (S7 := S7) (S8 := S8) (S9 := S9) i1 i2 i5
    obtain ⟨M', c1, c2, c3⟩ := e_laysAllBest i1 i3
    have hM' : repM M' K := repM_f (fun k _ _ => c3 k (by omega) (by omega) (by omega)) i3
    have hle2 := Bt_le i1 (r := r) (t := t) (s := s) r2 (by omega) (by omega)
    have hrow := (c2.2 r t r2 r3 s (by omega) (by omega)).1
    rw [d1, Option.bind_some, e_inkOf i1 d2 r2 r3 (by omega), Option.bind_some, c1, Option.bind_some, e_cellM, Option.bind_some, e_bestOf (by omega), Option.bind_some, if_neg (show ¬ s = 0 by omega)]
    have hfin : ∀ x, bstQ K S1 S2 S5 S6 S7 S8 (some (x, S4')) (some (x, M')) := fun x => ⟨x, S4', M', rfl, rfl, by rw [c3 0 (by decide) (by decide) (by decide), zst_same], i1, i2, hM', tpR_f (c3 11 (by decide) (by decide) (by decide)) (c3 12 (by decide) (by decide) (by decide)) i4, Or.inr d2, i6⟩
    by_cases u : (Bt K r t s).1 < 1000000000
    · rw [if_pos u, ilen l_far hrow u (by omega), hrow]; exact hfin _
    · rw [if_neg u, ilep l_far hrow (by omega) (by omega)]; exact hfin _
  · rw [if_neg y, ieqn (i2.2.2 _ (by omega)) l_0 y (by omega) (by omega)]
    exact bst0 hI
end MBE
