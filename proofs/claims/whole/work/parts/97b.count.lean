/-! the methods of both: all alone, count -/
section MCO
def sumI (K : Nat → Nat → Nat) : Nat → Int32
  | 0 => 0
  | i + 1 => sumI K i + alnI K i
def finA (K : Nat → Nat → Nat) (n : Nat) : Prop := ∀ j, j < n → ¬ alnI K j = -2
theorem finA_s {K : Nat → Nat → Nat} {i : Nat} : finA K (i + 1) ↔ (finA K i ∧ ¬ alnI K i = -2) := by
  constructor
  · intro h; exact ⟨fun j hj => h j (by omega), h i (by omega)⟩
  · rintro ⟨h1, h2⟩ j hj
    by_cases z : j = i
    · rw [z]; exact h2
    · exact h1 j (by omega)
theorem finA_m {K : Nat → Nat → Nat} {i n : Nat} (h : i ≤ n) (hf : finA K n) : finA K i := fun j hj => hf j (by omega)
theorem aln_0 {K : Nat → Nat → Nat} (hK : wfK K) {g : Nat} (hg : g < K 5 0) : 0 ≤ alnI K g ↔ ¬ alnI K g = -2 := by
  obtain ⟨k1, k2, k3, k4, k5, k6, k7, k8, k9⟩ := hK.1
  obtain ⟨p1, p2, p3, p4, p5, p6⟩ := hK.2.1 g hg
  unfold alnI
  by_cases q : lnr K (K 6 g) (K 7 g) < 1000000000
  · have hb := lnr_bd k7 _ _ q
    have hm : lnr K (K 6 g) (K 7 g) * (K 2 0 + K 8 g) ≤ 450 * 198 := Nat.mul_le_mul (by omega) (by omega)
    rw [if_pos q]
    refine ⟨fun _ z => ?_, fun _ => nI_le (a := 0) (Nat.zero_le _) (by omega)⟩
    have := congrArg Int32.toInt z
    rw [nI_toInt (by omega)] at this
    have h2 : (-2 : Int32).toInt = -2 := by decide
    omega
  · rw [if_neg q]
    exact ⟨fun z => absurd z (by decide), fun z => absurd rfl z⟩
theorem e_alC {K : Nat → Nat → Nat} {S2 S4 : Nat → Nat → Int32} (hK : wfK K) (hS : repC S2 K) (hT : tabF S4 K) : ∃ ex, f_X0_inkOfAllAlone_L4 S4 S2 zfuel (0, 0) = some ex ∧ (finA K (K 5 0) → ex = (1, sumI K (K 5 0))) ∧ (¬ finA K (K 5 0) → ex = (0, 0)) := by
  have h7 := hK.1.2.2.2.2.2.2.2.2
  have h5 := hS.1 5 (by decide)
  obtain ⟨ex, hq, e⟩ := zinvE (body := fun rec a => f_X0_inkOfAllAlone_L4b S4 S2 rec a) (fun i a => a = (sumI K i, nI i) ∧ finA K i) (fun ex => (finA K (K 5 0) → ex = (1, sumI K (K 5 0))) ∧ (¬ finA K (K 5 0) → ex = (0, 0))) (K 5 0) (by omega) (by
    intro i hi a ha
    obtain ⟨rfl, a2⟩ := ha
    have hb : ∀ rec, f_X0_inkOfAllAlone_L4b S4 S2 rec (sumI K i, nI i) = if alnI K i = (-2) then (some (0, 0)) else rec (sumI K (i + 1), nI (i + 1)) := by
      intro rec
      unfold f_X0_inkOfAllAlone_L4b
      dsimp only
      rw [ilen h5 rfl hi (by omega), sh1 i (by omega), ink0 hK hT (Nat.pow_lt_pow_right (by decide) hi), wit_1 hK hi, Option.bind_some, zlet_eq, l_1, nI_add]
      rfl
    by_cases z : alnI K i = -2
    · refine Or.inr ⟨(0, 0), ⟨fun f => absurd z (f i hi), fun _ => rfl⟩, fun rec => ?_⟩
      rw [hb, if_pos z]
    · refine Or.inl ⟨(sumI K (i + 1), nI (i + 1)), ⟨rfl, finA_s.mpr ⟨a2, z⟩⟩, fun rec => ?_⟩
      rw [hb, if_neg z]) (by
    intro a ha
    obtain ⟨rfl, a2⟩ := ha
    refine ⟨(1, sumI K (K 5 0)), ⟨fun _ => rfl, fun z => absurd a2 z⟩, fun rec => ?_⟩
    unfold f_X0_inkOfAllAlone_L4b
    dsimp only
    rw [ilep h5 rfl (Nat.le_refl _) (by omega)]) (a0 := (0, 0)) ⟨rfl, fun j hj => absurd hj (Nat.not_lt_zero _)⟩
  exact ⟨ex, e, hq⟩
theorem e_alM {K : Nat → Nat → Nat} {M : Nat → Nat → Int32} (hK : wfK K) (hM : repM M K) (hL : ∀ r t, 1 ≤ r → r ≤ K 0 0 → t < K 1 0 → M 31 (24 * r + t) = nI (lnr K r t)) : ∃ ex, f_X7_allAlone_L8 M zfuel (0, 0) = some ex ∧ (finA K (K 5 0) → ex = (1, sumI K (K 5 0))) ∧ (¬ finA K (K 5 0) → ex = (0, 0)) := by
  have h7 := hK.1.2.2.2.2.2.2.2.2
  have h5 := hM.1.2.2.2.2.2
  obtain ⟨ex, hq, e⟩ := zinvE (body := fun rec a => f_X7_allAlone_L8b M rec a) (fun i a => a = (sumI K i, nI i) ∧ finA K i) (fun ex => (finA K (K 5 0) → ex = (1, sumI K (K 5 0))) ∧ (¬ finA K (K 5 0) → ex = (0, 0))) (K 5 0) (by omega) (by
    intro i hi a ha
    obtain ⟨rfl, a2⟩ := ha
    have hb : ∀ rec, f_X7_allAlone_L8b M rec (sumI K i, nI i) = if 0 ≤ alnI K i then rec (sumI K (i + 1), nI (i + 1)) else (some (0, 0)) := by
      intro rec
      unfold f_X7_allAlone_L8b
      dsimp only
      rw [ilen h5 rfl hi (by omega), e_aloneOf hK hM hL hi, Option.bind_some, zlet_eq, l_1, nI_add]
      rfl
    by_cases z : alnI K i = -2
    · refine Or.inr ⟨(0, 0), ⟨fun f => absurd z (f i hi), fun _ => rfl⟩, fun rec => ?_⟩
      rw [hb, if_neg (fun w => (aln_0 hK hi).mp w z)]
    · refine Or.inl ⟨(sumI K (i + 1), nI (i + 1)), ⟨rfl, finA_s.mpr ⟨a2, z⟩⟩, fun rec => ?_⟩
      rw [hb, if_pos ((aln_0 hK hi).mpr z)]) (by
    intro a ha
    obtain ⟨rfl, a2⟩ := ha
    refine ⟨(1, sumI K (K 5 0)), ⟨fun _ => rfl, fun z => absurd a2 z⟩, fun rec => ?_⟩
    unfold f_X7_allAlone_L8b
    dsimp only
    rw [ilep h5 rfl (Nat.le_refl _) (by omega)]) (a0 := (0, 0)) ⟨rfl, fun j hj => absurd hj (Nat.not_lt_zero _)⟩
  exact ⟨ex, e, hq⟩
/-- all alone, of both -/
theorem allA {K : Nat → Nat → Nat} {S1 S2 S3 S4 S5 S6 S7 S8 S9 M : Nat → Nat → Int32} (hK : wfK K) (hS : repC S2 K) (h4 : S4 0 0 = 0 ∨ tabF S4 K) (hM : repM M K) : ∃ x S4' M', f_X6_knownBests S1 S2 S3 S4 S5 S6 S7 S8 S9 = some S4' ∧ f_X0_inkOfAllAlone S4' S2 = some x ∧ f_X7_allAlone M = some (x, M') ∧ tabF S4' K ∧ (∀ k, k ≠ 31 → M' k = M k) ∧ (¬ x = -2 → finA K (K 5 0)) := by
  obtain ⟨S4', b1, b2⟩ := kb6 (S1 := S1) (S3 := S3) (S5 := S5) (S6 := S6) (S7 := S7) (S8 := S8) (S9 := S9) hK hS h4
  obtain ⟨M', c1, c2, c3⟩ := e_laysLengths hK hM
  have hM' : repM M' K := repM_f (fun k _ _ => c3 k (by omega)) hM
  obtain ⟨e1, f1, f2, f3⟩ := e_alC hK hS b2
  obtain ⟨e2, g1, g2, g3⟩ := e_alM hK hM' c2
  by_cases q : finA K (K 5 0)
  · refine ⟨sumI K (K 5 0), S4', M', b1, ?_, ?_, b2, c3, fun _ => q⟩
    · unfold f_X0_inkOfAllAlone
      rw [f1, Option.bind_some, f2 q]
      exact if_neg (show ¬ (1 : Nat) = 0 by decide)
    · unfold f_X7_allAlone
      rw [c1, Option.bind_some, g1, Option.bind_some, g2 q]
      exact if_neg (show ¬ (1 : Nat) = 0 by decide)
  · refine ⟨-2, S4', M', b1, ?_, ?_, b2, c3, fun z => absurd rfl z⟩
    · unfold f_X0_inkOfAllAlone
      rw [f1, Option.bind_some, f3 q]
      exact if_pos rfl
    · unfold f_X7_allAlone
      rw [c1, Option.bind_some, g1, Option.bind_some, g3 q]
      exact if_pos rfl
theorem fin_all {K : Nat → Nat → Nat} (hK : wfK K) (hf : finA K (K 5 0)) : ¬ lstI K = -2 := by
  have h7 := hK.1.2.2.2.2.2.2.2.2
  have hsb : sb (allK K) (Rt K 0 0) := by
    refine sb_iff.mpr fun i hi => ?_
    have hin : i < K 5 0 := by
      rcases Nat.lt_or_ge i (K 5 0) with z | z
      · exact z
      · have : allK K < 2 ^ i := Nat.lt_of_lt_of_le (by unfold allK; have := Nat.two_pow_pos (K 5 0); omega) (Nat.pow_le_pow_right (by decide) z)
        rw [Nat.testBit_lt_two_pow this] at hi
        cases hi
    have h1 := hf i hin
    rw [← aln_eq hK hin] at h1
    have hlt : (Bt K 0 0 (2 ^ i)).1 < 1000000000 := by
      by_cases z : (Bt K 0 0 (2 ^ i)).1 < 1000000000
      · exact z
      · rw [if_neg z] at h1; exact absurd rfl h1
    exact sb_one.mp ((Bt_ok hK (r := 0) (t := 0) (s := 2 ^ i) (Nat.two_pow_pos i) (Nat.pow_lt_pow_right (by decide) hin)).1.mp hlt)
  intro z
  rw [← wit_all] at z
  unfold witI at z
  by_cases e : allK K = 0
  · rw [if_pos e] at z; exact absurd z (by decide)
  · rw [if_neg e] at z
    have hlt := (Bt_ok hK (r := 0) (t := 0) (s := allK K) (by omega) (sb_lt hsb (Rt_lt K 0 0))).1.mpr hsb
    rw [if_pos hlt] at z
    have := congrArg Int32.toInt z
    rw [nI_toInt (by omega)] at this
    have h2 : (-2 : Int32).toInt = -2 := by decide
    omega
theorem e_cnt {K : Nat → Nat → Nat} {M : Nat → Nat → Int32} (hK : wfK K) (hM : repM M K) (v1 : Int32) : f_X7_count_L9 M v1 zfuel (0, 0) = some (nI (amtK K (allK K))) := by
  have h7 := hK.1.2.2.2.2.2.2.2.2
  have h5 := hM.1.2.2.2.2.2
  refine zfor0 (fun i => (nI (amtN K (allK K) i), nI i)) (K 5 0) _ (by omega) (fun i hi rec => ?_) (fun rec => ?_)
  · show f_X7_count_L9b M v1 rec (nI (amtN K (allK K) i), nI i) = rec (nI (amtN K (allK K) (i + 1)), nI (i + 1))
    unfold f_X7_count_L9b
    dsimp only
    rw [ilen h5 rfl hi (by omega), zix_nI (by omega) (by decide), nI_clamp (by omega), hM.2.1 8 i (by omega) (by omega) hi, zlet_eq, nI_1, nI_add, amtN, if_pos (all_bit hi)]
  · show f_X7_count_L9b M v1 rec (nI (amtN K (allK K) (K 5 0)), nI (K 5 0)) = _
    unfold f_X7_count_L9b
    dsimp only
    rw [ilep h5 rfl (Nat.le_refl _) (by omega)]; rfl
theorem e_rkC {K : Nat → Nat → Nat} {S M : Nat → Nat → Int32} (hK : wfK K) (hS : repC S K) (hM : repM M K) : ∃ x, f_X1_rocks S = some x ∧ f_X7_rockMany M = some x := by
  have h1 : f_X1_rocks_L4 S zfuel (0, 0) = some (nI (su (fun c => if K 9 c = 0 then 0 else 1) 240)) := by
    refine zfor0 (fun i => (nI (su (fun c => if K 9 c = 0 then 0 else 1) i), nI i)) 240 _ (by decide) (fun i hi rec => ?_) (fun rec => ?_)
    · show f_X1_rocks_L4b S rec (nI (su (fun c => if K 9 c = 0 then 0 else 1) i), nI i) = rec (nI (su (fun c => if K 9 c = 0 then 0 else 1) (i + 1)), nI (i + 1))
      have hle := hK.2.2.2.1 i
      unfold f_X1_rocks_L4b f_X1_rocks_J23
      dsimp only
      rw [ilen l_240 rfl hi (by omega), zix_nI (by omega) (by decide), nI_clamp (by omega), su]
      by_cases z : K 9 i = 0
      · rw [ieqp (hS.2.2 i hi) l_0 z, if_pos z, nI_1]; rfl
      · rw [ieqn (hS.2.2 i hi) l_0 z (by omega) (by omega), if_neg z, nI_1, nI_1]
    · show f_X1_rocks_L4b S rec (_, nI 240) = _
      unfold f_X1_rocks_L4b
      dsimp only
      rw [ilep l_240 rfl (Nat.le_refl _) (by omega)]
  have h2 : f_X7_rockMany_L4 M zfuel (0, 0) = some (nI (su (fun c => if K 9 c = 0 then 0 else 1) 240)) := by
    refine zfor0 (fun i => (nI (su (fun c => if K 9 c = 0 then 0 else 1) i), nI i)) 240 _ (by decide) (fun i hi rec => ?_) (fun rec => ?_)
    · show f_X7_rockMany_L4b M rec (nI (su (fun c => if K 9 c = 0 then 0 else 1) i), nI i) = rec (nI (su (fun c => if K 9 c = 0 then 0 else 1) (i + 1)), nI (i + 1))
      have hle := hK.2.2.2.1 i
      unfold f_X7_rockMany_L4b f_X7_rockMany_J26
      dsimp only
      rw [ilen l_240 rfl hi (by omega), zix_nI (by omega) (by decide), nI_clamp (by omega), su]
      by_cases z : K 9 i = 0
      · rw [ieqp (hM.2.2 i hi) l_0 z, if_pos z, zlet_eq, nI_1, l_0, nI_add]
      · rw [ieqn (hM.2.2 i hi) l_0 z (by omega) (by omega), if_neg z, zlet_eq, nI_1, nI_1]
    · show f_X7_rockMany_L4b M rec (_, nI 240) = _
      unfold f_X7_rockMany_L4b
      dsimp only
      rw [ilep l_240 rfl (Nat.le_refl _) (by omega)]
  unfold f_X1_rocks f_X7_rockMany
  rw [h1, h2]
  exact ⟨_, rfl, rfl⟩
theorem m_count {K : Nat → Nat → Nat} {S1 S2 S3 S4 S5 S6 S7 S8 S9 M : Nat → Nat → Int32} (hI : ivK K S1 S2 S4 S5 S6 S7 S8 M) (v1 : Int32) : bstQ K S1 S2 S5 S6 S7 S8 (f_X6_count S1 S2 S3 S4 S5 S6 S7 S8 S9 v1) (f_X7_count M v1) := by
  have hI0 := ivK_0 hI
  obtain ⟨i1, i2, i3, i4, i5, i6⟩ := hI0
  have h7 := i1.1.2.2.2.2.2.2.2.2
  have hp0 : 0 < 2 ^ K 5 0 := Nat.two_pow_pos _
  have hpw : 2 ^ K 5 0 ≤ 128 := Nat.pow_le_pow_right (by decide) h7
  unfold f_X7_count
  rw [zlet_eq, e_cnt i1 i3, Option.bind_some]
  unfold f_X6_count
  by_cases e0 : v1 = 0
  · rw [if_pos e0, if_pos e0, i2.1 0 (by decide), i3.1.1]; exact bst0 hI
  rw [if_neg e0, if_neg e0]
  by_cases e1 : v1 = 1
  · rw [if_pos e1, if_pos e1, i2.1 1 (by decide), i3.1.2.1]; exact bst0 hI
  rw [if_neg e1, if_neg e1]
  by_cases e2 : v1 = 2
  · rw [if_pos e2, if_pos e2, i2.1 5 (by decide), i3.1.2.2.2.2.2]; exact bst0 hI
  rw [if_neg e2, if_neg e2]
  by_cases e3 : v1 = 3
  · obtain ⟨x, r1, r2⟩ := e_rkC i1 i2 i3
    rw [if_pos e3, if_pos e3, r1, r2]; exact bst0 hI
  rw [if_neg e3, if_neg e3]
  by_cases e4 : v1 = 4
  · rw [if_pos e4, if_pos e4, i2.1 2 (by decide), i3.1.2.2.1]; exact bst0 hI
  rw [if_neg e4, if_neg e4]
  by_cases e5 : v1 = 5
  · rw [if_pos e5, if_pos e5, i2.1 3 (by decide), i3.1.2.2.2.1]; exact bst0 hI
  rw [if_neg e5, if_neg e5]
  by_cases e6 : v1 = 6
  · rw [if_pos e6, if_pos e6, i2.1 4 (by decide), i3.1.2.2.2.2.1]; exact bst0 hI
  rw [if_neg e6, if_neg e6]
  by_cases e7 : v1 = 7
  · rw [if_pos e7, if_pos e7, e_allPlaces i2 h7, Option.bind_some, e_amountOf i2 h7 (by omega)]; exact bst0 hI
  rw [if_neg e7, if_neg e7]
  by_cases e8 : v1 = 8
  · obtain ⟨a, y, t1, t2, t3, t4⟩ := i4
    rw [if_pos e8, if_pos e8, t2, t3]; exact bst0 hI
  rw [if_neg e8, if_neg e8]
  by_cases e9 : v1 = 9
  · rw [if_pos e9, if_pos e9]
    obtain ⟨x, S4', M1, a0, a1, a2, a3, a4, a5⟩ := allA (S1 := S1) (S3 := S3) (S5 := S5) (S6 := S6) (S7 := S7) (S8 := S8) (S9 := S9) i1 i2 i5 i3
    have hM1 : repM M1 K := repM_f (fun k _ _ => a4 k (by omega)) i3
    obtain ⟨M2, b1, b2, b3⟩ := e_leastInk i1 hM1
    have hf : ∀ k, k < 14 → M2 k = (zst M 0 0 0) k := fun k hk => by rw [b3 k (by omega) (by omega) (by omega), a4 k (by omega)]
    have hfin : ∀ z, bstQ K S1 S2 S5 S6 S7 S8 (some (z, S4')) (some (z, M2)) := fun z => ⟨z, S4', M2, rfl, rfl, by rw [hf 0 (by decide), zst_same], i1, i2, repM_f (fun k _ _ => hf k (by omega)) i3, tpR_f (hf 11 (by decide)) (hf 12 (by decide)) i4, Or.inr a3, i6⟩
    rw [a0, Option.bind_some]
    unfold f_X0_inkSavedByLeast
    rw [a1, Option.bind_some, a2, Option.bind_some, b1, Option.bind_some]
    dsimp only
    by_cases q : x = -2
    · rw [if_pos q, if_pos q]; exact hfin _
    · rw [if_neg q, if_neg q, if_neg (fin_all i1 (a5 q)), e_allPlaces i2 h7, Option.bind_some, show nI (2 ^ K 5 0 - 1) = nI (allK K) from rfl, ink0 i1 a3 (by unfold allK; omega), Option.bind_some, wit_all]
      exact hfin _
  rw [if_neg e9, if_neg e9]
  exact bst0 hI
end MCO
