/-! a place taken out, of both; what a place costs -/
section CST
def shD (A : Nat → Nat → Int32) (K : Nat → Nat → Nat) (g i : Nat) : Prop := ∀ k, 6 ≤ k → k ≤ 8 → ∀ x, x < K 5 0 → A k x = nI (if g ≤ x ∧ x < g + i then K k (x + 1) else K k x)
theorem shD_0 {A : Nat → Nat → Int32} {K : Nat → Nat → Nat} {g : Nat} (h : ∀ k p, 6 ≤ k → k ≤ 8 → p < K 5 0 → A k p = nI (K k p)) : shD A K g 0 := by
  intro k h6 h8 x hx
  rw [if_neg (by omega)]; exact h k x h6 h8 hx
theorem shD_s {A : Nat → Nat → Int32} {K : Nat → Nat → Nat} {g i : Nat} (hi : g + i + 1 < K 5 0) (h : shD A K g i) : shD (zst (zst (zst A 6 (g + i) (A 6 (g + i + 1))) 7 (g + i) (A 7 (g + i + 1))) 8 (g + i) (A 8 (g + i + 1))) K g (i + 1) := by
  intro k h6 h8 x hx
  have hk : k = 6 ∨ k = 7 ∨ k = 8 := by omega
  have hA : zst (zst (zst A 6 (g + i) (A 6 (g + i + 1))) 7 (g + i) (A 7 (g + i + 1))) 8 (g + i) (A 8 (g + i + 1)) k x = if x = g + i then A k (g + i + 1) else A k x := by
    by_cases z : x = g + i
    · rw [if_pos z, z]
      rcases hk with rfl | rfl | rfl
      · rw [zst_ne _ (by decide), zst_ne _ (by decide), zst_same]
      · rw [zst_ne _ (by decide), zst_same]
      · rw [zst_same]
    · rw [if_neg z]
      rcases hk with rfl | rfl | rfl
      · rw [zst_ne _ (by decide), zst_ne _ (by decide), zst_row, upd_ne _ z]
      · rw [zst_ne _ (by decide), zst_row, upd_ne _ z, zst_ne _ (by decide)]
      · rw [zst_row, upd_ne _ z, zst_ne _ (by decide), zst_ne _ (by decide)]
  rw [hA]
  by_cases z : x = g + i
  · rw [if_pos z, h k h6 h8 (g + i + 1) hi, if_neg (by omega), if_pos (by omega), z]
  · rw [if_neg z, h k h6 h8 x hx]
    by_cases y : g ≤ x ∧ x < g + i
    · rw [if_pos y, if_pos (by omega)]
    · rw [if_neg y, if_neg (by omega)]
theorem e_removePlace {S : Nat → Nat → Int32} {K : Nat → Nat → Nat} (h7 : K 5 0 ≤ 7) (hS : repC S K) {g : Nat} (hg : g < K 5 0) : ∃ S', f_X1_removePlace S (nI g) = some S' ∧ repC S' (rmK K g) := by
  have key : ∃ ex : Nat → Nat → Int32, (shD ex K g (K 5 0 - 1 - g) ∧ ∀ k, k < 6 ∨ 8 < k → ex k = S k) ∧ zloop (fun rec x => f_X1_removePlace_L4b rec x) zfuel (nI (g + 1), S) = some ex := by
    refine zinv (I := fun i x => ∃ A, x = (nI (g + 1 + i), A) ∧ shD A K g i ∧ ∀ k, k < 6 ∨ 8 < k → A k = S k) _ (K 5 0 - 1 - g) (by omega) ?_ ?_ ?_
    · rintro i hi x ⟨A, rfl, g1, g2⟩
      have mv : f_X1_movePlace A (nI (g + 1 + i)) (nI (g + i)) = some (zst (zst (zst A 6 (g + i) (A 6 (g + i + 1))) 7 (g + i) (A 7 (g + i + 1))) 8 (g + i) (A 8 (g + i + 1))) := by
        unfold f_X1_movePlace
        simp only [zlet_eq]
        rw [show g + 1 + i = g + i + 1 by omega, zix_nI (by omega) (by decide), zix_nI (by omega) (by decide), zix_nI (by omega) (by decide), zix_nI (by omega) (by decide), zix_nI (by omega) (by decide), zix_nI (by omega) (by decide), nI_clamp (by omega), zst_ne _ (show (7 : Nat) ≠ 6 by decide), zst_ne _ (show (8 : Nat) ≠ 7 by decide), zst_ne _ (show (8 : Nat) ≠ 6 by decide)]
      refine ⟨(nI (g + 1 + (i + 1)), _), ⟨_, rfl, shD_s (by omega) g1, fun k hk => by rw [zst_ne _ (by omega), zst_ne _ (by omega), zst_ne _ (by omega)]; exact g2 k hk⟩, fun rec => ?_⟩
      unfold f_X1_removePlace_L4b
      dsimp only
      rw [ilen (a := K 5 0) (b := g + 1 + i) (by rw [g2 5 (by omega)]; exact hS.1 5 (by omega)) rfl (by omega) (by omega), show nI (g + 1 + i) - 1 = nI (g + i) by rw [show g + 1 + i = g + i + 1 by omega]; exact nI_pred _, mv, Option.bind_some, nI_1, show g + 1 + (i + 1) = g + 1 + i + 1 by omega]
    · rintro x ⟨A, rfl, g1, g2⟩
      refine ⟨A, ⟨g1, g2⟩, fun rec => ?_⟩
      unfold f_X1_removePlace_L4b
      dsimp only
      rw [ilep (a := K 5 0) (b := g + 1 + (K 5 0 - 1 - g)) (by rw [g2 5 (by omega)]; exact hS.1 5 (by omega)) rfl (by omega) (by omega)]
    · exact ⟨S, rfl, shD_0 hS.2.1, fun _ _ => rfl⟩
  obtain ⟨A, ⟨a1, a2⟩, hz⟩ := key
  refine ⟨zst A 5 0 (nI (K 5 0 - 1)), ?_, fun k hk => ?_, fun k x h6 h8 hx => ?_, fun c hc => ?_⟩
  · unfold f_X1_removePlace
    rw [zlet_eq, nI_1]
    show (zloop (fun rec x => f_X1_removePlace_L4b rec x) zfuel (nI (g + 1), S)).bind _ = _
    rw [hz, Option.bind_some, zlet_eq, a2 5 (by omega), hS.1 5 (by omega), show nI (K 5 0) - 1 = nI (K 5 0 - 1) from pk_sub (b := 1) (by omega)]
  · by_cases e : k = 5
    · rw [e, zst_same, rm_5]
    · rw [zst_ne _ e, a2 k (by omega), rm_o K g e (by omega)]; exact hS.1 k hk
  · rw [rm_5] at hx
    rw [zst_ne _ (by omega), a1 k h6 h8 x (by omega), rm_r K g h6 h8]
    by_cases z : x < g
    · rw [if_neg (by omega), if_pos z]
    · rw [if_pos (by omega), if_neg z]
  · rw [zst_ne _ (by decide), a2 9 (by omega), rm_o K g (by decide) (by decide)]; exact hS.2.2 c hc
theorem e_goes {M : Nat → Nat → Int32} {K : Nat → Nat → Nat} (h7 : K 5 0 ≤ 7) (hM : repM M K) {g : Nat} (hg : g < K 5 0) : ∃ M', f_X7_goes M (nI g) = some M' ∧ repM M' (rmK K g) ∧ ∀ k, k < 6 ∨ 9 < k → M' k = M k := by
  have key : ∃ ex : Nat → Nat → Int32, (shD ex K g (K 5 0 - 1 - g) ∧ ∀ k, k < 6 ∨ 8 < k → ex k = zst M 9 0 (nI (K 5 0 - 1)) k) ∧ zloop (fun rec x => f_X7_goes_L12b rec x) zfuel (nI g, zst M 9 0 (nI (K 5 0 - 1))) = some ex := by
    refine zinv (I := fun i x => ∃ A, x = (nI (g + i), A) ∧ shD A K g i ∧ ∀ k, k < 6 ∨ 8 < k → A k = zst M 9 0 (nI (K 5 0 - 1)) k) _ (K 5 0 - 1 - g) (by omega) ?_ ?_ ?_
    · rintro i hi x ⟨A, rfl, g1, g2⟩
      refine ⟨(nI (g + (i + 1)), _), ⟨_, rfl, shD_s (by omega) g1, fun k hk => by rw [zst_ne _ (by omega), zst_ne _ (by omega), zst_ne _ (by omega)]; exact g2 k hk⟩, fun rec => ?_⟩
      unfold f_X7_goes_L12b f_X7_putsAt
      dsimp only
      simp only [zlet_eq]
      rw [ilen (a := K 5 0 - 1) (b := g + i) (by rw [g2 9 (by omega)]; exact zst_same _ _ _ _) rfl (by omega) (by omega), nI_1, zix_nI (by omega) (by decide), zix_nI (by omega) (by decide), zix_nI (by omega) (by decide), zix_nI (by omega) (by decide), zix_nI (by omega) (by decide), zix_nI (by omega) (by decide), nI_clamp (by omega), Option.bind_some, show g + (i + 1) = g + i + 1 by omega]
    · rintro x ⟨A, rfl, g1, g2⟩
      refine ⟨A, ⟨g1, g2⟩, fun rec => ?_⟩
      unfold f_X7_goes_L12b
      dsimp only
      rw [ilep (a := K 5 0 - 1) (b := g + (K 5 0 - 1 - g)) (by rw [g2 9 (by omega)]; exact zst_same _ _ _ _) rfl (by omega) (by omega)]
    · exact ⟨_, rfl, shD_0 (fun k p h6 h8 hp => by rw [zst_ne _ (by omega)]; exact hM.2.1 k p h6 h8 hp), fun _ _ => rfl⟩
  obtain ⟨A, ⟨a1, a2⟩, hz⟩ := key
  have ho : ∀ k, k < 6 ∨ 9 < k → A k = M k := fun k hk => by rw [a2 k (by omega), zst_ne _ (by omega)]
  refine ⟨A, ?_, ⟨⟨?_, ?_, ?_, ?_, ?_, ?_⟩, fun k x h6 h8 hx => ?_, fun c hc => ?_⟩, ho⟩
  · unfold f_X7_goes
    rw [zlet_eq, hM.1.2.2.2.2.2, show nI (K 5 0) - 1 = nI (K 5 0 - 1) from pk_sub (b := 1) (by omega)]
    show (zloop (fun rec x => f_X7_goes_L12b rec x) zfuel (nI g, zst M 9 0 (nI (K 5 0 - 1)))).bind _ = _
    rw [hz]; rfl
  · rw [ho 1 (by omega), rm_o K g (by decide) (by decide)]; exact hM.1.1
  · rw [ho 2 (by omega), rm_o K g (by decide) (by decide)]; exact hM.1.2.1
  · rw [ho 3 (by omega), rm_o K g (by decide) (by decide)]; exact hM.1.2.2.1
  · rw [ho 4 (by omega), rm_o K g (by decide) (by decide)]; exact hM.1.2.2.2.1
  · rw [ho 5 (by omega), rm_o K g (by decide) (by decide)]; exact hM.1.2.2.2.2.1
  · rw [a2 9 (by omega), zst_same, rm_5]
  · rw [rm_5] at hx
    rw [a1 k h6 h8 x (by omega), rm_r K g h6 h8]
    by_cases z : x < g
    · rw [if_neg (by omega), if_pos z]
    · rw [if_pos (by omega), if_neg z]
  · rw [ho 10 (by omega), rm_o K g (by decide) (by decide)]; exact hM.2.2 c hc
/-- the best at the source of the set without one place, as the class reads it -/
def witI (K : Nat → Nat → Nat) (s : Nat) : Int32 := if s = 0 then 0 else if (Bt K 0 0 s).1 < 1000000000 then nI (Bt K 0 0 s).1 else -2
theorem wit_all (K : Nat → Nat → Nat) : witI K (allK K) = lstI K := by
  unfold witI lstI allK
  by_cases e : K 5 0 = 0
  · rw [if_pos e, if_pos (by rw [e])]
  · have h1 : 1 < 2 ^ K 5 0 := Nat.one_lt_two_pow (by omega)
    rw [if_neg e, if_neg (by omega)]
theorem wit_rm {K : Nat → Nat → Nat} (hK : wfK K) {g : Nat} (hg : g < K 5 0) : lstI (rmK K g) = witI K (allK K ^^^ 2 ^ g) := by
  have h7 := wf7 hK
  have hpa := phi_all (K 5 0) (by omega) g hg
  unfold lstI witI allK
  rw [rm_5, ← hpa]
  by_cases e : K 5 0 - 1 = 0
  · rw [if_pos e, e]
    have : phi g (2 ^ 0 - 1) = 0 := by unfold phi; simp
    rw [if_pos this]
  · have h1 : 1 < 2 ^ (K 5 0 - 1) := Nat.one_lt_two_pow (by omega)
    have h64 : 2 ^ (K 5 0 - 1) - 1 < 64 := by
      have := Nat.pow_le_pow_right (n := 2) (by decide) (show K 5 0 - 1 ≤ 6 by omega)
      have h : (2 : Nat) ^ 6 = 64 := rfl
      omega
    have hp0 := (phi_c g (by omega) (2 ^ (K 5 0 - 1) - 1) h64).1 (by omega)
    rw [if_neg e, if_neg (show ¬ phi g (2 ^ (K 5 0 - 1) - 1) = 0 by omega), Bt_phi hK hg _ 0 0 rfl (Nat.zero_le _) (2 ^ (K 5 0 - 1) - 1) (by omega) (by omega)]
/-- what a place costs -/
def cosI (K : Nat → Nat → Nat) (g : Nat) : Int32 := if lstI K = -2 then -2 else lstI K - witI K (allK K ^^^ 2 ^ g)
theorem wit_fin {K : Nat → Nat → Nat} (hK : wfK K) {g : Nat} (hg : g < K 5 0) (h : lstI K ≠ -2) : witI K (allK K ^^^ 2 ^ g) ≠ -2 := by
  have hf : (Bt K 0 0 (allK K)).1 < 1000000000 := by
    rcases Nat.lt_or_ge (Bt K 0 0 (allK K)).1 1000000000 with z | z
    · exact z
    · exact absurd ((lst_ne hK).mpr ⟨by omega, by omega⟩) h
  have hv := vld_src hK (by omega) hf
  have hsub : sb (2 ^ g) (allK K) := sb_one.mpr (all_bit hg)
  unfold witI
  by_cases e : allK K ^^^ 2 ^ g = 0
  · rw [if_pos e]; decide
  · rw [if_neg e]
    have hs : sb (allK K ^^^ 2 ^ g) (Rt K 0 0) := sb_tr (sb_xor hsub) hv.2.2.2
    have hb := (Bt_ok hK (r := 0) (t := 0) (s := allK K ^^^ 2 ^ g) (by omega) (sb_lt hs (Rt_lt K 0 0))).1.mpr hs
    rw [if_pos hb]
    intro z
    have := congrArg Int32.toInt z
    rw [nI_toInt (by omega)] at this
    have h2 : (-2 : Int32).toInt = -2 := by decide
    omega
theorem e_costsM {M : Nat → Nat → Int32} {K : Nat → Nat → Nat} (hK : wfK K) (hM : repM M K) {g : Nat} (hg : g < K 5 0) : ∃ M', f_X7_costs M (nI g) = some (cosI K g, M') ∧ repM M' K ∧ (∀ k, k = 11 ∨ k = 12 → M' k = M k) ∧ M' 0 0 = 0 := by
  have h7 := wf7 hK
  obtain ⟨w1, w2, w3, _⟩ := hK.2.1 g hg
  have hM0 : repM (zst M 0 0 0) K := by
    unfold repM
    rw [zst_ne _ (by decide), zst_ne _ (by decide), zst_ne _ (by decide), zst_ne _ (by decide), zst_ne _ (by decide), zst_ne _ (by decide), zst_ne _ (by decide)]
    exact ⟨hM.1, fun k p h6 h8 hp => by rw [zst_ne _ (by omega)]; exact hM.2.1 k p h6 h8 hp, hM.2.2⟩
  obtain ⟨M1, e1, _, e3⟩ := e_leastInk hK hM0
  have hM1 : repM M1 K := repM_fr (fun k hk => e3 k (by omega) (by omega) (by omega)) hM0
  obtain ⟨M2, f1, f2, f3⟩ := e_goes h7 hM1 hg
  obtain ⟨M3, l1, _, l3⟩ := e_leastInk (rm_wf hK hg) f2
  have hM3 : repM M3 (rmK K g) := repM_fr (fun k hk => l3 k (by omega) (by omega) (by omega)) f2
  obtain ⟨M4, a1, a2, a3⟩ := e_adds (rm_wf hK hg) hM3 (by rw [rm_5]; omega) (r := K 6 g) (t := K 7 g) (a := K 8 g) (by have := hK.1; omega) (by have := hK.1; omega)
  obtain ⟨r1, r2⟩ := rm_ins hK hg
  rw [rm_5, r1] at a2
  refine ⟨M4, ?_, repM_eq r2 a2, fun k hk => ?_, ?_⟩
  · unfold f_X7_costs f_X7_within
    rw [zlet_eq, hM0.1.2.2.2.2.2, show nI (K 5 0) - 1 = nI (K 5 0 - 1) from pk_sub (b := 1) (by omega), if_neg (nI_pos (by omega)), if_neg (nI_nlt (by omega) (by omega)), Option.bind_some, if_neg (by decide), e1, Option.bind_some, zix_nI (by omega) (by decide), zlet_eq, zix_nI (by omega) (by decide), zlet_eq, zix_nI (by omega) (by decide), zlet_eq, nI_clamp (by omega)]
    dsimp only
    rw [hM1.2.1 6 g (by omega) (by omega) hg, hM1.2.1 7 g (by omega) (by omega) hg, hM1.2.1 8 g (by omega) (by omega) hg, f1, Option.bind_some, l1, Option.bind_some]
    dsimp only
    rw [a1, Option.bind_some]
    unfold cosI
    rw [wit_rm hK hg]
    by_cases e : lstI K = -2
    · rw [if_pos e, if_pos e]
    · rw [if_neg e, if_neg e, if_neg (wit_fin hK hg e)]
  · rw [a3 k (by omega), l3 k (by omega) (by omega) (by omega), f3 k (by omega), e3 k (by omega) (by omega) (by omega), zst_ne _ (by omega)]
  · rw [a3 0 (by omega), l3 0 (by omega) (by omega) (by omega), f3 0 (by omega), e3 0 (by omega) (by omega) (by omega), zst_same]
end CST
