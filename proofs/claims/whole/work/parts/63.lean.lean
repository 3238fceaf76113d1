/-! the leaning tree of both -/
section LEA
def rtt (N t k : Nat) : Nat := (t + k) % N
def lft (N t k : Nat) : Nat := (t + (N - k)) % N
theorem rtt_s {N t k : Nat} (ht : t < N) : nb N (rtt N t k) 2 = rtt N t (k + 1) := by
  unfold rtt
  rw [nb_2]
  have h : (t + k) % N < N := Nat.mod_lt _ (by omega)
  rw [show t + (k + 1) = (t + k) + 1 by omega, Nat.add_mod (t + k) 1 N]
  rcases Nat.lt_or_ge 1 N with q | q
  · rw [Nat.mod_eq_of_lt q]
    by_cases e : (t + k) % N = N - 1
    · rw [if_pos e, e, show N - 1 + 1 = N by omega, Nat.mod_self]
    · rw [if_neg e, Nat.mod_eq_of_lt (show (t + k) % N + 1 < N by omega)]
  · have : N = 1 := by omega
    subst this; simp [Nat.mod_one]
theorem lft_s {N t k : Nat} (ht : t < N) (hk : k < N) : nb N (lft N t k) 1 = lft N t (k + 1) := by
  have h1 : lft N t k < N := Nat.mod_lt _ (by omega)
  have h2 : lft N t (k + 1) < N := Nat.mod_lt _ (by omega)
  refine (nb_inv1 h2 h1).mpr ?_
  unfold lft at *
  rw [nb_2]
  have e : t + (N - k) = (t + (N - (k + 1))) + 1 := by omega
  rw [e, Nat.add_mod (t + (N - (k + 1))) 1 N]
  rcases Nat.lt_or_ge 1 N with q | q
  · rw [Nat.mod_eq_of_lt q]
    by_cases e : (t + (N - (k + 1))) % N = N - 1
    · rw [if_pos e, e, show N - 1 + 1 = N by omega, Nat.mod_self]
    · rw [if_neg e, Nat.mod_eq_of_lt (show (t + (N - (k + 1))) % N + 1 < N by omega)]
  · have : N = 1 := by omega
    subst this; simp [Nat.mod_one]
def dRt (N : Nat) (x : Nat → Nat) (t : Nat) : Nat := fstp (fun k => decide (x (rtt N t k) ≠ 0)) (N - 1) 1
def dLf (N : Nat) (x : Nat → Nat) (t : Nat) : Nat := fstp (fun k => decide (x (lft N t k) ≠ 0)) (N - 1) 1
def sdw (N : Nat) (x : Nat → Nat) (t : Nat) : Nat := if dLf N x t < dRt N x t then 1 else 2
def dst (N : Nat) (x : Nat → Nat) (t : Nat) : Nat := if dLf N x t < dRt N x t then dLf N x t else dRt N x t
/-- what a branch wants -/
def wnt (K : Nat → Nat → Nat) (b : Nat → Nat) (r t : Nat) : Nat :=
  if K 1 0 ≤ dst (K 1 0) (fun i => b (24 * r + i)) t then 0
  else if K 4 0 < dst (K 1 0) (fun i => b (24 * r + i)) t then 0
  else if 2 ≤ dst (K 1 0) (fun i => b (24 * r + i)) t then sdw (K 1 0) (fun i => b (24 * r + i)) t
  else if amtK K (b (24 * r + t)) < amtK K (b (24 * r + nb (K 1 0) t (sdw (K 1 0) (fun i => b (24 * r + i)) t))) ∨ (amtK K (b (24 * r + t)) = amtK K (b (24 * r + nb (K 1 0) t (sdw (K 1 0) (fun i => b (24 * r + i)) t))) ∧ sdw (K 1 0) (fun i => b (24 * r + i)) t = 2) then sdw (K 1 0) (fun i => b (24 * r + i)) t else 0
theorem sdw_12 (N : Nat) (x : Nat → Nat) (t : Nat) : sdw N x t = 1 ∨ sdw N x t = 2 := by unfold sdw; split <;> simp
theorem wnt_lt (K : Nat → Nat → Nat) (b : Nat → Nat) (r t : Nat) : wnt K b r t < 3 := by
  have := sdw_12 (K 1 0) (fun i => b (24 * r + i)) t
  unfold wnt
  split
  · decide
  · split
    · decide
    · split
      · omega
      · split
        · omega
        · decide
theorem d_sp {N : Nat} (hN : 1 ≤ N) (P : Nat → Bool) : 1 ≤ fstp P (N - 1) 1 ∧ fstp P (N - 1) 1 ≤ N ∧ (∀ k, 1 ≤ k → k < fstp P (N - 1) 1 → P k = false) ∧ (fstp P (N - 1) 1 < N → P (fstp P (N - 1) 1) = true) := by
  obtain ⟨g1, g2, g3, g4⟩ := fstp_spec P (N - 1) 1
  exact ⟨g1, by omega, g3, fun h => g4 (by omega)⟩
theorem e_ttn2 {S0 T : Nat → Nat → Int32} {K : Nat → Nat → Nat} {b w : Nat → Nat} (hK : wfK K) (hC : repC S0 K) (hT : treeC T b w) (hb : ∀ c, c < 240 → b c < 128) {r t : Nat} (hr : r ≤ 9) (ht : t < K 1 0) : f_X2_turnsToNext S0 T (nI r) (nI t) 2 = some (nI (dRt (K 1 0) (fun i => b (24 * r + i)) t)) := by
  have h24 := hK.1.2.2.2.1
  have h6 := hK.1.2.2.1
  obtain ⟨g1, g2, g3, g4⟩ := d_sp (N := K 1 0) (by omega) (fun k => decide ((fun i => b (24 * r + i)) (rtt (K 1 0) t k) ≠ 0))
  have hd : dRt (K 1 0) (fun i => b (24 * r + i)) t = fstp (fun k => decide ((fun i => b (24 * r + i)) (rtt (K 1 0) t k) ≠ 0)) (K 1 0 - 1) 1 := rfl
  rw [← hd] at g1 g2 g3 g4
  generalize dRt (K 1 0) (fun i => b (24 * r + i)) t = d at *
  have hl : f_X2_turnsToNext_L6 S0 T (nI r) 2 zfuel (nI t, 1) = some (if d < K 1 0 then (0, nI d) else (1, 0)) := by
    have hst : (nI t, (1 : Int32)) = (nI (rtt (K 1 0) t 0), nI (0 + 1)) := by unfold rtt; rw [Nat.add_zero, Nat.mod_eq_of_lt ht]; rfl
    rw [hst]
    refine zfor0 (fun i => (nI (rtt (K 1 0) t i), nI (i + 1))) (d - 1) _ (by omega) (fun i hi rec => ?_) (fun rec => ?_)
    · show f_X2_turnsToNext_L6b S0 T (nI r) 2 rec (nI (rtt (K 1 0) t i), nI (i + 1)) = rec (nI (rtt (K 1 0) t (i + 1)), nI (i + 1 + 1))
      have hlt : rtt (K 1 0) t i < K 1 0 := Nat.mod_lt _ (by omega)
      have hlt2 : rtt (K 1 0) t (i + 1) < K 1 0 := Nat.mod_lt _ (by omega)
      have h0 := of_decide_eq_false (g3 (i + 1) (by omega) (by omega))
      have h0' : b (24 * r + rtt (K 1 0) t (i + 1)) = 0 := Decidable.of_not_not h0
      unfold f_X2_turnsToNext_L6b
      dsimp only
      rw [ilen (hC.1 1 (by omega)) rfl (show i + 1 < K 1 0 by omega) (by omega), e_tb2 hC (by omega) (by omega) hlt, Option.bind_some, rtt_s ht, e_cellOf, Option.bind_some, zix_nI (by omega) (by decide), nI_clamp (by omega), (hT _ (by omega)).1, h0', if_pos nI_0, nI_1]
    · show f_X2_turnsToNext_L6b S0 T (nI r) 2 rec (nI (rtt (K 1 0) t (d - 1)), nI (d - 1 + 1)) = _
      unfold f_X2_turnsToNext_L6b
      dsimp only
      by_cases e : d < K 1 0
      · have hlt : rtt (K 1 0) t (d - 1) < K 1 0 := Nat.mod_lt _ (by omega)
        have hlt2 : rtt (K 1 0) t d < K 1 0 := Nat.mod_lt _ (by omega)
        have h0 : b (24 * r + rtt (K 1 0) t d) ≠ 0 := of_decide_eq_true (g4 e)
        have hbb := hb (24 * r + rtt (K 1 0) t d) (by omega)
        rw [show d - 1 + 1 = d by omega, ilen (hC.1 1 (by omega)) rfl e (by omega), e_tb2 hC (by omega) (by omega) hlt, Option.bind_some, rtt_s ht, show d - 1 + 1 = d by omega, e_cellOf, Option.bind_some, zix_nI (by omega) (by decide), nI_clamp (by omega), (hT _ (by omega)).1, if_neg (nI_ne0 (by omega) (by omega)), if_pos e]
      · rw [show d - 1 + 1 = d by omega, ilep (hC.1 1 (by omega)) rfl (show K 1 0 ≤ d by omega) (by omega), if_neg e]
  unfold f_X2_turnsToNext
  rw [hl, Option.bind_some]
  by_cases e : d < K 1 0
  · rw [if_pos e, if_pos rfl]
  · rw [if_neg e, if_neg (by decide), hC.1 1 (by omega), show K 1 0 = d by omega]
theorem e_ttn1 {S0 T : Nat → Nat → Int32} {K : Nat → Nat → Nat} {b w : Nat → Nat} (hK : wfK K) (hC : repC S0 K) (hT : treeC T b w) (hb : ∀ c, c < 240 → b c < 128) {r t : Nat} (hr : r ≤ 9) (ht : t < K 1 0) : f_X2_turnsToNext S0 T (nI r) (nI t) 1 = some (nI (dLf (K 1 0) (fun i => b (24 * r + i)) t)) := by
  have h24 := hK.1.2.2.2.1
  have h6 := hK.1.2.2.1
  obtain ⟨g1, g2, g3, g4⟩ := d_sp (N := K 1 0) (by omega) (fun k => decide ((fun i => b (24 * r + i)) (lft (K 1 0) t k) ≠ 0))
  have hd : dLf (K 1 0) (fun i => b (24 * r + i)) t = fstp (fun k => decide ((fun i => b (24 * r + i)) (lft (K 1 0) t k) ≠ 0)) (K 1 0 - 1) 1 := rfl
  rw [← hd] at g1 g2 g3 g4
  generalize dLf (K 1 0) (fun i => b (24 * r + i)) t = d at *
  have hl : f_X2_turnsToNext_L6 S0 T (nI r) 1 zfuel (nI t, 1) = some (if d < K 1 0 then (0, nI d) else (1, 0)) := by
    have hst : (nI t, (1 : Int32)) = (nI (lft (K 1 0) t 0), nI (0 + 1)) := by unfold lft; rw [Nat.sub_zero, Nat.add_mod_right, Nat.mod_eq_of_lt ht]; rfl
    rw [hst]
    refine zfor0 (fun i => (nI (lft (K 1 0) t i), nI (i + 1))) (d - 1) _ (by omega) (fun i hi rec => ?_) (fun rec => ?_)
    · show f_X2_turnsToNext_L6b S0 T (nI r) 1 rec (nI (lft (K 1 0) t i), nI (i + 1)) = rec (nI (lft (K 1 0) t (i + 1)), nI (i + 1 + 1))
      have hlt : lft (K 1 0) t i < K 1 0 := Nat.mod_lt _ (by omega)
      have hlt2 : lft (K 1 0) t (i + 1) < K 1 0 := Nat.mod_lt _ (by omega)
      have h0 := of_decide_eq_false (g3 (i + 1) (by omega) (by omega))
      have h0' : b (24 * r + lft (K 1 0) t (i + 1)) = 0 := Decidable.of_not_not h0
      unfold f_X2_turnsToNext_L6b
      dsimp only
      rw [ilen (hC.1 1 (by omega)) rfl (show i + 1 < K 1 0 by omega) (by omega), e_tb1 hC (by omega) (by omega) hlt, Option.bind_some, lft_s ht (by omega), e_cellOf, Option.bind_some, zix_nI (by omega) (by decide), nI_clamp (by omega), (hT _ (by omega)).1, h0', if_pos nI_0, nI_1]
    · show f_X2_turnsToNext_L6b S0 T (nI r) 1 rec (nI (lft (K 1 0) t (d - 1)), nI (d - 1 + 1)) = _
      unfold f_X2_turnsToNext_L6b
      dsimp only
      by_cases e : d < K 1 0
      · have hlt : lft (K 1 0) t (d - 1) < K 1 0 := Nat.mod_lt _ (by omega)
        have hlt2 : lft (K 1 0) t d < K 1 0 := Nat.mod_lt _ (by omega)
        have h0 : b (24 * r + lft (K 1 0) t d) ≠ 0 := of_decide_eq_true (g4 e)
        have hbb := hb (24 * r + lft (K 1 0) t d) (by omega)
        rw [show d - 1 + 1 = d by omega, ilen (hC.1 1 (by omega)) rfl e (by omega), e_tb1 hC (by omega) (by omega) hlt, Option.bind_some, lft_s ht (by omega), show d - 1 + 1 = d by omega, e_cellOf, Option.bind_some, zix_nI (by omega) (by decide), nI_clamp (by omega), (hT _ (by omega)).1, if_neg (nI_ne0 (by omega) (by omega)), if_pos e]
      · rw [show d - 1 + 1 = d by omega, ilep (hC.1 1 (by omega)) rfl (show K 1 0 ≤ d by omega) (by omega), if_neg e]
  unfold f_X2_turnsToNext
  rw [hl, Option.bind_some]
  by_cases e : d < K 1 0
  · rw [if_pos e, if_pos rfl]
  · rw [if_neg e, if_neg (by decide), hC.1 1 (by omega), show K 1 0 = d by omega]
theorem e_wanted {S0 T : Nat → Nat → Int32} {K : Nat → Nat → Nat} {b w : Nat → Nat} (hK : wfK K) (hC : repC S0 K) (hT : treeC T b w) (hb : ∀ c, c < 240 → b c < 128) {r t : Nat} (hr : r ≤ 9) (ht : t < K 1 0) : f_X2_wantedSide S0 T (nI r) (nI t) = some (nI (wnt K b r t)) := by
  have h24 := hK.1.2.2.2.1
  have h6 := hK.1.2.2.1
  have hre := hK.1.2.2.2.2.2.2.2.1
  obtain ⟨g1, g2, _⟩ := d_sp (N := K 1 0) (by omega) (fun k => decide ((fun i => b (24 * r + i)) (rtt (K 1 0) t k) ≠ 0))
  obtain ⟨l1, l2, _⟩ := d_sp (N := K 1 0) (by omega) (fun k => decide ((fun i => b (24 * r + i)) (lft (K 1 0) t k) ≠ 0))
  have hdR : dRt (K 1 0) (fun i => b (24 * r + i)) t ≤ K 1 0 := g2
  have hdL : dLf (K 1 0) (fun i => b (24 * r + i)) t ≤ K 1 0 := l2
  have j61 : ∀ s d : Nat, (s = 1 ∨ s = 2) → d < 2 ^ 31 → f_X2_wantedSide_J61 S0 T (nI r) (nI t) (nI d) (nI s) = some (nI (if 2 ≤ d then s else if amtK K (b (24 * r + t)) < amtK K (b (24 * r + nb (K 1 0) t s)) ∨ (amtK K (b (24 * r + t)) = amtK K (b (24 * r + nb (K 1 0) t s)) ∧ s = 2) then s else 0)) := by
    intro s d hs hd
    have hn := nb_lt s ht
    have a1 := amt_le hK (b (24 * r + t))
    have a2 := amt_le hK (b (24 * r + nb (K 1 0) t s))
    unfold f_X2_wantedSide_J61 f_X2_wantedSide_J130 f_X2_wantedSide_J134 f_X2_wantedSide_J135
    by_cases e : 2 ≤ d
    · rw [if_neg (show ¬ nI d < 2 from nI_nlt (b := 2) e hd), if_pos e]
    · rw [if_pos (show nI d < 2 from nI_lt (b := 2) (by omega) (by omega)), if_neg e, e_cellOf, Option.bind_some, zix_nI (by omega) (by decide), nI_clamp (by omega), (hT _ (by omega)).1, e_amountOf hC (wf7 hK) (hb _ (by omega)), Option.bind_some, e_turnBeside hC (by omega) (by omega) ht (by omega), Option.bind_some, e_cellOf, Option.bind_some, zix_nI (by omega) (by decide), nI_clamp (by omega), (hT _ (by omega)).1, e_amountOf hC (wf7 hK) (hb _ (by omega)), Option.bind_some]
      rw [if_neg (show ¬ (1 : Int32) = 0 by decide), if_pos (show (0 : Int32) = 0 from rfl)]
      by_cases q1 : amtK K (b (24 * r + t)) < amtK K (b (24 * r + nb (K 1 0) t s))
      · rw [if_pos (nI_lt q1 (by omega)), if_pos (Or.inl q1)]
      · rw [if_neg (nI_nlt (by omega) (by omega))]
        by_cases q2 : amtK K (b (24 * r + t)) = amtK K (b (24 * r + nb (K 1 0) t s))
        · rw [if_pos (by rw [q2])]
          by_cases q3 : s = 2
          · rw [if_pos ((nq2 (by omega)).mpr q3), if_pos (Or.inr ⟨q2, q3⟩)]
          · rw [if_neg (fun z => q3 ((nq2 (by omega)).mp z)), if_neg (by omega)]; rfl
        · rw [if_neg (fun z => q2 ((nI_eq (by omega) (by omega)).mp z)), if_neg (by omega)]; rfl
  unfold f_X2_wantedSide wnt sdw dst
  rw [e_ttn2 hK hC hT hb hr ht, Option.bind_some, e_ttn1 hK hC hT hb hr ht, Option.bind_some, zlet_eq]
  generalize dRt (K 1 0) (fun i => b (24 * r + i)) t = dR at *
  generalize dLf (K 1 0) (fun i => b (24 * r + i)) t = dL at *
  by_cases q : dL < dR
  · rw [if_pos (nI_lt q (by omega)), if_pos q, if_pos q, if_pos (nI_lt q (by omega))]
    by_cases e1 : K 1 0 ≤ dL
    · rw [ilep (hC.1 1 (by omega)) rfl e1 (by omega), if_pos e1]; rfl
    · rw [ilen (hC.1 1 (by omega)) rfl (show dL < K 1 0 by omega) (by omega), if_neg e1]
      by_cases e2 : K 4 0 < dL
      · rw [ilen rfl (hC.1 4 (by omega)) e2 (by omega), if_pos e2]; rfl
      · rw [ilep rfl (hC.1 4 (by omega)) (show dL ≤ K 4 0 by omega) (by omega), if_neg e2]
        exact j61 1 dL (Or.inl rfl) (by omega)
  · rw [if_neg (nI_nlt (by omega) (by omega)), if_neg q, if_neg q, if_neg (nI_nlt (by omega) (by omega))]
    by_cases e1 : K 1 0 ≤ dR
    · rw [ilep (hC.1 1 (by omega)) rfl e1 (by omega), if_pos e1]; rfl
    · rw [ilen (hC.1 1 (by omega)) rfl (show dR < K 1 0 by omega) (by omega), if_neg e1]
      by_cases e2 : K 4 0 < dR
      · rw [ilen rfl (hC.1 4 (by omega)) e2 (by omega), if_pos e2]; rfl
      · rw [ilep rfl (hC.1 4 (by omega)) (show dR ≤ K 4 0 by omega) (by omega), if_neg e2]
        exact j61 2 dR (Or.inr rfl) (by omega)
end LEA
