/-! the leaning tree: the reference's wants, where it can go, both trees -/
section LE2
theorem ar_neg {t N k : Nat} (hk : k ≤ N) : nI t + -(nI k) + nI N = nI (t + (N - k)) := by
  rw [Int32.add_assoc, Int32.add_comm (-(nI k)), ← Int32.sub_eq_add_neg, pk_sub hk, nI_add]
theorem e_wantsM {M : Nat → Nat → Int32} {K : Nat → Nat → Nat} {b w : Nat → Nat} (hK : wfK K) (hM : repM M K) (hT : treeM M K b w) (hb : ∀ c, c < 240 → b c < 2 ^ K 5 0) {r t : Nat} (hr : r ≤ 9) (ht : t < K 1 0) : f_X7_wants M (nI r) (nI t) = some (nI (wnt K b r t)) := by
  have h24 := hK.1.2.2.2.1
  have h6 := hK.1.2.2.1
  have hre := hK.1.2.2.2.2.2.2.2.1
  have hcm : ∀ c, c < 240 → (M 27 c ≤ 0 ↔ b c = 0) := by
    intro c hc
    have ham := amt_le hK (b c)
    rw [(hT c hc).2]
    constructor
    · intro h
      rcases Nat.eq_zero_or_pos (b c) with q | q
      · exact q
      · have := amtK_pos (fun p hp => (hK.2.1 p hp).2.2.2.1) (hb c hc) (by omega)
        exact absurd h (nI_nle (by omega) (by omega))
    · intro h; rw [h, show amtK K 0 = 0 from amt_0 K _]; decide
  have hrl : ∀ k, rtt (K 1 0) t k < K 1 0 := fun k => Nat.mod_lt _ (by omega)
  have hll : ∀ k, lft (K 1 0) t k < K 1 0 := fun k => Nat.mod_lt _ (by omega)
  have j34 : ∀ (k x : Nat) (k3 x4 : Int32) rec, x < K 1 0 → k < K 1 0 → f_X7_around M (nI t + k3) = some (nI x) → f_X7_wants_J34 rec M (nI r) (nI t) (nI k) x4 (nI r) (nI t) k3 = if 2 * k ≤ K 1 0 ∧ b (24 * r + x) ≠ 0 then some (0, x4, nI (24 * r + x)) else rec (x4 + (-1)) := by
    intro k x k3 x4 rec hx hk ha
    unfold f_X7_wants_J34 f_X7_wants_J108
    rw [ha, Option.bind_some, e_cellM, Option.bind_some]
    by_cases e : 2 * k ≤ K 1 0
    · rw [iltn hM.1.2.1 (show (2 : Int32) * nI k = nI (2 * k) from pk_mul 2 k) e (by omega), zix_nI (by omega) (by decide), nI_clamp (by omega)]
      by_cases q : b (24 * r + x) = 0
      · rw [if_pos ((hcm _ (by omega)).mpr q), if_neg (fun z => z.2 q)]
      · rw [if_neg (fun z => q ((hcm _ (by omega)).mp z)), if_pos ⟨e, q⟩]
    · rw [iltp hM.1.2.1 (show (2 : Int32) * nI k = nI (2 * k) from pk_mul 2 k) (show K 1 0 < 2 * k by omega) (by omega), if_neg (fun z => e z.1)]
  have inn : ∀ k, 1 ≤ k → k < K 1 0 → f_X7_wants_L13 M (nI r) (nI t) (nI k) zfuel 2 = some (if 2 * k ≤ K 1 0 ∧ b (24 * r + rtt (K 1 0) t k) ≠ 0 then (0, 2, nI (24 * r + rtt (K 1 0) t k)) else if 2 * k ≤ K 1 0 ∧ b (24 * r + lft (K 1 0) t k) ≠ 0 then (0, 1, nI (24 * r + lft (K 1 0) t k)) else (1, 0, 0)) := by
    intro k hk1 hk
    have s2 : ∀ rec, f_X7_wants_L13b M (nI r) (nI t) (nI k) rec 2 = if 2 * k ≤ K 1 0 ∧ b (24 * r + rtt (K 1 0) t k) ≠ 0 then some (0, 2, nI (24 * r + rtt (K 1 0) t k)) else rec 1 := by
      intro rec
      unfold f_X7_wants_L13b
      rw [if_neg (by decide), if_pos rfl, j34 k (rtt (K 1 0) t k) (nI k) 2 rec (hrl k) hk (by rw [e_around hM (by omega) (by omega) (a := t + k + K 1 0) (by rw [nI_add, nI_add]) (by omega), Nat.add_mod_right]; rfl)]
      rfl
    have s1 : ∀ rec, f_X7_wants_L13b M (nI r) (nI t) (nI k) rec 1 = if 2 * k ≤ K 1 0 ∧ b (24 * r + lft (K 1 0) t k) ≠ 0 then some (0, 1, nI (24 * r + lft (K 1 0) t k)) else rec 0 := by
      intro rec
      unfold f_X7_wants_L13b
      rw [if_neg (by decide), if_neg (by decide), j34 k (lft (K 1 0) t k) (-(nI k)) 1 rec (hll k) hk (by rw [e_around hM (by omega) (by omega) (ar_neg (by omega)) (by omega)]; rfl)]
      rfl
    have s0 : ∀ rec, f_X7_wants_L13b M (nI r) (nI t) (nI k) rec 0 = some (1, 0, 0) := by
      intro rec
      unfold f_X7_wants_L13b
      rw [if_pos (by decide)]
    show f_X7_wants_L13b M (nI r) (nI t) (nI k) (zloop _ 999) 2 = _
    rw [s2]
    by_cases q : 2 * k ≤ K 1 0 ∧ b (24 * r + rtt (K 1 0) t k) ≠ 0
    · rw [if_pos q, if_pos q]
    · rw [if_neg q, if_neg q]
      show f_X7_wants_L13b M (nI r) (nI t) (nI k) (zloop _ 998) 1 = _
      rw [s1]
      by_cases q2 : 2 * k ≤ K 1 0 ∧ b (24 * r + lft (K 1 0) t k) ≠ 0
      · rw [if_pos q2, if_pos q2]
      · rw [if_neg q2, if_neg q2]
        show f_X7_wants_L13b M (nI r) (nI t) (nI k) (zloop _ 997) 0 = _
        exact s0 _
  obtain ⟨g1, g2, g3, g4⟩ := d_sp (N := K 1 0) (by omega) (fun k => decide ((fun i => b (24 * r + i)) (rtt (K 1 0) t k) ≠ 0))
  obtain ⟨l1, l2, l3, l4⟩ := d_sp (N := K 1 0) (by omega) (fun k => decide ((fun i => b (24 * r + i)) (lft (K 1 0) t k) ≠ 0))
  have hdR : fstp (fun k => decide ((fun i => b (24 * r + i)) (rtt (K 1 0) t k) ≠ 0)) (K 1 0 - 1) 1 = dRt (K 1 0) (fun i => b (24 * r + i)) t := rfl
  have hdL : fstp (fun k => decide ((fun i => b (24 * r + i)) (lft (K 1 0) t k) ≠ 0)) (K 1 0 - 1) 1 = dLf (K 1 0) (fun i => b (24 * r + i)) t := rfl
  rw [hdR] at g1 g2 g3 g4
  rw [hdL] at l1 l2 l3 l4
  have hsw : ∀ k, 1 ≤ k → k < K 1 0 → lft (K 1 0) t (K 1 0 - k) = rtt (K 1 0) t k ∧ rtt (K 1 0) t (K 1 0 - k) = lft (K 1 0) t k := by
    intro k h1 h2
    unfold lft rtt
    exact ⟨by rw [show K 1 0 - (K 1 0 - k) = k by omega], rfl⟩
  have hRL : dRt (K 1 0) (fun i => b (24 * r + i)) t < K 1 0 → dLf (K 1 0) (fun i => b (24 * r + i)) t ≤ K 1 0 - dRt (K 1 0) (fun i => b (24 * r + i)) t := by
    intro h
    have hP := of_decide_eq_true (g4 h)
    rcases Nat.lt_or_ge (K 1 0 - dRt (K 1 0) (fun i => b (24 * r + i)) t) (dLf (K 1 0) (fun i => b (24 * r + i)) t) with q | q
    · have := of_decide_eq_false (l3 _ (by omega) q)
      dsimp only at this hP
      rw [(hsw _ g1 h).1] at this
      exact absurd hP this
    · exact q
  have hLR : dLf (K 1 0) (fun i => b (24 * r + i)) t < K 1 0 → dRt (K 1 0) (fun i => b (24 * r + i)) t ≤ K 1 0 - dLf (K 1 0) (fun i => b (24 * r + i)) t := by
    intro h
    have hP := of_decide_eq_true (l4 h)
    rcases Nat.lt_or_ge (K 1 0 - dLf (K 1 0) (fun i => b (24 * r + i)) t) (dRt (K 1 0) (fun i => b (24 * r + i)) t) with q | q
    · have := of_decide_eq_false (g3 _ (by omega) q)
      dsimp only at this hP
      rw [(hsw _ l1 h).2] at this
      exact absurd hP this
    · exact q
  have hr1 : rtt (K 1 0) t 1 = nb (K 1 0) t 2 := by
    have := rtt_s (N := K 1 0) (t := t) (k := 0) ht
    rw [show rtt (K 1 0) t 0 = t by unfold rtt; rw [Nat.add_zero, Nat.mod_eq_of_lt ht]] at this
    exact this.symm
  have hl1 : lft (K 1 0) t 1 = nb (K 1 0) t 1 := by
    have := lft_s (N := K 1 0) (t := t) (k := 0) ht (by omega)
    rw [show lft (K 1 0) t 0 = t by unfold lft; rw [Nat.sub_zero, Nat.add_mod_right, Nat.mod_eq_of_lt ht]] at this
    exact this.symm
  unfold f_X7_wants wnt sdw dst
  generalize dRt (K 1 0) (fun i => b (24 * r + i)) t = dR at *
  generalize dLf (K 1 0) (fun i => b (24 * r + i)) t = dL at *
  have hl : ∀ d s x, d = (if dL < dR then dL else dR) → s = (if dL < dR then 1 else 2) → x = (if dL < dR then lft (K 1 0) t d else rtt (K 1 0) t d) → f_X7_wants_L2 M (nI r) (nI t) zfuel 1 = some (if d < K 1 0 then (0, nI d, nI s, nI (24 * r + x)) else (1, 0, 0, 0)) := by
    intro d s x hd hs hx
    have hd1 : 1 ≤ d := by rw [hd]; split <;> omega
    have hdN : d ≤ K 1 0 := by rw [hd]; split <;> omega
    refine zfor0 (fun i => nI (i + 1)) (d - 1) _ (by omega) (fun i hi rec => ?_) (fun rec => ?_)
    · show f_X7_wants_L2b M (nI r) (nI t) rec (nI (i + 1)) = rec (nI (i + 1 + 1))
      have n1 := of_decide_eq_false (g3 (i + 1) (by omega) (by rw [hd] at hi; split at hi <;> omega))
      have n2 := of_decide_eq_false (l3 (i + 1) (by omega) (by rw [hd] at hi; split at hi <;> omega))
      have c1 : ¬ (2 * (i + 1) ≤ K 1 0 ∧ b (24 * r + rtt (K 1 0) t (i + 1)) ≠ 0) := fun z => n1 z.2
      have c2 : ¬ (2 * (i + 1) ≤ K 1 0 ∧ b (24 * r + lft (K 1 0) t (i + 1)) ≠ 0) := fun z => n2 z.2
      unfold f_X7_wants_L2b
      rw [ilen hM.1.2.1 rfl (show i + 1 < K 1 0 by omega) (by omega), inn (i + 1) (by omega) (by omega), Option.bind_some, if_neg c1, if_neg c2, if_neg (show ¬ (1 : Nat) = 0 by decide), nI_1]
    · show f_X7_wants_L2b M (nI r) (nI t) rec (nI (d - 1 + 1)) = _
      unfold f_X7_wants_L2b
      rw [show d - 1 + 1 = d by omega]
      by_cases e : d < K 1 0
      · rw [ilen hM.1.2.1 rfl e (by omega), inn d hd1 e, Option.bind_some, if_pos e]
        by_cases q : dL < dR
        · rw [if_pos q] at hd hs hx
          have n1 := of_decide_eq_false (g3 d (by omega) (by omega))
          have p2 := of_decide_eq_true (l4 (by omega))
          rw [← hd] at p2
          have c1 : ¬ (2 * d ≤ K 1 0 ∧ b (24 * r + rtt (K 1 0) t d) ≠ 0) := fun z => n1 z.2
          have c2 : 2 * d ≤ K 1 0 ∧ b (24 * r + lft (K 1 0) t d) ≠ 0 := ⟨by have := hLR (by omega); omega, p2⟩
          rw [if_neg c1, if_pos c2, if_pos rfl, hs, hx]; rfl
        · rw [if_neg q] at hd hs hx
          have p2 := of_decide_eq_true (g4 (by omega))
          rw [← hd] at p2
          have c2 : 2 * d ≤ K 1 0 ∧ b (24 * r + rtt (K 1 0) t d) ≠ 0 := ⟨by have := hRL (by omega); omega, p2⟩
          rw [if_pos c2, if_pos rfl, hs, hx]; rfl
      · rw [ilep hM.1.2.1 rfl (show K 1 0 ≤ d by omega) (by omega), if_neg e]
  have hl' := hl _ _ _ rfl rfl rfl
  generalize hd : (if dL < dR then dL else dR) = d at *
  generalize hs : (if dL < dR then 1 else 2) = s at *
  have hs12 : s = 1 ∨ s = 2 := by rw [← hs]; split <;> simp
  have hdN : d ≤ K 1 0 := by rw [← hd]; split <;> omega
  rw [hl', Option.bind_some]
  by_cases e : d < K 1 0
  · rw [if_pos e, if_neg (show ¬ K 1 0 ≤ d by omega), if_pos rfl]
    dsimp only
    by_cases e2 : K 4 0 < d
    · rw [ilen rfl hM.1.2.2.2.2.1 e2 (by omega), if_pos e2]; rfl
    · rw [ilep rfl hM.1.2.2.2.2.1 (show d ≤ K 4 0 by omega) (by omega), if_neg e2]
      by_cases e3 : 2 ≤ d
      · rw [if_neg (show ¬ nI d ≤ 1 from nI_ge (a := 1) (by omega) (by omega)), if_pos e3]
      · have hd1 : d = 1 := by
          have : 1 ≤ d := by rw [← hd]; split <;> omega
          omega
        have hx : (if dL < dR then lft (K 1 0) t d else rtt (K 1 0) t d) = nb (K 1 0) t s := by
          rw [hd1]
          by_cases q : dL < dR
          · rw [if_pos q] at hs ⊢; rw [hl1, ← hs]
          · rw [if_neg q] at hs ⊢; rw [hr1, ← hs]
        have hn := nb_lt s ht
        have a1 := amt_le hK (b (24 * r + t))
        have a2 := amt_le hK (b (24 * r + nb (K 1 0) t s))
        rw [if_pos (show nI d ≤ 1 from nI_le (b := 1) (by omega) (by omega)), if_neg e3, e_cellM, Option.bind_some, zix_nI (by omega) (by decide), hx, zix_nI (by omega) (by decide), nI_clamp (by omega), nI_clamp (by omega), (hT _ (by omega)).2, (hT _ (by omega)).2]
        unfold f_X7_wantsBeside
        by_cases q1 : amtK K (b (24 * r + t)) < amtK K (b (24 * r + nb (K 1 0) t s))
        · rw [if_pos (nI_lt q1 (by omega)), if_pos (Or.inl q1)]; rfl
        · rw [if_neg (nI_nlt (by omega) (by omega))]
          by_cases q2 : amtK K (b (24 * r + t)) = amtK K (b (24 * r + nb (K 1 0) t s))
          · rw [if_pos (by rw [q2])]
            by_cases q3 : s = 2
            · rw [if_pos ((nq2 (by omega)).mpr q3), if_pos (Or.inr ⟨q2, q3⟩)]; rfl
            · rw [if_neg (fun z => q3 ((nq2 (by omega)).mp z)), if_neg (by omega)]; rfl
          · rw [if_neg (fun z => q2 ((nI_eq (by omega) (by omega)).mp z)), if_neg (by omega)]; rfl
  · rw [if_neg e, if_pos (show K 1 0 ≤ d by omega), if_neg (by decide)]; rfl
/-- where it can go -/
def fre (K : Nat → Nat → Nat) (r i : Nat) : Nat := if K 9 (tg (K 1 0) r i 0) = 0 then 0 else if K 9 (tg (K 1 0) r i 1) = 0 then 1 else if K 9 (tg (K 1 0) r i 2) = 0 then 2 else 3
def pas (K : Nat → Nat → Nat) (r i s : Nat) : Nat := if K 9 (tg (K 1 0) r i s) = 0 then s else fre K r i
theorem fre_ok (K : Nat → Nat → Nat) (r i : Nat) : fre K r i = 3 ∨ (fre K r i < 3 ∧ K 9 (tg (K 1 0) r i (fre K r i)) = 0) := by
  unfold fre
  by_cases e0 : K 9 (tg (K 1 0) r i 0) = 0
  · rw [if_pos e0]; exact Or.inr ⟨by decide, e0⟩
  · rw [if_neg e0]
    by_cases e1 : K 9 (tg (K 1 0) r i 1) = 0
    · rw [if_pos e1]; exact Or.inr ⟨by decide, e1⟩
    · rw [if_neg e1]
      by_cases e2 : K 9 (tg (K 1 0) r i 2) = 0
      · rw [if_pos e2]; exact Or.inr ⟨by decide, e2⟩
      · rw [if_neg e2]; exact Or.inl rfl
def choL (K : Nat → Nat → Nat) (b : Nat → Nat) (r i : Nat) : Nat := if r = 1 then 0 else pas K r i (wnt K b r i)
theorem okL {K : Nat → Nat → Nat} (hK : wfK K) : okCho K (choL K) := by
  intro b r i hr1 hr hi
  unfold choL
  by_cases e : r = 1
  · rw [if_pos e]
    refine Or.inr ⟨by decide, ?_, fun _ => rfl⟩
    unfold tg; rw [if_pos (by omega)]; exact rk0 hK
  · rw [if_neg e]
    unfold pas
    by_cases q : K 9 (tg (K 1 0) r i (wnt K b r i)) = 0
    · rw [if_pos q]; exact Or.inr ⟨wnt_lt K b r i, q, fun z => absurd z e⟩
    · rw [if_neg q]
      rcases fre_ok K r i with z | ⟨z1, z2⟩
      · exact Or.inl z
      · exact Or.inr ⟨z1, z2, fun y => absurd y e⟩
theorem e_passable {S0 : Nat → Nat → Int32} {K : Nat → Nat → Nat} (hK : wfK K) (hC : repC S0 K) {r i s : Nat} (hr : r ≤ K 0 0) (hi : i < K 1 0) (hs : s < 3) : f_X2_passableSide S0 (nI r) (nI i) (nI s) = some (sdI (pas K r i s)) := by
  have h9 := hK.1.2.1
  have h24 := hK.1.2.2.2.1
  have h6 := hK.1.2.2.1
  have ts := fun s => (tg_lt hK (s := s) hr hi).1
  have ks := fun s => hK.2.2.2.1 (tg (K 1 0) r i s)
  have st : ∀ x rec, x < 3 → f_X2_passableSide_L20b S0 (nI r) (nI i) rec (nI x) = if K 9 (tg (K 1 0) r i x) = 0 then some (0, nI x) else rec (nI (x + 1)) := by
    intro x rec hx
    unfold f_X2_passableSide_L20b
    have tx := ts x
    have kx := ks x
    rw [if_neg (show ¬ 2 < nI x from nI_nlt (a := 2) (by omega) (by omega)), e_cellInwards hC (by omega) (by omega) (by omega) hi hx, Option.bind_some, zix_nI tx (by decide), nI_clamp (by omega), hC.2.2 _ tx, nI_1]
    by_cases q : K 9 (tg (K 1 0) r i x) = 0
    · rw [if_pos q, q, if_pos nI_0]
    · rw [if_neg q, if_neg (nI_ne0 (by omega) (by omega))]
  unfold f_X2_passableSide pas
  have tx := ts s
  have kx := ks s
  rw [e_cellInwards hC (by omega) (by omega) (by omega) hi hs, Option.bind_some, zix_nI tx (by decide), nI_clamp (by omega), hC.2.2 _ tx]
  by_cases q : K 9 (tg (K 1 0) r i s) = 0
  · rw [if_pos q, q, if_pos nI_0, sd_ne (by omega)]
  · rw [if_neg q, if_neg (nI_ne0 (by omega) (by omega))]
    have hl : f_X2_passableSide_L20 S0 (nI r) (nI i) zfuel 0 = some (if fre K r i = 3 then (1, 0) else (0, nI (fre K r i))) := by
      unfold fre
      show f_X2_passableSide_L20b S0 (nI r) (nI i) (zloop _ 999) (nI 0) = _
      rw [st 0 _ (by decide)]
      by_cases e0 : K 9 (tg (K 1 0) r i 0) = 0
      · rw [if_pos e0, if_pos e0]; rfl
      · rw [if_neg e0, if_neg e0]
        show f_X2_passableSide_L20b S0 (nI r) (nI i) (zloop _ 998) (nI 1) = _
        rw [st 1 _ (by decide)]
        by_cases e1 : K 9 (tg (K 1 0) r i 1) = 0
        · rw [if_pos e1, if_pos e1]; rfl
        · rw [if_neg e1, if_neg e1]
          show f_X2_passableSide_L20b S0 (nI r) (nI i) (zloop _ 997) (nI 2) = _
          rw [st 2 _ (by decide)]
          by_cases e2 : K 9 (tg (K 1 0) r i 2) = 0
          · rw [if_pos e2, if_pos e2]; rfl
          · rw [if_neg e2, if_neg e2]; rfl
    rw [hl, Option.bind_some]
    by_cases e : fre K r i = 3
    · rw [if_pos e, e]; rfl
    · rw [if_neg e, if_pos rfl, sd_ne e]
theorem e_goesBy {M : Nat → Nat → Int32} {K : Nat → Nat → Nat} (hK : wfK K) (hM : repM M K) {r i s : Nat} (hr1 : 1 ≤ r) (hr : r ≤ K 0 0) (hi : i < K 1 0) (hs : s < 3) : f_X7_goesBy M (nI r) (nI i) (nI s) = some (sdI (pas K r i s)) := by
  have st : ∀ x rec, x < 3 → f_X7_goesBy_L15b M (nI r) (nI i) rec (nI x) = if K 9 (tg (K 1 0) r i x) = 0 then some (0, nI x) else rec (nI (x + 1)) := by
    intro x rec hx
    unfold f_X7_goesBy_L15b
    rw [if_neg (show ¬ 2 < nI x from nI_nlt (a := 2) (by omega) (by omega)), e_isFree hK hM hr1 hr hi hx, Option.bind_some, nI_1]
    by_cases q : K 9 (tg (K 1 0) r i x) = 0
    · rw [if_pos q, if_pos q, if_neg (by decide)]
    · rw [if_neg q, if_neg q, if_pos rfl]
  unfold f_X7_goesBy pas
  rw [e_isFree hK hM hr1 hr hi hs, Option.bind_some]
  by_cases q : K 9 (tg (K 1 0) r i s) = 0
  · rw [if_pos q, if_pos q, if_neg (by decide), sd_ne (by omega)]
  · rw [if_neg q, if_neg q, if_pos rfl]
    have hl : f_X7_goesBy_L15 M (nI r) (nI i) zfuel 0 = some (if fre K r i = 3 then (1, 0) else (0, nI (fre K r i))) := by
      unfold fre
      show f_X7_goesBy_L15b M (nI r) (nI i) (zloop _ 999) (nI 0) = _
      rw [st 0 _ (by decide)]
      by_cases e0 : K 9 (tg (K 1 0) r i 0) = 0
      · rw [if_pos e0, if_pos e0]; rfl
      · rw [if_neg e0, if_neg e0]
        show f_X7_goesBy_L15b M (nI r) (nI i) (zloop _ 998) (nI 1) = _
        rw [st 1 _ (by decide)]
        by_cases e1 : K 9 (tg (K 1 0) r i 1) = 0
        · rw [if_pos e1, if_pos e1]; rfl
        · rw [if_neg e1, if_neg e1]
          show f_X7_goesBy_L15b M (nI r) (nI i) (zloop _ 997) (nI 2) = _
          rw [st 2 _ (by decide)]
          by_cases e2 : K 9 (tg (K 1 0) r i 2) = 0
          · rw [if_pos e2, if_pos e2]; rfl
          · rw [if_neg e2, if_neg e2]; rfl
    rw [hl, Option.bind_some]
    by_cases e : fre K r i = 3
    · rw [if_pos e, e]; rfl
    · rw [if_neg e, if_pos rfl, sd_ne e]
end LE2
