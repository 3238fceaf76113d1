/-! trees that grow ring by ring -/
section GRW
def pb0 (K : Nat → Nat → Nat) (c : Nat) : Nat := pbK K (c / 24) (c % 24)
def dnc (r i c : Nat) : Prop := r < c / 24 ∨ (c / 24 = r ∧ c % 24 < i)
/-- what holds while rings above r, and of ring r the turns ahead of i, have gone on -/
def stI (K : Nat → Nat → Nat) (r i : Nat) (b w : Nat → Nat) : Prop :=
  (∀ c, c < 240 → b c < 2 ^ K 5 0 ∧ w c < 4) ∧
  (∀ c, c < 240 → w c ≠ 3 → 24 ≤ c ∧ dnc r i c ∧ b c ≠ 0 ∧ (c < 48 → w c = 0)) ∧
  (∀ c, c < 240 → 24 ≤ c → dnc r i c → b c ≠ 0 → w c ≠ 3) ∧
  (∀ c c', c < 240 → c' < 240 → c ≠ c' → ¬ dnc r i c → ¬ dnc r i c' → dj (b c) (b c')) ∧
  (∀ c, c < 240 → b c ≠ 0 → c = 0 ∨ (24 ≤ c ∧ c / 24 ≤ K 0 0 ∧ c % 24 < K 1 0 ∧ K 9 c = 0)) ∧
  ∀ c, c < 240 → ∀ p, p < K 5 0 → ((b c).testBit p = true ↔ ((K 6 p = c / 24 ∧ K 7 p = c % 24) ∨ ∃ c', c' < 240 ∧ w c' ≠ 3 ∧ tg (K 1 0) (c' / 24) (c' % 24) (w c') = c ∧ (b c').testBit p = true))
theorem pb0_bit {K : Nat → Nat → Nat} (hK : wfK K) {c p : Nat} (hp : p < K 5 0) : (pb0 K c).testBit p = true ↔ (K 6 p = c / 24 ∧ K 7 p = c % 24) := by
  unfold pb0 pbK
  by_cases e : plc K (c / 24) (c % 24) < K 5 0
  · rw [if_pos e, Nat.testBit_two_pow]
    constructor
    · intro h
      have h' : plc K (c / 24) (c % 24) = p := by simpa using h
      exact (plc_iff hK hp).mp h'
    · intro h
      have h' := (plc_iff hK hp).mpr h
      simp [h']
  · rw [if_neg e, Nat.zero_testBit]
    constructor
    · intro h; cases h
    · intro h; have := (plc_iff hK hp).mpr h; omega
theorem bit_ex {x n : Nat} (h : x < 2 ^ n) (h0 : x ≠ 0) : ∃ p, p < n ∧ x.testBit p = true := by
  obtain ⟨p, hp⟩ := Nat.exists_testBit_of_ne_zero h0
  refine ⟨p, ?_, hp⟩
  rcases Nat.lt_or_ge p n with q | q
  · exact q
  · rw [Nat.testBit_lt_two_pow (Nat.lt_of_lt_of_le h (Nat.pow_le_pow_right (by decide) q))] at hp; cases hp
theorem dj_of {a b n : Nat} (ha : a < 2 ^ n) (h : ∀ p, p < n → a.testBit p = true → b.testBit p = true → False) : dj a b := by
  rw [dj_iff]
  intro p hp
  rcases Nat.lt_or_ge p n with q | q
  · cases hb : b.testBit p
    · rfl
    · exact (h p q hp hb).elim
  · rw [Nat.testBit_lt_two_pow (Nat.lt_of_lt_of_le ha (Nat.pow_le_pow_right (by decide) q))] at hp; cases hp
theorem stI_0 {K : Nat → Nat → Nat} (hK : wfK K) : stI K (K 0 0) 0 (pb0 K) (fun _ => 3) := by
  refine ⟨fun c _ => ⟨pbK_lt K _ _, by show 3 < 4; decide⟩, fun c _ h => absurd rfl h, fun c hc h24 hd hb => ?_, fun c c' _ _ hne _ _ => ?_, fun c hc hb => ?_, fun c hc p hp => ?_⟩
  · exfalso
    obtain ⟨p, hp, ht⟩ := bit_ex (pbK_lt K _ _) hb
    have := (pb0_bit hK hp).mp ht
    have := hK.2.1 p hp
    rcases hd with q | ⟨q, q2⟩ <;> omega
  · refine dj_of (pbK_lt K _ _) fun p hp h1 h2 => ?_
    have q1 := (pb0_bit hK (c := c) hp).mp h1
    have q2 := (pb0_bit hK (c := c') hp).mp h2
    omega
  · obtain ⟨p, hp, ht⟩ := bit_ex (pbK_lt K _ _) hb
    obtain ⟨q1, q2⟩ := (pb0_bit hK (c := c) hp).mp ht
    obtain ⟨k1, k2, k3, k4, k5, k6⟩ := hK.2.1 p hp
    refine Or.inr ⟨by omega, by omega, by omega, ?_⟩
    rw [q1, q2, show 24 * (c / 24) + c % 24 = c by omega] at k6
    exact k6
  · rw [pb0_bit hK hp]
    exact ⟨Or.inl, fun h => h.elim id (fun ⟨_, _, q, _⟩ => absurd rfl q)⟩
def stpB (N : Nat) (b : Nat → Nat) (r i s : Nat) : Nat → Nat := fun x => if x = tg N r i s then b x ||| b (24 * r + i) else b x
def stpW (w : Nat → Nat) (r i s : Nat) : Nat → Nat := fun x => if x = 24 * r + i then s else w x
theorem tg_lt {K : Nat → Nat → Nat} (hK : wfK K) {r i s : Nat} (hr : r ≤ K 0 0) (hi : i < K 1 0) : tg (K 1 0) r i s < 240 ∧ ((r ≤ 1 ∧ tg (K 1 0) r i s = 0) ∨ (1 < r ∧ tg (K 1 0) r i s / 24 = r - 1 ∧ tg (K 1 0) r i s % 24 < K 1 0 ∧ tg (K 1 0) r i s % 24 = nb (K 1 0) i s ∧ 24 ≤ tg (K 1 0) r i s)) := by
  have h9 := hK.1.2.1
  have h24 := hK.1.2.2.2.1
  have hn := nb_lt s hi
  unfold tg
  by_cases e : r ≤ 1
  · rw [if_pos e]; exact ⟨by omega, Or.inl ⟨e, rfl⟩⟩
  · rw [if_neg e]; exact ⟨by omega, Or.inr (by omega)⟩
theorem stI_skip {K : Nat → Nat → Nat} {r i : Nat} {b w : Nat → Nat} (hi : i < 24) (h0 : b (24 * r + i) = 0) (h : stI K r i b w) : stI K r (i + 1) b w := by
  obtain ⟨h1, h2, h3, h4, h5, h6⟩ := h
  have hd : ∀ c, dnc r i c → dnc r (i + 1) c := fun c q => by unfold dnc at *; omega
  refine ⟨h1, fun c hc hw => ?_, fun c hc h24 hdn hb => ?_, fun c c' hc hc' hne hn hn' => h4 c c' hc hc' hne (fun q => hn (hd c q)) (fun q => hn' (hd c' q)), h5, h6⟩
  · obtain ⟨q1, q2, q3, q4⟩ := h2 c hc hw
    exact ⟨q1, hd c q2, q3, q4⟩
  · by_cases e : c = 24 * r + i
    · rw [e] at hb; exact absurd h0 hb
    · exact h3 c hc h24 (by unfold dnc at *; omega) hb
theorem stI_step {K : Nat → Nat → Nat} (hK : wfK K) {r i s : Nat} {b w : Nat → Nat} (hr1 : 1 ≤ r) (hr : r ≤ K 0 0) (hi : i < K 1 0) (hs : s < 3) (h0 : b (24 * r + i) ≠ 0) (hs1 : r = 1 → s = 0) (hk : K 9 (tg (K 1 0) r i s) = 0) (h : stI K r i b w) : stI K r (i + 1) (stpB (K 1 0) b r i s) (stpW w r i s) ∧ dj (b (tg (K 1 0) r i s)) (b (24 * r + i)) ∧ b (tg (K 1 0) r i s) ||| b (24 * r + i) < 2 ^ K 5 0 := by
  obtain ⟨h1, h2, h3, h4, h5, h6⟩ := h
  have h9 := hK.1.2.1
  have h24 := hK.1.2.2.2.1
  obtain ⟨t1, t2⟩ := tg_lt hK (s := s) hr hi
  have hcc : 24 * r + i < 240 := by omega
  have htn : ¬ dnc r i (tg (K 1 0) r i s) := by unfold dnc; omega
  have htn1 : ¬ dnc r (i + 1) (tg (K 1 0) r i s) := by unfold dnc; omega
  have hcn : ¬ dnc r i (24 * r + i) := by unfold dnc; omega
  have hne : tg (K 1 0) r i s ≠ 24 * r + i := by omega
  have htw : w (tg (K 1 0) r i s) = 3 := by
    rcases Nat.lt_or_ge (w (tg (K 1 0) r i s)) 3 with q | q
    · exact absurd (h2 _ t1 (by omega)).2.1 htn
    · have := (h1 _ t1).2; omega
  have hcw : w (24 * r + i) = 3 := by
    rcases Nat.lt_or_ge (w (24 * r + i)) 3 with q | q
    · exact absurd (h2 _ hcc (by omega)).2.1 hcn
    · have := (h1 _ hcc).2; omega
  have hdj := h4 _ _ t1 hcc hne htn hcn
  have hor : b (tg (K 1 0) r i s) ||| b (24 * r + i) < 2 ^ K 5 0 := Nat.or_lt_two_pow (h1 _ t1).1 (h1 _ hcc).1
  have hd : ∀ c, dnc r i c → dnc r (i + 1) c := fun c q => by unfold dnc at *; omega
  have hd2 : ∀ c, dnc r (i + 1) c → c ≠ 24 * r + i → dnc r i c := fun c q q2 => by unfold dnc at *; omega
  generalize htau : tg (K 1 0) r i s = τ at *
  have bt : ∀ x, stpB (K 1 0) b r i s x = if x = τ then b x ||| b (24 * r + i) else b x := fun x => by unfold stpB; rw [htau]
  refine ⟨⟨fun c hc => ⟨?_, ?_⟩, fun c hc hw => ?_, fun c hc hc24 hdn hb => ?_, fun c c' hc hc' hne' hn hn' => ?_, fun c hc hb => ?_, fun c hc p hp => ?_⟩, hdj, hor⟩
  · rw [bt]
    by_cases e : c = τ
    · rw [if_pos e, e]; exact hor
    · rw [if_neg e]; exact (h1 c hc).1
  · unfold stpW
    by_cases e : c = 24 * r + i
    · rw [if_pos e]; omega
    · rw [if_neg e]; exact (h1 c hc).2
  · unfold stpW at hw ⊢
    rw [bt]
    by_cases e : c = 24 * r + i
    · rw [if_pos e] at hw ⊢
      rw [if_neg (by omega), e]
      exact ⟨by omega, by unfold dnc; omega, h0, fun q => hs1 (by omega)⟩
    · rw [if_neg e] at hw ⊢
      obtain ⟨q1, q2, q3, q4⟩ := h2 c hc hw
      have : c ≠ τ := fun z => by rw [z] at hw; exact hw htw
      rw [if_neg this]
      exact ⟨q1, hd c q2, q3, q4⟩
  · unfold stpW
    rw [bt] at hb
    by_cases e : c = 24 * r + i
    · rw [if_pos e]; omega
    · rw [if_neg e]
      have : c ≠ τ := fun z => by rw [z] at hdn; exact htn1 hdn
      rw [if_neg this] at hb
      exact h3 c hc hc24 (hd2 c hdn e) hb
  · rw [bt, bt]
    have nn : ∀ x, ¬ dnc r (i + 1) x → x ≠ 24 * r + i ∧ ¬ dnc r i x := fun x q => ⟨fun z => q (by rw [z]; unfold dnc; omega), fun z => q (hd x z)⟩
    obtain ⟨n1, n2⟩ := nn c hn
    obtain ⟨n3, n4⟩ := nn c' hn'
    by_cases e : c = τ
    · rw [if_pos e, if_neg (by omega)]
      rw [dj_iff]
      intro p hp
      rw [Nat.testBit_or, Bool.or_eq_true] at hp
      rcases hp with q | q
      · exact dj_iff.mp (h4 c c' hc hc' hne' n2 n4) p q
      · exact dj_iff.mp (h4 _ c' hcc hc' (fun z => n3 z.symm) hcn n4) p q
    · rw [if_neg e]
      by_cases e2 : c' = τ
      · rw [if_pos e2]
        rw [dj_iff]
        intro p hp
        rw [Nat.testBit_or, dj_iff.mp (h4 c c' hc hc' hne' n2 n4) p hp, dj_iff.mp (h4 c _ hc hcc n1 n2 hcn) p hp]; rfl
      · rw [if_neg e2]; exact h4 c c' hc hc' hne' n2 n4
  · rw [bt] at hb
    by_cases e : c = τ
    · rcases t2 with ⟨_, q⟩ | ⟨q1, q2, q3, q4, q5⟩
      · exact Or.inl (by omega)
      · exact Or.inr ⟨by omega, by omega, by omega, by rw [e]; exact hk⟩
    · rw [if_neg e] at hb; exact h5 c hc hb
  · rw [bt]
    have ex : (∃ c', c' < 240 ∧ stpW w r i s c' ≠ 3 ∧ tg (K 1 0) (c' / 24) (c' % 24) (stpW w r i s c') = c ∧ (stpB (K 1 0) b r i s c').testBit p = true) ↔ ((τ = c ∧ (b (24 * r + i)).testBit p = true) ∨ ∃ c', c' < 240 ∧ w c' ≠ 3 ∧ tg (K 1 0) (c' / 24) (c' % 24) (w c') = c ∧ (b c').testBit p = true) := by
      have hdm : (24 * r + i) / 24 = r ∧ (24 * r + i) % 24 = i := by omega
      constructor
      · rintro ⟨c', q1, q2, q3, q4⟩
        unfold stpW at q2 q3
        rw [bt] at q4
        by_cases e : c' = 24 * r + i
        · rw [if_pos e, e, hdm.1, hdm.2, htau] at q3
          rw [if_neg (by omega), e] at q4
          exact Or.inl ⟨q3, q4⟩
        · rw [if_neg e] at q2 q3
          have : c' ≠ τ := fun z => by rw [z] at q2; exact q2 htw
          rw [if_neg this] at q4
          exact Or.inr ⟨c', q1, q2, q3, q4⟩
      · rintro (⟨q1, q2⟩ | ⟨c', q1, q2, q3, q4⟩)
        · refine ⟨24 * r + i, hcc, ?_, ?_, ?_⟩
          · unfold stpW; rw [if_pos rfl]; omega
          · unfold stpW; rw [if_pos rfl, hdm.1, hdm.2, htau]; exact q1
          · rw [bt, if_neg (by omega)]; exact q2
        · have e : c' ≠ 24 * r + i := fun z => by rw [z] at q2; exact q2 hcw
          have e2 : c' ≠ τ := fun z => by rw [z] at q2; exact q2 htw
          refine ⟨c', q1, ?_, ?_, ?_⟩
          · unfold stpW; rw [if_neg e]; exact q2
          · unfold stpW; rw [if_neg e]; exact q3
          · rw [bt, if_neg e2]; exact q4
    rw [ex]
    by_cases e : c = τ
    · rw [if_pos e, Nat.testBit_or, Bool.or_eq_true, h6 c hc p hp]
      constructor
      · rintro ((q | q) | q)
        · exact Or.inl q
        · exact Or.inr (Or.inr q)
        · exact Or.inr (Or.inl ⟨e.symm, q⟩)
      · rintro (q | (q | q))
        · exact Or.inl (Or.inl q)
        · exact Or.inr q.2
        · exact Or.inl (Or.inr q)
    · rw [if_neg e, h6 c hc p hp]
      constructor
      · rintro (q | q)
        · exact Or.inl q
        · exact Or.inr (Or.inr q)
      · rintro (q | (q | q))
        · exact Or.inl q
        · exact absurd q.1.symm e
        · exact Or.inr q
theorem stI_ring {K : Nat → Nat → Nat} {r : Nat} {b w : Nat → Nat} (hr1 : 1 ≤ r) (h : stI K r (K 1 0) b w) : stI K (r - 1) 0 b w := by
  obtain ⟨h1, h2, h3, h4, h5, h6⟩ := h
  have hd : ∀ c, dnc r (K 1 0) c → dnc (r - 1) 0 c := fun c q => by unfold dnc at *; omega
  refine ⟨h1, fun c hc hw => ?_, fun c hc hc24 hdn hb => ?_, fun c c' hc hc' hne hn hn' => h4 c c' hc hc' hne (fun q => hn (hd c q)) (fun q => hn' (hd c' q)), h5, h6⟩
  · obtain ⟨q1, q2, q3, q4⟩ := h2 c hc hw
    exact ⟨q1, hd c q2, q3, q4⟩
  · refine h3 c hc hc24 ?_ hb
    have := h5 c hc hb
    unfold dnc at *; omega
theorem stI_wf {K : Nat → Nat → Nat} (hK : wfK K) {b w : Nat → Nat} (h : stI K 0 0 b w) : wfT K b w := by
  obtain ⟨h1, h2, h3, h4, h5, h6⟩ := h
  have h9 := hK.1.2.1
  have h24 := hK.1.2.2.2.1
  refine ⟨h1, fun c hc => ?_, fun c hc24 hc => ⟨⟨fun hb => h3 c hc hc24 (by unfold dnc; omega) hb, fun hw => (h2 c hc hw).2.2.1⟩, fun hw => ?_, fun q => ?_⟩, fun r t hr1 hr ht p hp => ?_⟩
  · rcases Nat.lt_or_ge (w c) 3 with q | q
    · have := (h2 c (by omega) (by omega)).1; omega
    · have := (h1 c (by omega)).2; omega
  · have := h5 c hc (h2 c hc hw).2.2.1; omega
  · rcases Nat.lt_or_ge (w c) 3 with z | z
    · exact Or.inl ((h2 c hc (by omega)).2.2.2 q)
    · have := (h1 c hc).2; exact Or.inr (by omega)
  · rw [h6 (24 * r + t) (by omega) p hp, show (24 * r + t) / 24 = r by omega, show (24 * r + t) % 24 = t by omega]
    constructor
    · rintro (q | ⟨c', q1, q2, q3, q4⟩)
      · exact Or.inl q
      · obtain ⟨z1, z2, z3, z4⟩ := h2 c' q1 q2
        have zz := h5 c' q1 z3
        obtain ⟨t1, t2⟩ := tg_lt hK (r := c' / 24) (i := c' % 24) (s := w c') (by omega) (by omega)
        rw [q3] at t2
        have e : c' = 24 * (r + 1) + c' % 24 := by omega
        refine Or.inr ⟨c' % 24, by omega, by omega, by rw [← e]; exact q2, by rw [← e]; omega, by rw [← e]; exact q4⟩
    · rintro (q | ⟨t', q1, q2, q3, q4, q5⟩)
      · exact Or.inl q
      · refine Or.inr ⟨24 * (r + 1) + t', by omega, q3, ?_, q5⟩
        rw [show (24 * (r + 1) + t') / 24 = r + 1 by omega, show (24 * (r + 1) + t') % 24 = t' by omega]
        unfold tg
        rw [if_neg (by omega), q4]; rfl
end GRW
