/-! detours: what straightening one does to a tree -/
section DET
abbrev det (K : Nat → Nat → Nat) (b w : Nat → Nat) (r t : Nat) : Prop := (w (24 * r + t) = 1 ∨ w (24 * r + t) = 2) ∧ plc K (r - 1) (nb (K 1 0) t (w (24 * r + t))) = K 5 0 ∧ cmc K w (r - 1) (nb (K 1 0) t (w (24 * r + t))) = 1 ∧ w (24 * (r - 1) + nb (K 1 0) t (w (24 * r + t))) = 3 - w (24 * r + t) ∧ K 9 (24 * (r - 1) + t) = 0 ∧ b (24 * (r - 1) + t) = 0
def dB (b : Nat → Nat) (r a t : Nat) : Nat → Nat := fun x => if x = 24 * (r - 1) + t then b (24 * r + t) else if x = 24 * (r - 1) + a then 0 else b x
def dW (w : Nat → Nat) (r a t : Nat) : Nat → Nat := fun x => if x = 24 * r + t then 0 else if x = 24 * (r - 1) + t then 0 else if x = 24 * (r - 1) + a then 3 else w x
theorem su_ge {f : Nat → Nat} {i : Nat} : ∀ n, i < n → f i ≤ su f n := by
  intro n
  induction n with
  | zero => intro h; omega
  | succ n ih =>
    intro h
    rw [su]
    by_cases e : i = n
    · subst e; omega
    · have := ih (by omega); omega
theorem su_two {f : Nat → Nat} {i j : Nat} (hij : i < j) : ∀ n, j < n → f i + f j ≤ su f n := by
  intro n
  induction n with
  | zero => intro h; omega
  | succ n ih =>
    intro h
    rw [su]
    by_cases e : j = n
    · subst e; have := su_ge (f := f) j hij; omega
    · have := ih (by omega); omega
theorem su_one {f : Nat → Nat} {n i j : Nat} (h : su f n = 1) (hi : i < n) (hf : f i = 1) (hj : j < n) (hne : j ≠ i) : f j = 0 := by
  rcases Nat.lt_or_ge i j with q | q
  · have := su_two (f := f) q n hj; omega
  · have := su_two (f := f) (show j < i by omega) n hi; omega
theorem det_fact {K : Nat → Nat → Nat} (hK : wfK K) {b w : Nat → Nat} (hW : wfT K b w) {r t : Nat} (hr3 : 3 ≤ r) (hr : r ≤ K 0 0) (ht : t < K 1 0) (hd : det K b w r t) :
    nb (K 1 0) t (w (24 * r + t)) < K 1 0 ∧ nb (K 1 0) t (w (24 * r + t)) ≠ t ∧ nb (K 1 0) (nb (K 1 0) t (w (24 * r + t))) (3 - w (24 * r + t)) = t ∧
    (∀ t', t' < K 1 0 → t' ≠ t → w (24 * r + t') ≠ 3 → nb (K 1 0) t' (w (24 * r + t')) ≠ nb (K 1 0) t (w (24 * r + t))) ∧
    (∀ p, p < K 5 0 → ((b (24 * (r - 1) + nb (K 1 0) t (w (24 * r + t)))).testBit p = true ↔ (b (24 * r + t)).testBit p = true)) ∧
    (∀ t', t' < K 1 0 → w (24 * r + t') ≠ 3 → nb (K 1 0) t' (w (24 * r + t')) ≠ t) ∧
    (∀ p, p < K 5 0 → ¬ (K 6 p = r - 1 ∧ K 7 p = t)) ∧ (∀ p, p < K 5 0 → ¬ (K 6 p = r - 1 ∧ K 7 p = nb (K 1 0) t (w (24 * r + t)))) := by
  obtain ⟨d1, d2, d3, d4, d5, d6⟩ := hd
  have h9 := hK.1.2.1
  have h24 := hK.1.2.2.2.1
  have h6 := hK.1.2.2.1
  have ha := nb_lt (w (24 * r + t)) ht
  have hne : nb (K 1 0) t (w (24 * r + t)) ≠ t := by
    rcases d1 with q | q
    · rw [q, nb_1]; split <;> omega
    · rw [q, nb_2]; split <;> omega
  have hback : nb (K 1 0) (nb (K 1 0) t (w (24 * r + t))) (3 - w (24 * r + t)) = t := by
    rcases d1 with q | q
    · rw [q] at ha ⊢; exact (nb_inv2 ht ha).mpr rfl
    · rw [q] at ha ⊢; exact (nb_inv1 ht ha).mpr rfl
  generalize hadef : nb (K 1 0) t (w (24 * r + t)) = a at *
  have hcw : w (24 * r + t) ≠ 3 := by omega
  have huniq : ∀ t', t' < K 1 0 → t' ≠ t → w (24 * r + t') ≠ 3 → nb (K 1 0) t' (w (24 * r + t')) ≠ a := by
    intro t' ht' hnt hw' hnb
    unfold cmc at d3
    rw [if_neg (by omega), if_pos (show r - 1 < K 0 0 by omega), show r - 1 + 1 = r by omega, ← su_in (x := fun i => w (24 * r + i)) ha (fun i hi => (hW.1 _ (by omega)).2), Nat.zero_add] at d3
    have h1 := su_one d3 ht (if_pos ⟨hcw, hadef⟩) ht' hnt
    rw [if_pos ⟨hw', hnb⟩] at h1
    omega
  have hpa : ∀ p, p < K 5 0 → ¬ (K 6 p = r - 1 ∧ K 7 p = a) := fun p hp q => by have := (plc_iff hK hp).mpr q; omega
  have hin := hW.2.2.2 (r - 1) a (by omega) (by omega) ha
  have hinb := hW.2.2.2 (r - 1) t (by omega) (by omega) ht
  rw [show r - 1 + 1 = r by omega] at hin hinb
  refine ⟨ha, hne, hback, huniq, fun p hp => ?_, fun t' ht' hw' hnb => ?_, fun p hp q => ?_, hpa⟩
  · rw [hin p hp]
    constructor
    · rintro (q | ⟨t', q1, _, q3, q4, q5⟩)
      · exact absurd q (hpa p hp)
      · by_cases e : t' = t
        · rw [e] at q5; exact q5
        · exact absurd q4 (huniq t' q1 e q3)
    · intro q; exact Or.inr ⟨t, ht, by omega, hcw, hadef, q⟩
  · have hb' := (hW.2.2.1 (24 * r + t') (by omega) (by omega)).1.mpr hw'
    obtain ⟨p, hp, hbit⟩ := bit_ex (hW.1 (24 * r + t') (by omega)).1 hb'
    have := (hinb p hp).mpr (Or.inr ⟨t', ht', by omega, hw', hnb, hbit⟩)
    rw [d6, Nat.zero_testBit] at this; cases this
  · have := (hinb p hp).mpr (Or.inl q)
    rw [d6, Nat.zero_testBit] at this; cases this
theorem det_wf {K : Nat → Nat → Nat} (hK : wfK K) {b w : Nat → Nat} (hW : wfT K b w) {r t : Nat} (hr3 : 3 ≤ r) (hr : r ≤ K 0 0) (ht : t < K 1 0) (hd : det K b w r t) : wfT K (dB b r (nb (K 1 0) t (w (24 * r + t))) t) (dW w r (nb (K 1 0) t (w (24 * r + t))) t) := by
  obtain ⟨f1, f2, f3, f4, f5, f6, f7, f8⟩ := det_fact hK hW hr3 hr ht hd
  obtain ⟨d1, d2, d3, d4, d5, d6⟩ := hd
  have h9 := hK.1.2.1
  have h24 := hK.1.2.2.2.1
  generalize hadef : nb (K 1 0) t (w (24 * r + t)) = a at *
  have hcw : w (24 * r + t) ≠ 3 := by omega
  have hcb : b (24 * r + t) ≠ 0 := (hW.2.2.1 _ (by omega) (by omega)).1.mpr hcw
  have hbe : w (24 * (r - 1) + t) = 3 := by
    rcases Nat.lt_or_ge (w (24 * (r - 1) + t)) 3 with q | q
    · exact absurd d6 ((hW.2.2.1 _ (by omega) (by omega)).1.mpr (by omega))
    · have := (hW.1 (24 * (r - 1) + t) (by omega)).2; omega
  -- values
  have bβ : dB b r a t (24 * (r - 1) + t) = b (24 * r + t) := if_pos rfl
  have bα : dB b r a t (24 * (r - 1) + a) = 0 := by unfold dB; rw [if_neg (by omega), if_pos rfl]
  have bo : ∀ x, x ≠ 24 * (r - 1) + t → x ≠ 24 * (r - 1) + a → dB b r a t x = b x := fun x q1 q2 => by unfold dB; rw [if_neg q1, if_neg q2]
  have wc : dW w r a t (24 * r + t) = 0 := if_pos rfl
  have wβ : dW w r a t (24 * (r - 1) + t) = 0 := by unfold dW; rw [if_neg (by omega), if_pos rfl]
  have wα : dW w r a t (24 * (r - 1) + a) = 3 := by unfold dW; rw [if_neg (by omega), if_neg (by omega), if_pos rfl]
  have wo : ∀ x, x ≠ 24 * r + t → x ≠ 24 * (r - 1) + t → x ≠ 24 * (r - 1) + a → dW w r a t x = w x := fun x q1 q2 q3 => by unfold dW; rw [if_neg q1, if_neg q2, if_neg q3]
  generalize dB b r a t = b' at *
  generalize dW w r a t = w' at *
  refine ⟨fun c hc => ?_, fun c hc => ?_, fun c hc24 hc => ?_, fun ρ τ hρ1 hρ hτ p hp => ?_⟩
  · refine ⟨?_, ?_⟩
    · by_cases e1 : c = 24 * (r - 1) + t
      · rw [e1, bβ]; exact (hW.1 _ (by omega)).1
      · by_cases e2 : c = 24 * (r - 1) + a
        · rw [e2, bα]; exact Nat.pos_of_ne_zero (by simp)
        · rw [bo c e1 e2]; exact (hW.1 c hc).1
    · by_cases e1 : c = 24 * r + t
      · rw [e1, wc]; decide
      · by_cases e2 : c = 24 * (r - 1) + t
        · rw [e2, wβ]; decide
        · by_cases e3 : c = 24 * (r - 1) + a
          · rw [e3, wα]; decide
          · rw [wo c e1 e2 e3]; exact (hW.1 c hc).2
  · rw [wo c (by omega) (by omega) (by omega)]; exact hW.2.1 c hc
  · by_cases e1 : c = 24 * r + t
    · have := (hW.2.2.1 _ hc24 hc)
      rw [e1] at this ⊢
      rw [wc, bo _ (by omega) (by omega)]
      exact ⟨⟨fun _ => by decide, fun _ => hcb⟩, fun _ => this.2.1 hcw, fun _ => Or.inl rfl⟩
    · by_cases e2 : c = 24 * (r - 1) + t
      · rw [e2, wβ, bβ]
        exact ⟨⟨fun _ => by decide, fun _ => hcb⟩, fun _ => ⟨by omega, by omega, d5⟩, fun _ => Or.inl rfl⟩
      · by_cases e3 : c = 24 * (r - 1) + a
        · rw [e3, wα, bα]
          exact ⟨⟨fun q => absurd rfl q, fun q => absurd rfl q⟩, fun q => absurd rfl q, fun _ => Or.inr rfl⟩
        · rw [wo c e1 e2 e3, bo c e2 e3]; exact hW.2.2.1 c hc24 hc
  · -- what comes in
    have hold := hW.2.2.2 ρ τ hρ1 hρ hτ
    by_cases e1 : ρ = r - 1
    · -- the ring between: steps from ring r
      subst e1
      rw [show r - 1 + 1 = r by omega] at hold ⊢
      have hw' : ∀ t', t' < K 1 0 → t' ≠ t → w' (24 * r + t') = w (24 * r + t') := fun t' q1 q2 => wo _ (by omega) (by omega) (by omega)
      have hb' : ∀ t', t' < K 1 0 → b' (24 * r + t') = b (24 * r + t') := fun t' q1 => bo _ (by omega) (by omega)
      by_cases e2 : τ = t
      · rw [e2, bβ]
        constructor
        · intro q; exact Or.inr ⟨t, ht, by omega, by rw [wc]; decide, by rw [wc]; rfl, by rw [hb' t ht]; exact q⟩
        · rintro (q | ⟨t', q1, _, q3, q4, q5⟩)
          · exact absurd q (f7 p hp)
          · by_cases e3 : t' = t
            · rw [e3, hb' t ht] at q5; exact q5
            · rw [hw' t' q1 e3] at q3 q4
              exact absurd q4 (f6 t' q1 q3)
      · by_cases e3 : τ = a
        · rw [e3, bα, Nat.zero_testBit]
          constructor
          · intro q; cases q
          · rintro (q | ⟨t', q1, _, q3, q4, q5⟩)
            · exact absurd q (f8 p hp)
            · by_cases e4 : t' = t
              · rw [e4, wc] at q4
                exact absurd q4 (fun z => f2 z.symm)
              · rw [hw' t' q1 e4] at q3 q4
                exact absurd q4 (f4 t' q1 e4 q3)
        · rw [bo _ (by omega) (by omega), hold p hp]
          constructor
          · rintro (q | ⟨t', q1, q2, q3, q4, q5⟩)
            · exact Or.inl q
            · have e4 : t' ≠ t := fun z => by rw [z, hadef] at q4; exact e3 q4.symm
              exact Or.inr ⟨t', q1, q2, by rw [hw' t' q1 e4]; exact q3, by rw [hw' t' q1 e4]; exact q4, by rw [hb' t' q1]; exact q5⟩
          · rintro (q | ⟨t', q1, q2, q3, q4, q5⟩)
            · exact Or.inl q
            · have e4 : t' ≠ t := fun z => by rw [z, wc] at q4; exact e2 q4.symm
              rw [hw' t' q1 e4] at q3 q4
              rw [hb' t' q1] at q5
              exact Or.inr ⟨t', q1, q2, q3, q4, q5⟩
    · have hlhs : b' (24 * ρ + τ) = b (24 * ρ + τ) := bo _ (by omega) (by omega)
      rw [hlhs, hold p hp]
      by_cases e2 : ρ = r - 2
      · -- the ring inwards: steps from the ring between
        have hr1 : ρ + 1 = r - 1 := by omega
        rw [hr1]
        have hw' : ∀ t', t' < K 1 0 → t' ≠ t → t' ≠ a → w' (24 * (r - 1) + t') = w (24 * (r - 1) + t') := fun t' q1 q2 q3 => wo _ (by omega) (by omega) (by omega)
        have hb' : ∀ t', t' < K 1 0 → t' ≠ t → t' ≠ a → b' (24 * (r - 1) + t') = b (24 * (r - 1) + t') := fun t' q1 q2 q3 => bo _ (by omega) (by omega)
        constructor
        · rintro (q | ⟨t', q1, q2, q3, q4, q5⟩)
          · exact Or.inl q
          · have e3 : t' ≠ t := fun z => by rw [z, hbe] at q3; exact q3 rfl
            by_cases e4 : t' = a
            · rw [e4, d4, f3] at q4
              rw [e4, f5 p hp] at q5
              exact Or.inr ⟨t, ht, q2, by rw [wβ]; decide, by rw [wβ]; exact q4, by rw [bβ]; exact q5⟩
            · exact Or.inr ⟨t', q1, q2, by rw [hw' t' q1 e3 e4]; exact q3, by rw [hw' t' q1 e3 e4]; exact q4, by rw [hb' t' q1 e3 e4]; exact q5⟩
        · rintro (q | ⟨t', q1, q2, q3, q4, q5⟩)
          · exact Or.inl q
          · by_cases e3 : t' = t
            · rw [e3, wβ] at q4
              rw [e3, bβ] at q5
              exact Or.inr ⟨a, f1, q2, by rw [d4]; omega, by rw [d4, f3]; exact q4, (f5 p hp).mpr q5⟩
            · by_cases e4 : t' = a
              · rw [e4, wα] at q3; exact absurd rfl q3
              · rw [hw' t' q1 e3 e4] at q3 q4
                rw [hb' t' q1 e3 e4] at q5
                exact Or.inr ⟨t', q1, q2, q3, q4, q5⟩
      · -- any other ring
        have hw' : ∀ t', t' < K 1 0 → w' (24 * (ρ + 1) + t') = w (24 * (ρ + 1) + t') := fun t' q1 => wo _ (by omega) (by omega) (by omega)
        have hb' : ∀ t', t' < K 1 0 → b' (24 * (ρ + 1) + t') = b (24 * (ρ + 1) + t') := fun t' q1 => bo _ (by omega) (by omega)
        constructor
        · rintro (q | ⟨t', q1, q2, q3, q4, q5⟩)
          · exact Or.inl q
          · exact Or.inr ⟨t', q1, q2, by rw [hw' t' q1]; exact q3, by rw [hw' t' q1]; exact q4, by rw [hb' t' q1]; exact q5⟩
        · rintro (q | ⟨t', q1, q2, q3, q4, q5⟩)
          · exact Or.inl q
          · rw [hw' t' q1] at q3 q4
            rw [hb' t' q1] at q5
            exact Or.inr ⟨t', q1, q2, q3, q4, q5⟩
/-- how many bend -/
def nbd (w : Nat → Nat) : Nat := su (fun c => if w c = 1 ∨ w c = 2 then 1 else 0) 240
theorem su_lt {f g : Nat → Nat} {i : Nat} : ∀ n, (∀ j, j < n → f j ≤ g j) → i < n → f i < g i → su f n < su g n := by
  intro n
  induction n with
  | zero => intro _ h; omega
  | succ n ih =>
    intro h hi hlt
    rw [su, su]
    have hle : ∀ m, m ≤ n → su f m ≤ su g m := by
      intro m
      induction m with
      | zero => intro _; exact Nat.le_refl _
      | succ m ihm => intro hm; have := ihm (by omega); have := h m (by omega); rw [su, su]; omega
    by_cases e : i = n
    · subst e; have := hle i (Nat.le_refl _); omega
    · have := ih (fun j hj => h j (by omega)) (by omega) hlt; have := h n (by omega); omega
theorem det_nbd {K : Nat → Nat → Nat} (hK : wfK K) {b w : Nat → Nat} {r t : Nat} (hr3 : 3 ≤ r) (hr : r ≤ K 0 0) (ht : t < K 1 0) (hd : det K b w r t) : nbd (dW w r (nb (K 1 0) t (w (24 * r + t))) t) < nbd w := by
  have h9 := hK.1.2.1
  have h24 := hK.1.2.2.2.1
  refine su_lt (i := 24 * r + t) 240 (fun j hj => ?_) (by omega) ?_
  · unfold dW
    by_cases e1 : j = 24 * r + t
    · rw [if_pos e1, if_neg (by omega)]; exact Nat.zero_le _
    · by_cases e2 : j = 24 * (r - 1) + t
      · rw [if_neg e1, if_pos e2, if_neg (by omega)]; exact Nat.zero_le _
      · by_cases e3 : j = 24 * (r - 1) + nb (K 1 0) t (w (24 * r + t))
        · rw [if_neg e1, if_neg e2, if_pos e3, if_neg (by omega)]; exact Nat.zero_le _
        · rw [if_neg e1, if_neg e2, if_neg e3]; exact Nat.le_refl _
  · unfold dW
    rw [if_pos rfl, if_neg (by omega), if_pos hd.1]; decide
end DET
