/-! sets of places as bits, and what they amount to -/
section PAM
theorem sh1 : ∀ p, p < 8 → (1 : Int32) <<< (nI p &&& 31) = nI (2 ^ p) := by decide +kernel
theorem bit0 : ∀ b, b < 128 → ∀ p, p < 7 → (nI b &&& nI (2 ^ p) = 0 ↔ b.testBit p = false) := by decide +kernel
/-- the amounts of the places of b ahead of i -/
def amtN (K : Nat → Nat → Nat) (b : Nat) : Nat → Nat
  | 0 => 0
  | i + 1 => amtN K b i + (if b.testBit i = true then K 8 i else 0)
def amtK (K : Nat → Nat → Nat) (b : Nat) : Nat := amtN K b (K 5 0)
theorem e_amountOf {S : Nat → Nat → Int32} {K : Nat → Nat → Nat} (hS : repC S K) (h7 : K 5 0 ≤ 7) {b : Nat} (hb : b < 128) : f_X1_amountOf S (nI b) = some (nI (amtK K b)) := by
  have h5 : S 5 0 = nI (K 5 0) := hS.1 5 (by omega)
  have hl : f_X1_amountOf_L4 S (nI b) zfuel (0, 0) = some (nI (amtK K b)) := by
    refine zfor0 (fun i => (nI (amtN K b i), nI i)) (K 5 0) _ (by omega) (fun i hi rec => ?_) (fun rec => ?_)
    · show f_X1_amountOf_L4b S (nI b) rec (nI (amtN K b i), nI i) = rec (nI (amtN K b (i + 1)), nI (i + 1))
      unfold f_X1_amountOf_L4b f_X1_amountOf_J29
      dsimp only
      rw [h5, if_neg (nI_ge hi (by omega)), sh1 i (by omega), zix_nI (by omega) (by decide), nI_clamp (by omega), hS.2.1 8 i (by omega) (by omega) hi, nI_1, nI_add]
      cases ht : b.testBit i
      · rw [if_pos ((bit0 b hb i (by omega)).mpr ht)]
        rw [show amtN K b (i + 1) = amtN K b i from by rw [amtN, ht]; rfl]
      · rw [if_neg (fun q => by rw [(bit0 b hb i (by omega)).mp q] at ht; cases ht)]
        unfold zlet
        rw [amtN, if_pos ht]
    · show f_X1_amountOf_L4b S (nI b) rec (nI (amtN K b (K 5 0)), nI (K 5 0)) = _
      unfold f_X1_amountOf_L4b
      dsimp only
      rw [h5, if_pos (nI_le (Nat.le_refl _) (by omega))]; rfl
  unfold f_X1_amountOf
  rw [hl]; rfl
theorem amtN_le {K : Nat → Nat → Nat} (hA : ∀ p, p < K 5 0 → K 8 p ≤ 99) {b : Nat} : ∀ i, i ≤ K 5 0 → amtN K b i ≤ 99 * i := by
  intro i
  induction i with
  | zero => intro _; exact Nat.le_refl 0
  | succ i ih =>
    intro hi
    have h1 := ih (by omega)
    have h2 := hA i (by omega)
    rw [amtN]
    split <;> omega
theorem amtN_or {K : Nat → Nat → Nat} {a b : Nat} (h : dj a b) : ∀ i, amtN K (a ||| b) i = amtN K a i + amtN K b i := by
  intro i
  induction i with
  | zero => rfl
  | succ i ih =>
    have h1 := dj_iff.mp h i
    rw [amtN, amtN, amtN, ih, Nat.testBit_or]
    cases h2 : a.testBit i <;> cases h3 : b.testBit i <;> simp_all <;> omega
theorem amtK_or {K : Nat → Nat → Nat} {a b : Nat} (h : dj a b) : amtK K (a ||| b) = amtK K a + amtK K b := amtN_or h _
theorem amtK_pos {K : Nat → Nat → Nat} (hA : ∀ p, p < K 5 0 → 1 ≤ K 8 p) {b : Nat} (hb : b < 2 ^ K 5 0) (h0 : b ≠ 0) : 1 ≤ amtK K b := by
  have key : ∀ i, i ≤ K 5 0 → (∃ p, p < i ∧ b.testBit p = true) → 1 ≤ amtN K b i := by
    intro i
    induction i with
    | zero => rintro _ ⟨p, hp, _⟩; omega
    | succ i ih =>
      rintro hi ⟨p, hp, ht⟩
      rw [amtN]
      by_cases e : p = i
      · subst e; rw [if_pos ht]; have := hA p (by omega); omega
      · have := ih (by omega) ⟨p, by omega, ht⟩; omega
  refine key _ (Nat.le_refl _) ?_
  obtain ⟨i, hi⟩ := Nat.exists_testBit_of_ne_zero h0
  refine ⟨i, ?_, hi⟩
  rcases Nat.lt_or_ge i (K 5 0) with h | h
  · exact h
  · have := Nat.testBit_lt_two_pow (Nat.lt_of_lt_of_le hb (Nat.pow_le_pow_right (by decide) h))
    rw [this] at hi; cases hi
end PAM
