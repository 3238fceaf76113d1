/-! a chart by numbers: K has the slots of the class's Chart; repC, repM: what an object of the class, of the reference says of it -/
section PCH
def repC (S : Nat → Nat → Int32) (K : Nat → Nat → Nat) : Prop := (∀ k, k < 6 → S k 0 = nI (K k 0)) ∧ (∀ k p, 6 ≤ k → k ≤ 8 → p < K 5 0 → S k p = nI (K k p)) ∧ ∀ c, c < 240 → S 9 c = nI (K 9 c)
def repM (M : Nat → Nat → Int32) (K : Nat → Nat → Nat) : Prop := (M 1 0 = nI (K 0 0) ∧ M 2 0 = nI (K 1 0) ∧ M 3 0 = nI (K 2 0) ∧ M 4 0 = nI (K 3 0) ∧ M 5 0 = nI (K 4 0) ∧ M 9 0 = nI (K 5 0)) ∧ (∀ k p, 6 ≤ k → k ≤ 8 → p < K 5 0 → M k p = nI (K k p)) ∧ ∀ c, c < 240 → M 10 c = nI (K 9 c)
def wfK (K : Nat → Nat → Nat) : Prop := (2 ≤ K 0 0 ∧ K 0 0 ≤ 9 ∧ 6 ≤ K 1 0 ∧ K 1 0 ≤ 24 ∧ 1 ≤ K 2 0 ∧ K 2 0 ≤ 99 ∧ K 3 0 ≤ 40 ∧ K 4 0 ≤ 6 ∧ K 5 0 ≤ 7) ∧
  (∀ p, p < K 5 0 → 1 ≤ K 6 p ∧ K 6 p ≤ K 0 0 ∧ K 7 p < K 1 0 ∧ 1 ≤ K 8 p ∧ K 8 p ≤ 99 ∧ K 9 (24 * K 6 p + K 7 p) = 0) ∧
  (∀ p q, p < q → q < K 5 0 → K 7 p < K 7 q ∨ (K 7 p = K 7 q ∧ K 6 p < K 6 q)) ∧
  (∀ c, K 9 c ≤ 1) ∧ ∀ c, K 9 c = 1 → 24 ≤ c ∧ c / 24 ≤ K 0 0 ∧ c % 24 < K 1 0
/-- the first i from i0 on, of n, with P; else i0 + n -/
def fstp (P : Nat → Bool) : Nat → Nat → Nat
  | 0, i => i
  | n + 1, i => if P i = true then i else fstp P n (i + 1)
theorem fstp_spec (P : Nat → Bool) : ∀ (n i : Nat), i ≤ fstp P n i ∧ fstp P n i ≤ i + n ∧ (∀ j, i ≤ j → j < fstp P n i → P j = false) ∧ (fstp P n i < i + n → P (fstp P n i) = true) := by
  intro n
  induction n with
  | zero => intro i; exact ⟨Nat.le_refl _, Nat.le_refl _, fun j h1 h2 => absurd h2 (by show ¬ j < i; omega), fun h => absurd h (by show ¬ i < i + 0; omega)⟩
  | succ n ih =>
    intro i
    unfold fstp
    by_cases h : P i = true
    · rw [if_pos h]
      exact ⟨Nat.le_refl _, by omega, fun j h1 h2 => absurd h2 (by omega), fun _ => h⟩
    · rw [if_neg h]
      obtain ⟨h1, h2, h3, h4⟩ := ih (i + 1)
      refine ⟨by omega, by omega, fun j g1 g2 => ?_, fun g => h4 (by omega)⟩
      by_cases e : j = i
      · subst e; exact Bool.eq_false_iff.mpr h
      · exact h3 j (by omega) g2
/-- the place at a cell; the number of places, if there is none -/
def plc (K : Nat → Nat → Nat) (r t : Nat) : Nat := fstp (fun p => decide (K 6 p = r ∧ K 7 p = t)) (K 5 0) 0
theorem e_placeAt {S : Nat → Nat → Int32} {K : Nat → Nat → Nat} (hS : repC S K) (h7 : K 5 0 ≤ 7) (hb : ∀ p, p < K 5 0 → K 6 p < 2 ^ 31 ∧ K 7 p < 2 ^ 31) {r t : Nat} (hr : r < 2 ^ 31) (ht : t < 2 ^ 31) : f_X1_placeAt S (nI r) (nI t) = some (if plc K r t < K 5 0 then nI (plc K r t) else -1) := by
  obtain ⟨g1, g2, g3, g4⟩ := fstp_spec (fun p => decide (K 6 p = r ∧ K 7 p = t)) (K 5 0) 0
  have hk : plc K r t = fstp (fun p => decide (K 6 p = r ∧ K 7 p = t)) (K 5 0) 0 := rfl
  rw [← hk] at g1 g2 g3 g4
  generalize plc K r t = k at *
  have h5 : S 5 0 = nI (K 5 0) := hS.1 5 (by omega)
  have hl : f_X1_placeAt_L2 S (nI r) (nI t) zfuel 0 = some (if k < K 5 0 then (0, nI k) else (1, 0)) := by
    refine zfor0 (fun i => nI i) k _ (by omega) (fun i hi rec => ?_) (fun rec => ?_)
    · show f_X1_placeAt_L2b S (nI r) (nI t) rec (nI i) = rec (nI (i + 1))
      have hi5 : i < K 5 0 := by omega
      have hP := g3 i (Nat.zero_le i) hi
      simp only [decide_eq_false_iff_not] at hP
      unfold f_X1_placeAt_L2b f_X1_placeAt_J32
      rw [h5, if_neg (nI_ge hi5 (by omega)), zix_nI (by omega) (by decide), zix_nI (by omega) (by decide), nI_clamp (by omega), hS.2.1 6 i (by omega) (by omega) hi5, hS.2.1 7 i (by omega) (by omega) hi5, nI_1]
      by_cases e1 : K 6 i = r
      · rw [if_pos (by rw [e1]), if_neg (fun e => hP ⟨e1, (nI_eq (hb i hi5).2 ht).mp e⟩)]
      · rw [if_neg (fun e => e1 ((nI_eq (hb i hi5).1 hr).mp e))]
    · show f_X1_placeAt_L2b S (nI r) (nI t) rec (nI k) = _
      unfold f_X1_placeAt_L2b
      rw [h5]
      by_cases e : k < K 5 0
      · have hP := g4 (by omega)
        simp only [decide_eq_true_eq] at hP
        rw [if_neg (nI_ge e (by omega)), zix_nI (by omega) (by decide), zix_nI (by omega) (by decide), nI_clamp (by omega), hS.2.1 6 k (by omega) (by omega) e, hS.2.1 7 k (by omega) (by omega) e, hP.1, hP.2, if_pos rfl, if_pos rfl, if_pos e]
      · rw [if_pos (nI_le (by omega) (by omega)), if_neg e]
  unfold f_X1_placeAt
  rw [hl]
  by_cases e : k < K 5 0
  · rw [if_pos e, if_pos e]; rfl
  · rw [if_neg e, if_neg e]; rfl
theorem e_placeAtM {M : Nat → Nat → Int32} {K : Nat → Nat → Nat} (hS : repM M K) (h7 : K 5 0 ≤ 7) (hb : ∀ p, p < K 5 0 → K 6 p < 2 ^ 31 ∧ K 7 p < 2 ^ 31) {r t : Nat} (hr : r < 2 ^ 31) (ht : t < 2 ^ 31) : f_X7_placeAt M (nI r) (nI t) = some (if plc K r t < K 5 0 then nI (plc K r t) else -1) := by
  obtain ⟨g1, g2, g3, g4⟩ := fstp_spec (fun p => decide (K 6 p = r ∧ K 7 p = t)) (K 5 0) 0
  have hk : plc K r t = fstp (fun p => decide (K 6 p = r ∧ K 7 p = t)) (K 5 0) 0 := rfl
  rw [← hk] at g1 g2 g3 g4
  generalize plc K r t = k at *
  have h5 : M 9 0 = nI (K 5 0) := hS.1.2.2.2.2.2
  have hl : f_X7_placeAt_L2 M (nI r) (nI t) zfuel 0 = some (if k < K 5 0 then (0, nI k) else (1, 0)) := by
    refine zfor0 (fun i => nI i) k _ (by omega) (fun i hi rec => ?_) (fun rec => ?_)
    · show f_X7_placeAt_L2b M (nI r) (nI t) rec (nI i) = rec (nI (i + 1))
      have hi5 : i < K 5 0 := by omega
      have hP := g3 i (Nat.zero_le i) hi
      simp only [decide_eq_false_iff_not] at hP
      unfold f_X7_placeAt_L2b f_X7_placeAt_J32
      rw [h5, if_neg (nI_ge hi5 (by omega)), zix_nI (by omega) (by decide), zix_nI (by omega) (by decide), nI_clamp (by omega), hS.2.1 6 i (by omega) (by omega) hi5, hS.2.1 7 i (by omega) (by omega) hi5, nI_1]
      by_cases e1 : K 6 i = r
      · rw [if_pos (by rw [e1]), if_neg (fun e => hP ⟨e1, (nI_eq (hb i hi5).2 ht).mp e⟩)]
      · rw [if_neg (fun e => e1 ((nI_eq (hb i hi5).1 hr).mp e))]
    · show f_X7_placeAt_L2b M (nI r) (nI t) rec (nI k) = _
      unfold f_X7_placeAt_L2b
      rw [h5]
      by_cases e : k < K 5 0
      · have hP := g4 (by omega)
        simp only [decide_eq_true_eq] at hP
        rw [if_neg (nI_ge e (by omega)), zix_nI (by omega) (by decide), zix_nI (by omega) (by decide), nI_clamp (by omega), hS.2.1 6 k (by omega) (by omega) e, hS.2.1 7 k (by omega) (by omega) e, hP.1, hP.2, if_pos rfl, if_pos rfl, if_pos e]
      · rw [if_pos (nI_le (by omega) (by omega)), if_neg e]
  unfold f_X7_placeAt
  rw [hl]
  by_cases e : k < K 5 0
  · rw [if_pos e, if_pos e]; rfl
  · rw [if_neg e, if_neg e]; rfl
end PCH
