/-! PART 2. The functions, by numbers. -/
section PU
theorem zfor {α β : Type} {body : (α → Option β) → α → Option β} (st : Nat → α) (n : Nat) (ex : β) (hs : ∀ i, i < n → ∀ rec, body rec (st i) = rec (st (i + 1))) (he : ∀ rec, body rec (st n) = some ex) : ∀ (fuel i : Nat), i ≤ n → n - i < fuel → zloop body fuel (st i) = some ex := by
  intro fuel
  induction fuel with
  | zero => intro i _ h; omega
  | succ f ih =>
    intro i hi hf
    show body (zloop body f) (st i) = some ex
    by_cases h : i = n
    · subst h; exact he _
    · rw [hs i (by omega)]
      exact ih (i + 1) (by omega) (by omega)
/-- the same with a reason to leave that depends on the place -/
theorem zfor0 {α β : Type} {body : (α → Option β) → α → Option β} (st : Nat → α) (n : Nat) (ex : β) (hn : n < 1000) (hs : ∀ i, i < n → ∀ rec, body rec (st i) = rec (st (i + 1))) (he : ∀ rec, body rec (st n) = some ex) : zloop body zfuel (st 0) = some ex := zfor st n ex hs he zfuel 0 (Nat.zero_le _) (by show n - 0 < 1000; omega)
theorem zix_nI {α : Type} {i n : Nat} {f : Nat → Option α} (h : i < n) (hn : n < 2 ^ 31) : zix (nI i) n f = f i := by
  unfold zix
  rw [nI_toInt (by omega), nI_clamp (by omega), if_pos (by omega)]
theorem zbo_0 {α : Type} {x : Option α} : zbo 0 x = x := if_pos (Or.inl rfl)
theorem zbo_1 {α : Type} {x : Option α} : zbo 1 x = x := if_pos (Or.inr rfl)
theorem nI_nm1 {a : Nat} (h : a < 2 ^ 31) : ¬ nI a = -1 := by
  intro e
  have := congrArg Int32.toInt e
  rw [nI_toInt h] at this
  have h1 : (-1 : Int32).toInt = -1 := by decide
  omega
theorem zst_same (S : Nat → Nat → Int32) (k j : Nat) (v : Int32) : zst S k j v k j = v := by simp [zst, upd]
theorem zst_row (S : Nat → Nat → Int32) (k j : Nat) (v : Int32) : zst S k j v k = upd (S k) j v := by simp [zst]
theorem zst_ne (S : Nat → Nat → Int32) {k k' : Nat} (h : k' ≠ k) (j : Nat) (v : Int32) : zst S k j v k' = S k' := by simp [zst, h]
theorem upd_same (f : Nat → Int32) (j : Nat) (v : Int32) : upd f j v j = v := by simp [upd]
theorem upd_ne (f : Nat → Int32) {j i : Nat} (h : i ≠ j) (v : Int32) : upd f j v i = f i := by simp [upd, h]
/-! statics -/
theorem e_isWithin (a b c : Int32) : f_X6_isWithin a b c = some (if b ≤ a ∧ a ≤ c then 1 else 0) := by
  unfold f_X6_isWithin
  by_cases h1 : a < b
  · have : ¬ b ≤ a := by rw [Int32.lt_iff_toInt_lt] at h1; rw [Int32.le_iff_toInt_le]; omega
    simp [h1, this]
  · have h1' : b ≤ a := by rw [Int32.lt_iff_toInt_lt] at h1; rw [Int32.le_iff_toInt_le]; omega
    by_cases h2 : c < a
    · have : ¬ a ≤ c := by rw [Int32.lt_iff_toInt_lt] at h2; rw [Int32.le_iff_toInt_le]; omega
      simp [h1, h2, this]
    · have h2' : a ≤ c := by rw [Int32.lt_iff_toInt_lt] at h2; rw [Int32.le_iff_toInt_le]; omega
      simp [h1, h2, h1', h2']
theorem e_cellOf (r t : Nat) : f_X6_cellOf (nI r) (nI t) = some (nI (24 * r + t)) := by
  unfold f_X6_cellOf
  rw [show (24 : Int32) = nI 24 from rfl, pk_mul, nI_add, Nat.mul_comm]
end PU
