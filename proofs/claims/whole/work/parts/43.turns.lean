/-! turns, targets, lengths -/
section PTN
theorem nq0 {a : Nat} (h : a < 2 ^ 31) : nI a = 0 ↔ a = 0 := nI_eq (b := 0) h (by decide)
theorem nq1 {a : Nat} (h : a < 2 ^ 31) : nI a = 1 ↔ a = 1 := nI_eq (b := 1) h (by decide)
theorem nq2 {a : Nat} (h : a < 2 ^ 31) : nI a = 2 ↔ a = 2 := nI_eq (b := 2) h (by decide)
def nb (N t s : Nat) : Nat := if s = 1 then (if t = 0 then N - 1 else t - 1) else if s = 2 then (if t = N - 1 then 0 else t + 1) else t
theorem nb_lt {N t : Nat} (s : Nat) (h : t < N) : nb N t s < N := by
  unfold nb
  by_cases h1 : s = 1
  · rw [if_pos h1]; by_cases h2 : t = 0
    · rw [if_pos h2]; omega
    · rw [if_neg h2]; omega
  · rw [if_neg h1]; by_cases h2 : s = 2
    · rw [if_pos h2]; by_cases h3 : t = N - 1
      · rw [if_pos h3]; omega
      · rw [if_neg h3]; omega
    · rw [if_neg h2]; exact h
/-- the cell inwards -/
def tg (N r t s : Nat) : Nat := if r ≤ 1 then 0 else 24 * (r - 1) + nb N t s
theorem e_turnBeside {S : Nat → Nat → Int32} {K : Nat → Nat → Nat} (hS : repC S K) (hN : 1 ≤ K 1 0) (hN2 : K 1 0 ≤ 24) {t s : Nat} (ht : t < K 1 0) (hs : s < 3) : f_X1_turnBeside S (nI t) (nI s) = some (nI (nb (K 1 0) t s)) := by
  have h1 : S 1 0 = nI (K 1 0) := hS.1 1 (by omega)
  unfold f_X1_turnBeside nb
  rw [h1, show (1 : Int32) = nI 1 from rfl, show (2 : Int32) = nI 2 from rfl, show (0 : Int32) = nI 0 from rfl, pk_sub hN]
  by_cases e1 : s = 1
  · subst e1
    rw [if_pos rfl, if_pos rfl]
    by_cases e2 : t = 0
    · subst e2; rw [if_pos rfl, if_pos rfl]
    · rw [if_neg (fun e => e2 ((nI_eq (by omega) (by omega)).mp e)), if_neg e2, pk_sub (by omega)]
  · rw [if_neg (fun e => e1 ((nI_eq (by omega) (by omega)).mp e)), if_neg e1]
    by_cases e2 : s = 2
    · subst e2
      rw [if_pos rfl, if_pos rfl]
      by_cases e3 : t = K 1 0 - 1
      · rw [if_pos (by rw [e3]), if_pos e3]
      · rw [if_neg (fun e => e3 ((nI_eq (by omega) (by omega)).mp e)), if_neg e3, nI_add]
    · rw [if_neg (fun e => e2 ((nI_eq (by omega) (by omega)).mp e)), if_neg e2]
theorem e_cellInwards {S : Nat → Nat → Int32} {K : Nat → Nat → Nat} (hS : repC S K) (hN : 1 ≤ K 1 0) (hN2 : K 1 0 ≤ 24) {r t s : Nat} (hr : r < 2 ^ 31) (ht : t < K 1 0) (hs : s < 3) : f_X1_cellInwards S (nI r) (nI t) (nI s) = some (nI (tg (K 1 0) r t s)) := by
  unfold f_X1_cellInwards tg
  rw [show (1 : Int32) = nI 1 from rfl]
  by_cases e : r ≤ 1
  · rw [if_neg (nI_nlt e (by omega)), if_pos e]; rfl
  · rw [if_pos (nI_lt (by omega) (by omega)), if_neg e, e_turnBeside hS hN hN2 ht hs, pk_sub (by omega)]
    show (f_X6_cellOf (nI (r - 1)) (nI (nb (K 1 0) t s))).bind _ = _
    rw [e_cellOf]; rfl
theorem e_lengthOf {S : Nat → Nat → Int32} {K : Nat → Nat → Nat} (hS : repC S K) {s : Nat} (hs : s < 3) : f_X1_lengthOf S (nI s) = some (nI (if s = 0 then 10 else 10 + K 3 0)) := by
  unfold f_X1_lengthOf
  rw [hS.1 3 (by omega), show (0 : Int32) = nI 0 from rfl, show (10 : Int32) = nI 10 from rfl]
  by_cases e : s = 0
  · subst e; rw [if_pos rfl, if_pos rfl]
  · rw [if_neg (fun q => e ((nI_eq (by omega) (by omega)).mp q)), if_neg e, nI_add]
theorem e_around {M : Nat → Nat → Int32} {K : Nat → Nat → Nat} (hM : repM M K) (hN : 1 ≤ K 1 0) (hN2 : K 1 0 ≤ 24) {a : Nat} {x : Int32} (hx : x + nI (K 1 0) = nI a) (ha : a < 2 ^ 31) : f_X7_around M x = some (nI (a % K 1 0)) := by
  unfold f_X7_around
  rw [hM.1.2.1, hx, pk_rem ha (by omega) (by omega)]
  unfold znz
  rw [if_neg (nI_ne0 (by omega) (by omega))]
theorem ar_left {t N : Nat} (hN : 1 ≤ N) : nI t + (-1) + nI N = nI (t + (N - 1)) := by
  obtain ⟨n, rfl⟩ : ∃ n, N = n + 1 := ⟨N - 1, by omega⟩
  rw [Int32.add_assoc, Int32.add_comm (-1), pk_m1, nI_add]; rfl
theorem e_targetTurn {M : Nat → Nat → Int32} {K : Nat → Nat → Nat} (hM : repM M K) (hN : 1 ≤ K 1 0) (hN2 : K 1 0 ≤ 24) {r t s : Nat} (hr : r < 2 ^ 31) (ht : t < K 1 0) (hs : s < 3) : f_X7_targetTurn M (nI r) (nI t) (nI s) = some (nI (if r = 1 then 0 else nb (K 1 0) t s)) := by
  unfold f_X7_targetTurn f_X7_targetTurn_J30
  have q1 : ((1 : Int32) = nI 1) := rfl
  by_cases e : r = 1
  · subst e; rw [if_pos ((nq1 (by omega)).mpr rfl), if_pos rfl]; rfl
  · rw [if_neg (fun q => e ((nq1 (by omega)).mp q)), if_neg e]
    unfold nb
    by_cases e1 : s = 1
    · subst e1
      rw [if_pos ((nq1 (by omega)).mpr rfl), if_pos rfl, e_around hM hN hN2 (ar_left hN) (by omega)]
      by_cases e2 : t = 0
      · subst e2; rw [if_pos rfl, Nat.zero_add, Nat.mod_eq_of_lt (by omega)]; rfl
      · rw [if_neg e2, show t + (K 1 0 - 1) = (t - 1) + K 1 0 by omega, Nat.add_mod_right, Nat.mod_eq_of_lt (by omega)]; rfl
    · rw [if_neg (fun q => e1 ((nq1 (by omega)).mp q)), if_neg e1]
      by_cases e2 : s = 2
      · subst e2
        rw [if_pos ((nq2 (by omega)).mpr rfl), if_pos rfl, e_around hM hN hN2 (a := t + 1 + K 1 0) (by rw [nI_1, nI_add]) (by omega), Nat.add_mod_right]
        by_cases e3 : t = K 1 0 - 1
        · rw [if_pos e3, show t + 1 = K 1 0 by omega, Nat.mod_self]; rfl
        · rw [if_neg e3, Nat.mod_eq_of_lt (by omega)]; rfl
      · rw [if_neg (fun q => e2 ((nq2 (by omega)).mp q)), if_neg e2, e_around hM hN hN2 (a := t + 0 + K 1 0) (by rw [show (0 : Int32) = nI 0 from rfl, nI_add, nI_add]) (by omega), Nat.add_mod_right, Nat.mod_eq_of_lt (by omega)]; rfl
theorem e_cellM (r t : Nat) : f_X7_cell (nI r) (nI t) = some (nI (24 * r + t)) := by
  unfold f_X7_cell
  rw [show (24 : Int32) = nI 24 from rfl, pk_mul, nI_add]
theorem e_target {M : Nat → Nat → Int32} {K : Nat → Nat → Nat} (hM : repM M K) (hN : 1 ≤ K 1 0) (hN2 : K 1 0 ≤ 24) {r t s : Nat} (hr1 : 1 ≤ r) (hr : r < 2 ^ 31) (ht : t < K 1 0) (hs : s < 3) : f_X7_target M (nI r) (nI t) (nI s) = some (nI (tg (K 1 0) r t s)) := by
  unfold f_X7_target
  rw [e_targetTurn hM hN hN2 hr ht hs, show (1 : Int32) = nI 1 from rfl, pk_sub hr1]
  show (f_X7_cell (nI (r - 1)) _).bind _ = _
  rw [e_cellM]
  unfold tg
  by_cases e : r = 1
  · subst e; rfl
  · rw [if_neg e, if_neg (by omega)]; rfl
theorem e_lengthOfM {M : Nat → Nat → Int32} {K : Nat → Nat → Nat} (hM : repM M K) {r s : Nat} (hr : r < 2 ^ 31) (hs : s < 3) : f_X7_lengthOf M (nI r) (nI s) = some (nI (if r = 1 ∨ s = 0 then 10 else 10 + K 3 0)) := by
  unfold f_X7_lengthOf
  rw [hM.1.2.2.2.1]
  by_cases e : r = 1
  · subst e; rw [if_pos (Or.inl rfl), if_pos ((nq1 (by omega)).mpr rfl)]; rfl
  · rw [if_neg (fun q => e ((nq1 (by omega)).mp q))]
    by_cases e2 : s = 0
    · subst e2; rw [if_pos (Or.inr rfl), if_pos ((nq0 (by omega)).mpr rfl)]; rfl
    · rw [if_neg (fun q => e2 ((nq0 (by omega)).mp q)), if_neg (by omega), show (10 : Int32) = nI 10 from rfl, nI_add]
end PTN
