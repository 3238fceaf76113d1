/-! alone: the least lengths and the best of one place -/
section ALN
def tgt (K : Nat → Nat → Nat) (r t s : Nat) : Nat := if r = 0 then 0 else nb (K 1 0) t s
def lnr (K : Nat → Nat → Nat) : Nat → Nat → Nat
  | 0 => fun _ => 0
  | r + 1 => fun t => (([0, 1, 2] : List Nat).foldl (stf (fun s => if K 9 (tg (K 1 0) (r + 1) t s) = 0 then lnr K r (tgt K r t s) else 1000000000) (fun s => if r + 1 = 1 ∨ s = 0 then 10 else 10 + K 3 0)) (1000000000, 0, 0)).1
theorem lnr_le {K : Nat → Nat → Nat} {r t s : Nat} (hs : s < 3) (hk : K 9 (tg (K 1 0) (r + 1) t s) = 0) (hl : lnr K r (tgt K r t s) < 1000000000) : lnr K (r + 1) t ≤ lnr K r (tgt K r t s) + (if r + 1 = 1 ∨ s = 0 then 10 else 10 + K 3 0) := by
  have h := (gf_le (av := fun s => decide ((if K 9 (tg (K 1 0) (r + 1) t s) = 0 then lnr K r (tgt K r t s) else 1000000000) < 1000000000)) (v := fun s => (if K 9 (tg (K 1 0) (r + 1) t s) = 0 then lnr K r (tgt K r t s) else 1000000000) + (if r + 1 = 1 ∨ s = 0 then 10 else 10 + K 3 0)) (k := 2) [0, 1, 2] (1000000000, 0, 0)).2 s (by simp; omega) (by rw [if_pos hk]; exact decide_eq_true hl)
  rw [if_pos hk] at h
  exact h
theorem lnr_ex {K : Nat → Nat → Nat} {r t : Nat} (h : lnr K (r + 1) t < 1000000000) : ∃ s, s < 3 ∧ K 9 (tg (K 1 0) (r + 1) t s) = 0 ∧ lnr K r (tgt K r t s) < 1000000000 ∧ lnr K (r + 1) t = lnr K r (tgt K r t s) + (if r + 1 = 1 ∨ s = 0 then 10 else 10 + K 3 0) := by
  have hd : lnr K (r + 1) t = (([0, 1, 2] : List Nat).foldl (gf (fun s => decide ((if K 9 (tg (K 1 0) (r + 1) t s) = 0 then lnr K r (tgt K r t s) else 1000000000) < 1000000000)) (fun s => (if K 9 (tg (K 1 0) (r + 1) t s) = 0 then lnr K r (tgt K r t s) else 1000000000) + (if r + 1 = 1 ∨ s = 0 then 10 else 10 + K 3 0)) 2) (1000000000, 0, 0)).1 := rfl
  rcases gf_form (av := fun s => decide ((if K 9 (tg (K 1 0) (r + 1) t s) = 0 then lnr K r (tgt K r t s) else 1000000000) < 1000000000)) (v := fun s => (if K 9 (tg (K 1 0) (r + 1) t s) = 0 then lnr K r (tgt K r t s) else 1000000000) + (if r + 1 = 1 ∨ s = 0 then 10 else 10 + K 3 0)) (k := 2) [0, 1, 2] (1000000000, 0, 0) with hg | ⟨s, hs, hav, hg⟩
  · rw [hd, hg] at h; exact absurd h (by decide)
  · have hs3 : s < 3 := by have : s = 0 ∨ s = 1 ∨ s = 2 := by simpa using hs
                           omega
    have hav := of_decide_eq_true hav
    rw [hd, hg]
    by_cases e : K 9 (tg (K 1 0) (r + 1) t s) = 0
    · rw [if_pos e] at hav
      refine ⟨s, hs3, e, hav, ?_⟩
      show (if K 9 (tg (K 1 0) (r + 1) t s) = 0 then lnr K r (tgt K r t s) else 1000000000) + _ = _
      rw [if_pos e]
    · rw [if_neg e] at hav; omega
theorem lnr_bd {K : Nat → Nat → Nat} (hb : K 3 0 ≤ 40) : ∀ r t, lnr K r t < 1000000000 → lnr K r t ≤ 50 * r := by
  intro r
  induction r with
  | zero => intro t _; exact Nat.le_refl _
  | succ r ih =>
    intro t h
    obtain ⟨s, _, _, h3, h4⟩ := lnr_ex h
    have := ih _ h3
    rw [h4]; split <;> omega
theorem lnr_far {K : Nat → Nat → Nat} : ∀ r t, lnr K r t ≤ 1000000000 := by
  intro r t
  cases r with
  | zero => exact Nat.zero_le _
  | succ r => exact stf_le (Nat.le_refl _) _
/-- the step from (r+1, t') with side x goes to (r, t): so from (r, t) it is the x-th outwards -/
theorem frm_tgt {K : Nat → Nat → Nat} {r t : Nat} (hr : r < K 0 0) (ht : t < K 1 0) (s : Nat) (hs : s < 3) : ∃ x, x ∈ stx K r ∧ frm K r (tgt K r t s) x = t ∧ lnx K r x = (if r + 1 = 1 ∨ s = 0 then 10 else 10 + K 3 0) := by
  unfold stx frm tgt lnx
  by_cases e : r = 0
  · simp only [if_pos e, if_pos (Or.inl e : r = 0 ∨ _)]
    exact ⟨t, List.mem_range.mpr ht, rfl, by rw [if_pos (by omega)]⟩
  · simp only [if_neg e, if_pos hr]
    have hc : s = 0 ∨ s = 1 ∨ s = 2 := by omega
    rcases hc with rfl | rfl | rfl
    · exact ⟨0, by simp, rfl, by simp⟩
    · refine ⟨2, by simp, ((nb_inv1 (nb_lt 1 ht) ht).mp rfl).symm, ?_⟩
      rw [if_neg (by omega), if_neg (by omega)]
    · refine ⟨1, by simp, ((nb_inv2 (nb_lt 2 ht) ht).mp rfl).symm, ?_⟩
      rw [if_neg (by omega), if_neg (by omega)]
theorem tgt_frm {K : Nat → Nat → Nat} (hK : wfK K) {r t x : Nat} (hr : r ≤ K 0 0) (ht : t < wid K r) (hx : x ∈ stx K r) : tgt K r (frm K r t x) (sid r x) = t ∧ tg (K 1 0) (r + 1) (frm K r t x) (sid r x) = 24 * r + t ∧ (if r + 1 = 1 ∨ sid r x = 0 then 10 else 10 + K 3 0) = lnx K r x := by
  have hR := stx_lt hK hr hx
  have hwd := wid_le hK r
  have hl : (if r + 1 = 1 ∨ sid r x = 0 then 10 else 10 + K 3 0) = lnx K r x := by
    obtain ⟨q1, q2⟩ := stx_sid hx
    by_cases e : sid r x = 0
    · rw [if_pos (Or.inr e), q1 e]
    · have : r ≠ 0 := fun q => e (by unfold sid; rw [if_pos q])
      rw [if_neg (by omega), q2 e]
  refine ⟨?_, ?_, hl⟩
  · unfold tgt frm sid
    by_cases e : r = 0
    · rw [if_pos e]; rw [e] at ht; have : wid K 0 = 1 := by unfold wid; rw [if_pos rfl]
      omega
    · rw [if_neg e, if_neg e, if_neg e]
      unfold stx at hx
      rw [if_neg e, if_pos hR] at hx
      have hx' : x = 0 ∨ x = 1 ∨ x = 2 := by simpa using hx
      have htN : t < K 1 0 := by omega
      rcases hx' with rfl | rfl | rfl
      · rfl
      · rw [if_pos rfl]; exact (nb_inv2 htN (nb_lt 1 htN)).mpr rfl
      · rw [if_neg (by decide), if_pos rfl]; exact (nb_inv1 htN (nb_lt 2 htN)).mpr rfl
  · unfold tg
    by_cases e : r = 0
    · rw [if_pos (by omega)]; rw [e] at ht ⊢; have : wid K 0 = 1 := by unfold wid; rw [if_pos rfl]
      omega
    · rw [if_neg (by omega), show r + 1 - 1 = r by omega]
      have htN : t < K 1 0 := by omega
      unfold frm sid
      rw [if_neg e, if_neg e]
      unfold stx at hx
      rw [if_neg e, if_pos hR] at hx
      have hx' : x = 0 ∨ x = 1 ∨ x = 2 := by simpa using hx
      rcases hx' with rfl | rfl | rfl
      · rfl
      · rw [if_pos rfl, (nb_inv2 htN (nb_lt 1 htN)).mpr rfl]
      · rw [if_neg (by decide), if_pos rfl, (nb_inv1 htN (nb_lt 2 htN)).mpr rfl]
/-- the best of one place at the source is its length times what it takes -/
theorem aln_le {K : Nat → Nat → Nat} (hK : wfK K) {p : Nat} (hp : p < K 5 0) : ∀ r t, r ≤ K 0 0 → t < wid K r → sb (2 ^ p) (Rt K r t) → lnr K r t < 1000000000 → sb (2 ^ p) (Rt K 0 0) ∧ (Bt K 0 0 (2 ^ p)).1 ≤ (Bt K r t (2 ^ p)).1 + lnr K r t * (K 2 0 + K 8 p) := by
  have h7 := wf7 hK
  have h0 : 0 < 2 ^ p := Nat.pos_of_ne_zero (by simp)
  have hP : 2 ^ p < 2 ^ K 5 0 := Nat.pow_lt_pow_right (by decide) hp
  have ham : amtK K (2 ^ p) = K 8 p := by unfold amtK; rw [amt_one, if_pos hp]
  intro r
  induction r with
  | zero =>
    intro t _ ht hs _
    have : t = 0 := by have : wid K 0 = 1 := by unfold wid; rw [if_pos rfl]
                       omega
    subst this
    exact ⟨hs, Nat.le_add_right _ _⟩
  | succ r ih =>
    intro t hr ht hs hl
    have htN : t < K 1 0 := by unfold wid at ht; rw [if_neg (by omega)] at ht; exact ht
    obtain ⟨s, s3, hk, hl', he⟩ := lnr_ex hl
    obtain ⟨x, hx, hfx, hlx⟩ := frm_tgt (r := r) (t := t) (by omega) htN s s3
    have htt : tgt K r t s < wid K r := by
      unfold tgt wid
      by_cases e : r = 0
      · rw [if_pos e, if_pos e]; decide
      · rw [if_neg e, if_neg e]; exact nb_lt s htN
    have hcell : tg (K 1 0) (r + 1) t s = 24 * r + tgt K r t s := by
      unfold tg tgt
      by_cases e : r = 0
      · rw [if_pos (by omega), if_pos e, e]
      · rw [if_neg (by omega), if_neg e]; rfl
    rw [hcell] at hk
    have hst := Bt_step hK (r := r) (t := tgt K r t s) (s := 2 ^ p) (x := x) (by omega) hk h0 hP hx (by rw [hfx]; exact hs)
    rw [hfx, hlx, ham] at hst
    obtain ⟨i1, i2⟩ := ih (tgt K r t s) (by omega) htt hst.1 hl'
    refine ⟨i1, ?_⟩
    rw [he, Nat.add_mul]
    omega
theorem aln_ge {K : Nat → Nat → Nat} (hK : wfK K) {p : Nat} (hp : p < K 5 0) : ∀ r t s, vld K r t s → s = 2 ^ p → lnr K r t < 1000000000 → lnr K (K 6 p) (K 7 p) < 1000000000 ∧ lnr K (K 6 p) (K 7 p) * (K 2 0 + K 8 p) ≤ (Bt K r t s).1 + lnr K r t * (K 2 0 + K 8 p) := by
  have ham : amtK K (2 ^ p) = K 8 p := by unfold amtK; rw [amt_one, if_pos hp]
  refine foInd hK _ ?_ ?_ ?_
  · intro r t s h e hB hs hl
    rw [hs] at e
    have hpl : plc K r t = p := by
      unfold pbK at e
      by_cases q : plc K r t < K 5 0
      · rw [if_pos q] at e
        have h1 := (Nat.pow_right_inj (a := 2) (by decide)).mp e
        exact h1.symm
      · rw [if_neg q] at e; exact absurd e (by simp)
    have := (plc_iff hK hp).mp hpl
    rw [this.1, this.2]
    exact ⟨hl, Nat.le_add_left _ _⟩
  · intro r t s q h hq hB v1 v2 _ _ hs hl
    exfalso
    have hp7 : p < 7 := by have := wf7 hK; omega
    have hpts : ∀ i, i < 7 → pts (2 ^ i) = [] := by decide +kernel
    rw [hs, hpts p hp7] at hq
    exact absurd hq List.not_mem_nil
  · intro r t s x h hx hB v1 i1 hs hl
    obtain ⟨t1, t2, t3⟩ := tgt_frm hK h.1 h.2.1 hx
    have hk := (vld_P hK h).2.2.1
    have hle := lnr_le (K := K) (r := r) (t := frm K r t x) (s := sid r x) (sid_lt r x) (by rw [t2]; exact hk) (by rw [t1]; exact hl)
    rw [t1, t3] at hle
    have hbd := lnr_bd hK.1.2.2.2.2.2.2.1 r t hl
    have h9 := hK.1.2.1
    have hlx := lnx_le hK.1.2.2.2.2.2.2.1 r x
    have hr := h.1
    obtain ⟨j1, j2⟩ := i1 hs (by omega)
    refine ⟨j1, ?_⟩
    have hm := Nat.mul_le_mul_right (K 2 0 + K 8 p) hle
    rw [Nat.add_mul] at hm
    rw [hB, hs, ham]
    rw [hs] at j2
    show _ ≤ (Bt K (r + 1) (frm K r t x) (2 ^ p)).1 + lnx K r x * (K 2 0 + K 8 p) + lnr K r t * (K 2 0 + K 8 p)
    omega
def alnI (K : Nat → Nat → Nat) (p : Nat) : Int32 := if lnr K (K 6 p) (K 7 p) < 1000000000 then nI (lnr K (K 6 p) (K 7 p) * (K 2 0 + K 8 p)) else -2
theorem aln_eq {K : Nat → Nat → Nat} (hK : wfK K) {p : Nat} (hp : p < K 5 0) : (if (Bt K 0 0 (2 ^ p)).1 < 1000000000 then nI (Bt K 0 0 (2 ^ p)).1 else -2) = alnI K p := by
  have h0 : 0 < 2 ^ p := Nat.pos_of_ne_zero (by simp)
  have hP : 2 ^ p < 2 ^ K 5 0 := Nat.pow_lt_pow_right (by decide) hp
  obtain ⟨w1, w2, w3, w4, w5, w6⟩ := hK.2.1 p hp
  have hww : K 7 p < wid K (K 6 p) := by unfold wid; rw [if_neg (by omega)]; exact w3
  have hpb : pbK K (K 6 p) (K 7 p) = 2 ^ p := by unfold pbK; rw [plc_at hK hp, if_pos hp]
  have hB0 : Bt K (K 6 p) (K 7 p) (2 ^ p) = (0, 0, 0) := by
    rw [Bt_fix hK w2 w6 h0 hP]; unfold calc1; rw [if_pos hpb.symm]
  have hsb : sb (2 ^ p) (Rt K (K 6 p) (K 7 p)) := (Bt_ok hK h0 hP).1.mp (by rw [hB0]; decide)
  unfold alnI
  by_cases e : lnr K (K 6 p) (K 7 p) < 1000000000
  · obtain ⟨a1, a2⟩ := aln_le hK hp (K 6 p) (K 7 p) w2 hww hsb e
    have hv : vld K 0 0 (2 ^ p) := ⟨Nat.zero_le _, by unfold wid; rw [if_pos rfl]; decide, h0, a1⟩
    obtain ⟨b1, b2⟩ := aln_ge hK hp 0 0 (2 ^ p) hv rfl (by show (0 : Nat) < _; decide)
    have hz : lnr K 0 0 = 0 := rfl
    rw [hz, Nat.zero_mul, Nat.add_zero] at b2
    rw [hB0, Nat.zero_add] at a2
    rw [if_pos e, if_pos ((Bt_ok hK h0 hP).1.mpr a1), Nat.le_antisymm a2 b2]
  · rw [if_neg e]
    by_cases e2 : (Bt K 0 0 (2 ^ p)).1 < 1000000000
    · have hv : vld K 0 0 (2 ^ p) := ⟨Nat.zero_le _, by unfold wid; rw [if_pos rfl]; decide, h0, (Bt_ok hK h0 hP).1.mp e2⟩
      exact absurd (aln_ge hK hp 0 0 (2 ^ p) hv rfl (by show (0 : Nat) < _; decide)).1 e
    · rw [if_neg e2]
theorem e_laysLengths {M : Nat → Nat → Int32} {K : Nat → Nat → Nat} (hK : wfK K) (hM : repM M K) : ∃ M', f_X7_laysLengths M = some M' ∧ (∀ r t, 1 ≤ r → r ≤ K 0 0 → t < K 1 0 → M' 31 (24 * r + t) = nI (lnr K r t)) ∧ ∀ k, k ≠ 31 → M' k = M k := by
  have h9 := hK.1.2.1
  have h24 := hK.1.2.2.2.1
  have h6 := hK.1.2.2.1
  have hbd := lnr_far (K := K)
  -- one cell
  have cell : ∀ r t (A : Nat → Nat → Int32), r < K 0 0 → t < K 1 0 → repM A K → A 31 0 = 0 → (∀ t', t' < K 1 0 → 1 ≤ r → A 31 (24 * r + t') = nI (lnr K r t')) → f_X7_laysLengths_L33 A (nI (r + 1)) (nI t) zfuel (1000000000, 0) = some (nI (lnr K (r + 1) t)) := by
    intro r t A hr ht hA hA0 hAr
    have fst : ∀ (w l : Nat → Nat) s, s < 3 → w s = (if K 9 (tg (K 1 0) (r + 1) t s) = 0 then lnr K r (tgt K r t s) else 1000000000) → l s = (if r + 1 = 1 ∨ s = 0 then 10 else 10 + K 3 0) → ∀ (a : zV) rec, a.1 ≤ 1000000000 → f_X7_laysLengths_L33b A (nI (r + 1)) (nI t) rec (nI a.1, nI s) = rec (nI (stf w l a s).1, nI (s + 1)) := by
      intro w l s hs hw hl a rec ha
      obtain ⟨t1, t2⟩ := tg_lt hK (r := r + 1) (i := t) (s := s) (by omega) ht
      have hcell : tg (K 1 0) (r + 1) t s = 24 * r + tgt K r t s := by
        unfold tg tgt
        by_cases e : r = 0
        · rw [if_pos (by omega), if_pos e, e]
        · rw [if_neg (by omega), if_neg e]; rfl
      have hon : A 31 (tg (K 1 0) (r + 1) t s) = nI (lnr K r (tgt K r t s)) := by
        by_cases e : r = 0
        · subst e; exact hA0
        · rw [hcell]; exact hAr _ (by unfold tgt; rw [if_neg e]; exact nb_lt s ht) (by omega)
      have hle := hbd r (tgt K r t s)
      have hb40 := hK.1.2.2.2.2.2.2.1
      have hlen : l s ≤ 50 := by rw [hl]; split <;> omega
      unfold f_X7_laysLengths_L33b f_X7_laysLengths_J68 f_X7_laysLengths_J104 f_X7_laysLengths_J105
      dsimp only
      rw [if_neg (show ¬ 2 < nI s from nI_nlt (a := 2) (by omega) (by omega)), e_isFree hK hA (by omega) (by omega) ht hs, Option.bind_some, e_target hA (by omega) (by omega) (by omega) (by omega) ht hs, Option.bind_some, zix_nI t1 (by decide), nI_clamp (by omega), hon, e_lengthOfM hA (by omega) hs, nI_1, ← hl]
      have hstf : stf w l a s = if decide (w s < 1000000000) = true then (if w s + l s < a.1 then (w s + l s, 2, s) else a) else a := rfl
      rw [hstf]
      by_cases e : K 9 (tg (K 1 0) (r + 1) t s) = 0
      · rw [if_pos e] at hw
        rw [if_pos e, if_neg (show ¬ (1 : Int32) = 0 by decide), ← hw, l_far]
        rw [← hw] at hle
        by_cases q : w s < 1000000000
        · rw [if_neg (nI_ge q (by omega)), if_pos (decide_eq_true q), Option.bind_some, Option.bind_some, nI_add]
          by_cases q2 : w s + l s < a.1
          · rw [if_neg (nI_ge q2 (by omega)), if_pos q2]
          · rw [if_pos (nI_le (by omega) (by omega)), if_neg q2]
        · rw [if_pos (nI_le (by omega) (by omega)), if_neg (fun z => q (of_decide_eq_true z))]
      · rw [if_neg e] at hw
        rw [if_neg e, if_pos rfl, if_pos (show (1000000000 : Int32) ≤ 1000000000 by decide), if_neg (fun z => by have := of_decide_eq_true z; omega)]
    show f_X7_laysLengths_L33 A (nI (r + 1)) (nI t) zfuel (nI ((List.range 0).foldl (stf (fun s => if K 9 (tg (K 1 0) (r + 1) t s) = 0 then lnr K r (tgt K r t s) else 1000000000) (fun s => if r + 1 = 1 ∨ s = 0 then 10 else 10 + K 3 0)) (1000000000, 0, 0)).1, nI 0) = _
    generalize hw : (fun s => if K 9 (tg (K 1 0) (r + 1) t s) = 0 then lnr K r (tgt K r t s) else 1000000000 : Nat → Nat) = w
    generalize hl : (fun s => if r + 1 = 1 ∨ s = 0 then 10 else 10 + K 3 0 : Nat → Nat) = l
    have hfin : lnr K (r + 1) t = ((List.range 3).foldl (stf w l) (1000000000, 0, 0)).1 := by rw [← hw, ← hl]; rfl
    refine zfor0 (fun i => (nI ((List.range i).foldl (stf w l) (1000000000, 0, 0)).1, nI i)) 3 _ (by omega) (fun i hi rec => ?_) (fun rec => ?_)
    · show f_X7_laysLengths_L33b A (nI (r + 1)) (nI t) rec (nI _, nI i) = rec (nI _, nI (i + 1))
      rw [List.range_succ, List.foldl_append]
      exact fst w l i hi (by rw [← hw]) (by rw [← hl]) _ rec (stf_le (Nat.le_refl _) _)
    · show f_X7_laysLengths_L33b A (nI (r + 1)) (nI t) rec (nI _, nI 3) = _
      unfold f_X7_laysLengths_L33b
      dsimp only
      rw [if_pos (show (2 : Int32) < nI 3 by decide), hfin]
  have ring : ∀ r (A : Nat → Nat → Int32), r < K 0 0 → repM A K → A 31 0 = 0 → (∀ t', t' < K 1 0 → 1 ≤ r → A 31 (24 * r + t') = nI (lnr K r t')) → ∃ ex : Nat → Nat → Int32, ((∀ t', t' < K 1 0 → ex 31 (24 * (r + 1) + t') = nI (lnr K (r + 1) t')) ∧ (∀ c, c < 24 * (r + 1) → ex 31 c = A 31 c) ∧ ∀ k, k ≠ 31 → ex k = A k) ∧ zloop (fun rec a => f_X7_laysLengths_L19b (nI (r + 1)) rec a) zfuel (0, A) = some ex := by
    intro r A hr hA hA0 hAr
    refine zinv (I := fun i a => ∃ B, a = (nI i, B) ∧ (∀ t', t' < i → B 31 (24 * (r + 1) + t') = nI (lnr K (r + 1) t')) ∧ (∀ c, c < 24 * (r + 1) → B 31 c = A 31 c) ∧ ∀ k, k ≠ 31 → B k = A k) _ (K 1 0) (by omega) ?_ ?_ ?_
    · rintro i hi a ⟨B, rfl, g1, g2, g3⟩
      have hB : repM B K := repM_fr (fun k hk => g3 k (by omega)) hA
      have hc := cell r i B hr hi hB (by rw [g2 0 (by omega)]; exact hA0) (fun t' ht' h1 => by rw [g2 _ (by omega)]; exact hAr t' ht' h1)
      refine ⟨(nI (i + 1), zst B 31 (24 * (r + 1) + i) (nI (lnr K (r + 1) i))), ⟨_, rfl, fun t' ht' => ?_, fun c hcc => ?_, fun k hk => by rw [zst_ne _ hk]; exact g3 k hk⟩, fun rec => ?_⟩
      · by_cases e : t' = i
        · rw [e, zst_same]
        · rw [zst_row, upd_ne _ (by omega)]; exact g1 t' (by omega)
      · rw [zst_row, upd_ne _ (by omega)]; exact g2 c hcc
      · unfold f_X7_laysLengths_L19b
        dsimp only
        rw [ilen hB.1.2.1 rfl hi (by omega), hc, Option.bind_some, e_cellM, Option.bind_some, zix_nI (by omega) (by decide), zlet_eq, nI_1]
    · rintro a ⟨B, rfl, g1, g2, g3⟩
      have hB : repM B K := repM_fr (fun k hk => g3 k (by omega)) hA
      refine ⟨B, ⟨g1, g2, g3⟩, fun rec => ?_⟩
      unfold f_X7_laysLengths_L19b
      dsimp only
      rw [ilep hB.1.2.1 rfl (Nat.le_refl _) (by omega)]
    · exact ⟨A, rfl, fun t' ht' => by omega, fun _ _ => rfl, fun _ _ => rfl⟩
  have key : ∃ ex : Nat → Nat → Int32, ((∀ r t, 1 ≤ r → r ≤ K 0 0 → t < K 1 0 → ex 31 (24 * r + t) = nI (lnr K r t)) ∧ ∀ k, k ≠ 31 → ex k = M k) ∧ zloop (fun rec a => f_X7_laysLengths_L9b rec a) zfuel (1, zst M 31 0 0) = some ex := by
    refine zinv (I := fun i a => ∃ B, a = (nI (i + 1), B) ∧ B 31 0 = 0 ∧ (∀ r t, 1 ≤ r → r ≤ i → t < K 1 0 → B 31 (24 * r + t) = nI (lnr K r t)) ∧ ∀ k, k ≠ 31 → B k = M k) _ (K 0 0) (by omega) ?_ ?_ ?_
    · rintro i hi a ⟨B, rfl, g0, g1, g3⟩
      have hB : repM B K := repM_fr (fun k hk => g3 k (by omega)) hM
      obtain ⟨ex, ⟨e1, e2, e3⟩, e4⟩ := ring i B hi hB g0 (fun t' ht' h1 => g1 i t' h1 (Nat.le_refl _) ht')
      refine ⟨(nI (i + 1 + 1), ex), ⟨ex, rfl, by rw [e2 0 (by omega)]; exact g0, fun r t h1 h2 h3 => ?_, fun k hk => by rw [e3 k hk]; exact g3 k hk⟩, fun rec => ?_⟩
      · by_cases e : r = i + 1
        · rw [e]; exact e1 t h3
        · rw [e2 _ (by omega)]; exact g1 r t h1 (by omega) h3
      · unfold f_X7_laysLengths_L9b
        dsimp only
        rw [iltn hB.1.1 rfl (by omega) (by omega)]
        show (zloop (fun rec a => f_X7_laysLengths_L19b (nI (i + 1)) rec a) zfuel (0, B)).bind _ = _
        rw [e4, Option.bind_some, nI_1]
    · rintro a ⟨B, rfl, g0, g1, g3⟩
      have hB : repM B K := repM_fr (fun k hk => g3 k (by omega)) hM
      refine ⟨B, ⟨g1, g3⟩, fun rec => ?_⟩
      unfold f_X7_laysLengths_L9b
      dsimp only
      rw [iltp hB.1.1 rfl (by omega) (by omega)]
    · exact ⟨_, rfl, zst_same _ _ _ _, fun r t h1 h2 => by omega, fun k hk => zst_ne _ hk _ _⟩
  obtain ⟨M', ⟨q1, q2⟩, hz⟩ := key
  refine ⟨M', ?_, q1, q2⟩
  unfold f_X7_laysLengths
  show (zix (nI 0) 240 fun j => _) = _
  rw [zix_nI (by decide) (by decide), zlet_eq]
  show (zloop (fun rec a => f_X7_laysLengths_L9b rec a) zfuel (1, zst M 31 0 0)).bind _ = _
  rw [hz]; rfl
end ALN
