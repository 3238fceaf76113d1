/-! the table keeps zDP -/
section DPK
theorem stx_R {K : Nat → Nat → Nat} (hK : wfK K) : stx K (K 0 0) = [] := by
  unfold stx
  have := hK.1.1
  rw [if_neg (by omega), if_neg (by omega)]
theorem tbl_ok {K : Nat → Nat → Nat} (hK : wfK K) : ∀ d, d ≤ K 0 0 → ∀ t, rowok K (d + 1) (rcd K d t) (tbl K d t) := by
  have hR := hK.1.2.1
  intro d
  induction d with
  | zero =>
    intro _ t
    exact row_ok hK (d := 0) (rc := fun _ => 0) (by omega) (fun x hx => by rw [stx_R hK] at hx; exact absurd hx List.not_mem_nil) rfl
  | succ d ih =>
    intro hd t
    exact row_ok hK (d := d + 1) (rc := rcd K d) (by omega) (fun x _ => ih (by omega) _) rfl
theorem orf_lt {f : Nat → Nat} {n : Nat} : ∀ (xs : List Nat) (a : Nat), a < 2 ^ n → (∀ x, x ∈ xs → f x < 2 ^ n) → xs.foldl (fun a x => a ||| f x) a < 2 ^ n := by
  intro xs
  induction xs with
  | nil => intro a h _; exact h
  | cons y ys ih => intro a h hf; exact ih _ (Nat.or_lt_two_pow h (hf y List.mem_cons_self)) fun x hx => hf x (List.mem_cons_of_mem _ hx)
theorem pbK_lt (K : Nat → Nat → Nat) (r t : Nat) : pbK K r t < 2 ^ K 5 0 := by
  unfold pbK
  by_cases h : plc K r t < K 5 0
  · rw [if_pos h]; exact Nat.pow_lt_pow_right (by decide) h
  · rw [if_neg h]; exact Nat.pos_of_ne_zero (by simp)
theorem rcOf_lt {K : Nat → Nat → Nat} {r t : Nat} {out : Nat → Nat} (h : ∀ x, out x < 2 ^ K 5 0) : rcOf K r t out < 2 ^ K 5 0 := by
  unfold rcOf
  by_cases e : K 9 (24 * r + t) ≠ 0
  · rw [if_pos e]; exact Nat.pos_of_ne_zero (by simp)
  · rw [if_neg e]; exact orf_lt _ _ (pbK_lt K r t) fun x _ => h _
theorem rcd_lt {K : Nat → Nat → Nat} : ∀ d t, rcd K d t < 2 ^ K 5 0 := by
  intro d
  induction d with
  | zero => intro t; exact rcOf_lt fun _ => Nat.pos_of_ne_zero (by simp)
  | succ d ih => intro t; exact rcOf_lt fun x => ih x
theorem Rt_lt (K : Nat → Nat → Nat) (r t : Nat) : Rt K r t < 2 ^ K 5 0 := rcd_lt _ _
theorem Bt_ok {K : Nat → Nat → Nat} (hK : wfK K) {r t s : Nat} (h0 : 0 < s) (hP : s < 2 ^ K 5 0) : ((Bt K r t s).1 < 1000000000 ↔ sb s (Rt K r t)) ∧ (sb s (Rt K r t) → (Bt K r t s).1 ≤ 99000 * s) := by
  have h := tbl_ok hK (K 0 0 - r) (by omega) t s h0 hP
  have := pw_le hK.1.2.2.2.2.2.2.2.2
  exact ⟨⟨h.1, fun q => by have := (h.2 q).1; show (tbl K (K 0 0 - r) t s).1 < 1000000000; omega⟩, fun q => (h.2 q).1⟩
theorem Bt_fix {K : Nat → Nat → Nat} (hK : wfK K) {r t s : Nat} (hr : r ≤ K 0 0) (hk : K 9 (24 * r + t) = 0) (h0 : 0 < s) (hP : s < 2 ^ K 5 0) : Bt K r t s = calc1 (pbK K r t) (stx K r) (fun s x => (Bt K (r + 1) (frm K r t x) s).1) (fun s x => lnx K r x * (K 2 0 + amtK K s)) (Bt K r t) s := by
  have h7 := hK.1.2.2.2.2.2.2.2.2
  by_cases e : r = K 0 0
  · have e0 : Bt K r = fun t => rowOf K (K 0 0) t (fun _ _ => (1000000000, 0, 0)) := by unfold Bt; rw [e, Nat.sub_self]; rfl
    rw [e0]
    show rowOf K (K 0 0) t (fun _ _ => (1000000000, 0, 0)) s = calc1 _ _ _ _ (rowOf K (K 0 0) t (fun _ _ => (1000000000, 0, 0))) s
    rw [rowOf_fix h7 (by rw [← e]; exact hk) h0 hP, e]
    unfold calc1
    rw [stx_R hK]; rfl
  · obtain ⟨d, hd⟩ : ∃ d, K 0 0 - r = d + 1 := ⟨K 0 0 - r - 1, by omega⟩
    have hrr : K 0 0 - (d + 1) = r := by omega
    have e0 : Bt K r = fun t => rowOf K r t (Bt K (r + 1)) := by
      unfold Bt
      rw [hd, show K 0 0 - (r + 1) = d by omega]
      show (fun t => rowOf K (K 0 0 - (d + 1)) t (tbl K d)) = _
      rw [hrr]
    rw [e0]
    show rowOf K r t (Bt K (r + 1)) s = calc1 _ _ _ _ (rowOf K r t (Bt K (r + 1))) s
    exact rowOf_fix h7 hk h0 hP
theorem Rt_fix {K : Nat → Nat → Nat} (hK : wfK K) {r t : Nat} (hr : r ≤ K 0 0) : Rt K r t = if K 9 (24 * r + t) ≠ 0 then 0 else (stx K r).foldl (fun a x => a ||| Rt K (r + 1) (frm K r t x)) (pbK K r t) := by
  by_cases e : r = K 0 0
  · have e0 : Rt K r t = rcOf K (K 0 0) t (fun _ => 0) := by unfold Rt; rw [e, Nat.sub_self]; rfl
    rw [e0]
    unfold rcOf
    rw [e, stx_R hK]; rfl
  · obtain ⟨d, hd⟩ : ∃ d, K 0 0 - r = d + 1 := ⟨K 0 0 - r - 1, by omega⟩
    have hrr : K 0 0 - (d + 1) = r := by omega
    have e1 : Rt K (r + 1) = rcd K d := by unfold Rt; rw [show K 0 0 - (r + 1) = d by omega]
    rw [e1]
    unfold Rt
    rw [hd]
    show rcOf K (K 0 0 - (d + 1)) t (rcd K d) = _
    rw [hrr]; rfl
theorem frm_lt {K : Nat → Nat → Nat} {r t x : Nat} (ht : t < wid K r) (hx : x ∈ stx K r) : frm K r t x < K 1 0 := by
  unfold frm stx wid at *
  by_cases e : r = 0
  · rw [if_pos e] at *; exact List.mem_range.mp hx
  · rw [if_neg e] at *; exact nb_lt x ht
def BK (K : Nat → Nat → Nat) (c s : Nat) : Nat := if s = 0 then 0 else (Bt K (c / 24) (c % 24) s).1
def RK (K : Nat → Nat → Nat) (c : Nat) : Nat := if c / 24 ≤ K 0 0 ∧ c % 24 < wid K (c / 24) then Rt K (c / 24) (c % 24) else 0
def stK (K : Nat → Nat → Nat) (c x len : Nat) : Prop := ∃ r t j, r ≤ K 0 0 ∧ t < wid K r ∧ c = 24 * r + t ∧ K 9 c = 0 ∧ j ∈ stx K r ∧ x = 24 * (r + 1) + frm K r t j ∧ len = lnx K r j
def chK (K : Nat → Nat → Nat) : zCh := fun c s => if (Bt K (c / 24) (c % 24) s).2.1 = 2 then (2, 24 * (c / 24 + 1) + frm K (c / 24) (c % 24) (Bt K (c / 24) (c % 24) s).2.2, lnx K (c / 24) (Bt K (c / 24) (c % 24) s).2.2) else ((Bt K (c / 24) (c % 24) s).2.1, (Bt K (c / 24) (c % 24) s).2.2, 0)
theorem cell_rt {r t : Nat} (ht : t < 24) : (24 * r + t) / 24 = r ∧ (24 * r + t) % 24 = t := by omega
theorem wid_le {K : Nat → Nat → Nat} (hK : wfK K) (r : Nat) : 1 ≤ wid K r ∧ wid K r ≤ K 1 0 ∧ K 1 0 ≤ 24 := by
  have h1 := hK.1.2.2.1
  have h2 := hK.1.2.2.2.1
  unfold wid
  by_cases e : r = 0
  · rw [if_pos e]; omega
  · rw [if_neg e]; omega
theorem RK_eq {K : Nat → Nat → Nat} (hK : wfK K) {r t : Nat} (hr : r ≤ K 0 0) (ht : t < wid K r) : RK K (24 * r + t) = Rt K r t := by
  have := wid_le hK r
  obtain ⟨e1, e2⟩ := cell_rt (r := r) (t := t) (by omega)
  unfold RK
  rw [e1, e2, if_pos ⟨hr, ht⟩]
theorem BK_eq {K : Nat → Nat → Nat} (hK : wfK K) {r t s : Nat} (ht : t < wid K r) (hs : 0 < s) : BK K (24 * r + t) s = (Bt K r t s).1 := by
  have := wid_le hK r
  obtain ⟨e1, e2⟩ := cell_rt (r := r) (t := t) (by omega)
  unfold BK
  rw [e1, e2, if_neg (by omega)]
theorem chK_eq {K : Nat → Nat → Nat} (hK : wfK K) {r t s : Nat} (ht : t < wid K r) : chK K (24 * r + t) s = if (Bt K r t s).2.1 = 2 then (2, 24 * (r + 1) + frm K r t (Bt K r t s).2.2, lnx K r (Bt K r t s).2.2) else ((Bt K r t s).2.1, (Bt K r t s).2.2, 0) := by
  have := wid_le hK r
  obtain ⟨e1, e2⟩ := cell_rt (r := r) (t := t) (by omega)
  unfold chK
  rw [e1, e2]
theorem RK_cell {K : Nat → Nat → Nat} {c s : Nat} (h0 : s ≠ 0) (h : sb s (RK K c)) : ∃ r t, r ≤ K 0 0 ∧ t < wid K r ∧ c = 24 * r + t := by
  unfold RK at h
  by_cases e : c / 24 ≤ K 0 0 ∧ c % 24 < wid K (c / 24)
  · exact ⟨c / 24, c % 24, e.1, e.2, by omega⟩
  · rw [if_neg e] at h; unfold sb at h; rw [Nat.and_zero] at h; exact absurd h.symm h0
theorem sb_lt {s X n : Nat} (h : sb s X) (hX : X < 2 ^ n) : s < 2 ^ n := by
  unfold sb at h
  rw [← h]; exact Nat.lt_of_le_of_lt Nat.and_le_right hX
theorem low_bit : ∀ s, s < 128 → 0 < s → ∃ i, i < 7 ∧ lowb s = 2 ^ i ∧ s.testBit i = true := by decide +kernel
theorem low_or {a b : Nat} (ha : a < 128) (hb : b < 128) (a0 : 0 < a) (b0 : 0 < b) (h : dj a b) : a ∈ pts (a ||| b) ∨ b ∈ pts (a ||| b) := by
  have hs : a ||| b < 128 := Nat.or_lt_two_pow (n := 7) ha hb
  have hla : a ≤ a ||| b := Nat.left_le_or
  have hlb : b ≤ a ||| b := Nat.right_le_or
  obtain ⟨i, _, hi, hbit⟩ := low_bit (a ||| b) hs (by omega)
  have ea : sb a (a ||| b) := sb_orl (sb_rf _)
  have eb : sb b (a ||| b) := sb_orr (sb_rf _)
  have na : a ≠ a ||| b := by
    intro q
    obtain ⟨j, hj⟩ := Nat.exists_testBit_of_ne_zero (show b ≠ 0 by omega)
    have h1 := sb_iff.mp eb j hj
    rw [← q] at h1
    rw [dj_iff.mp h j h1] at hj; cases hj
  have nb' : b ≠ a ||| b := by
    intro q
    obtain ⟨j, hj⟩ := Nat.exists_testBit_of_ne_zero (show a ≠ 0 by omega)
    have h1 := sb_iff.mp ea j hj
    rw [← q] at h1
    rw [dj_iff.mp h j hj] at h1; cases h1
  have hne : ∀ x : Nat, x.testBit i = true → x &&& 2 ^ i ≠ 0 := by
    intro x hx q
    have := congrArg (fun z => Nat.testBit z i) q
    simp [hx, Nat.testBit_two_pow] at this
  rw [Nat.testBit_or, Bool.or_eq_true] at hbit
  rcases hbit with q | q
  · exact Or.inl (pts_iff.mpr ⟨by omega, ea, by rw [hi]; exact hne a q⟩)
  · exact Or.inr (pts_iff.mpr ⟨by omega, eb, by rw [hi]; exact hne b q⟩)
/-- what the choice says of the value -/
theorem Bt_ch {K : Nat → Nat → Nat} (hK : wfK K) {r t s : Nat} (hr : r ≤ K 0 0) (hk : K 9 (24 * r + t) = 0) (h0 : 0 < s) (hP : s < 2 ^ K 5 0) (hf : sb s (Rt K r t)) :
    (s = pbK K r t ∧ Bt K r t s = (0, 0, 0)) ∨ (s ≠ pbK K r t ∧ ∃ p, p ∈ pts s ∧ Bt K r t s = ((Bt K r t p).1 + (Bt K r t (s - p)).1, 1, p)) ∨
    (s ≠ pbK K r t ∧ ∃ x, x ∈ stx K r ∧ (Bt K (r + 1) (frm K r t x) s).1 < 1000000000 ∧ Bt K r t s = ((Bt K (r + 1) (frm K r t x) s).1 + lnx K r x * (K 2 0 + amtK K s), 2, x)) := by
  have hfin := (Bt_ok hK (r := r) (t := t) h0 hP).1.mpr hf
  rw [Bt_fix hK hr hk h0 hP] at hfin ⊢
  unfold calc1 at hfin ⊢
  by_cases e : s = pbK K r t
  · rw [if_pos e]; exact Or.inl ⟨e, rfl⟩
  · rw [if_neg e] at hfin ⊢
    unfold stf at hfin ⊢
    rcases gf_form (av := fun x => decide ((Bt K (r + 1) (frm K r t x) s).1 < 1000000000)) (v := fun x => (Bt K (r + 1) (frm K r t x) s).1 + lnx K r x * (K 2 0 + amtK K s)) (k := 2) (stx K r) ((pts s).foldl (ptf (Bt K r t) s) (1000000000, 0, 0)) with hg | ⟨x, hx, hav, hg⟩
    · rw [hg] at hfin ⊢
      unfold ptf at hfin ⊢
      rcases gf_form (av := fun p => decide ((Bt K r t p).1 < 1000000000 ∧ (Bt K r t (s - p)).1 < 1000000000)) (v := fun p => (Bt K r t p).1 + (Bt K r t (s - p)).1) (k := 1) (pts s) (1000000000, 0, 0) with hg2 | ⟨p, hp, hav, hg2⟩
      · rw [hg2] at hfin; exact absurd hfin (by decide)
      · exact Or.inr (Or.inl ⟨e, p, hp, hg2⟩)
    · exact Or.inr (Or.inr ⟨e, x, hx, of_decide_eq_true hav, hg⟩)
theorem Bt_part {K : Nat → Nat → Nat} (hK : wfK K) {r t s p : Nat} (hr : r ≤ K 0 0) (hk : K 9 (24 * r + t) = 0) (h0 : 0 < s) (hP : s < 2 ^ K 5 0) (hf : sb s (Rt K r t)) (hp : p ∈ pts s) : (Bt K r t s).1 ≤ (Bt K r t p).1 + (Bt K r t (s - p)).1 := by
  have hpw := pw_le hK.1.2.2.2.2.2.2.2.2
  obtain ⟨p1, p2, p3, p4, _⟩ := pts_ok s (by omega) p hp
  have q1 := (Bt_ok hK (r := r) (t := t) (s := p) p1 (by omega)).1.mpr (sb_tr p4 hf)
  have q2 := (Bt_ok hK (r := r) (t := t) (s := s - p) (by omega) (by omega)).1.mpr (by rw [p3]; exact sb_tr (sb_xor p4) hf)
  rw [Bt_fix hK hr hk h0 hP]
  unfold calc1
  by_cases e : s = pbK K r t
  · rw [if_pos e]; exact Nat.zero_le _
  · rw [if_neg e]
    have h4 := (gf_le (av := fun x => decide ((Bt K (r + 1) (frm K r t x) s).1 < 1000000000)) (v := fun x => (Bt K (r + 1) (frm K r t x) s).1 + lnx K r x * (K 2 0 + amtK K s)) (k := 2) (stx K r) ((pts s).foldl (ptf (Bt K r t) s) (1000000000, 0, 0))).1
    have h3 := (gf_le (av := fun p => decide ((Bt K r t p).1 < 1000000000 ∧ (Bt K r t (s - p)).1 < 1000000000)) (v := fun p => (Bt K r t p).1 + (Bt K r t (s - p)).1) (k := 1) (pts s) (1000000000, 0, 0)).2 p hp (decide_eq_true ⟨q1, q2⟩)
    exact Nat.le_trans h4 h3
theorem Bt_step {K : Nat → Nat → Nat} (hK : wfK K) {r t s x : Nat} (hr : r ≤ K 0 0) (hk : K 9 (24 * r + t) = 0) (h0 : 0 < s) (hP : s < 2 ^ K 5 0) (hx : x ∈ stx K r) (hf : sb s (Rt K (r + 1) (frm K r t x))) : sb s (Rt K r t) ∧ (Bt K r t s).1 ≤ (Bt K (r + 1) (frm K r t x) s).1 + lnx K r x * (K 2 0 + amtK K s) := by
  constructor
  · rw [Rt_fix hK hr, if_neg (by omega), sb_iff]
    intro i hi
    exact (orf_bit _ _).mpr (Or.inr ⟨x, hx, sb_iff.mp hf i hi⟩)
  · have q1 := (Bt_ok hK (r := r + 1) (t := frm K r t x) h0 hP).1.mpr hf
    rw [Bt_fix hK hr hk h0 hP]
    unfold calc1
    by_cases e : s = pbK K r t
    · rw [if_pos e]; exact Nat.zero_le _
    · rw [if_neg e]
      exact (gf_le (av := fun x => decide ((Bt K (r + 1) (frm K r t x) s).1 < 1000000000)) (v := fun x => (Bt K (r + 1) (frm K r t x) s).1 + lnx K r x * (K 2 0 + amtK K s)) (k := 2) (stx K r) ((pts s).foldl (ptf (Bt K r t) s) (1000000000, 0, 0))).2 x hx (decide_eq_true q1)
theorem Rt_rock {K : Nat → Nat → Nat} (hK : wfK K) {r t s : Nat} (hr : r ≤ K 0 0) (h0 : s ≠ 0) (hf : sb s (Rt K r t)) : K 9 (24 * r + t) = 0 := by
  by_cases e : K 9 (24 * r + t) ≠ 0
  · rw [Rt_fix hK hr, if_pos e] at hf; unfold sb at hf; rw [Nat.and_zero] at hf; exact absurd hf.symm h0
  · omega
theorem amt_0 (K : Nat → Nat → Nat) : ∀ n, amtN K 0 n = 0 := by
  intro n
  induction n with
  | zero => rfl
  | succ n ih => rw [amtN, ih, Nat.zero_testBit]; rfl
theorem zdpK {K : Nat → Nat → Nat} (hK : wfK K) : zDP (RK K) (BK K) (amtK K) (K 2 0) (fun c => c / 24) (stK K) (chK K) := by
  have hpw := pw_le hK.1.2.2.2.2.2.2.2.2
  refine ⟨hK.1.2.2.2.2.1, amt_0 K _, fun a b h => amtK_or h, fun c => if_pos rfl, ?_, ?_, ?_, ?_⟩
  · intro c a b hd ha hb
    by_cases a0 : a = 0
    · subst a0; rw [Nat.zero_or]; exact Nat.le_add_left _ _
    by_cases b0 : b = 0
    · subst b0; rw [Nat.or_zero]; exact Nat.le_add_right _ _
    obtain ⟨r, t, hr, ht, rfl⟩ := RK_cell a0 ha
    rw [RK_eq hK hr ht] at ha hb
    have hk := Rt_rock hK hr a0 ha
    have ha' := sb_lt ha (Rt_lt K r t)
    have hb' := sb_lt hb (Rt_lt K r t)
    have hs : a ||| b < 2 ^ K 5 0 := Nat.or_lt_two_pow ha' hb'
    have hs0 : 0 < a ||| b := Nat.pos_of_ne_zero (fun q => a0 (Nat.or_eq_zero_iff.mp q).1)
    rw [BK_eq hK ht hs0, BK_eq hK ht (by omega), BK_eq hK ht (by omega)]
    have hx : (a ||| b) ^^^ a = b := by
      apply Nat.eq_of_testBit_eq
      intro i
      have := dj_iff.mp hd i
      rw [Nat.testBit_xor, Nat.testBit_or]
      cases h1 : a.testBit i <;> cases h2 : b.testBit i <;> simp_all
    have hy : (a ||| b) ^^^ b = a := by
      apply Nat.eq_of_testBit_eq
      intro i
      have := dj_iff.mp hd i
      rw [Nat.testBit_xor, Nat.testBit_or]
      cases h1 : a.testBit i <;> cases h2 : b.testBit i <;> simp_all
    rcases low_or (show a < 128 by omega) (show b < 128 by omega) (by omega) (by omega) hd with hp | hp
    · have := Bt_part hK hr hk hs0 hs (sb_or ha hb) hp
      rw [(pts_ok _ (by omega) _ hp).2.2.1, hx] at this; exact this
    · have := Bt_part hK hr hk hs0 hs (sb_or ha hb) hp
      rw [(pts_ok _ (by omega) _ hp).2.2.1, hy] at this; omega
  · rintro c x len s ⟨r, t, j, hr, ht, rfl, hk, hj, rfl, rfl⟩ hsx hs
    have hfr := frm_lt ht hj
    have hrR : r + 1 ≤ K 0 0 := by
      unfold stx at hj
      have := hK.1.1
      by_cases e : r = 0
      · omega
      · rw [if_neg e] at hj
        by_cases e2 : r < K 0 0
        · omega
        · rw [if_neg e2] at hj; exact absurd hj List.not_mem_nil
    have hw : frm K r t j < wid K (r + 1) := by unfold wid; rw [if_neg (by omega)]; exact hfr
    rw [RK_eq hK hrR hw] at hsx
    rw [RK_eq hK hr ht, BK_eq hK ht (by omega), BK_eq hK hw (by omega)]
    exact Bt_step hK hr hk (by omega) (sb_lt hsx (Rt_lt K _ _)) hj hsx
  · rintro c x len ⟨r, t, j, hr, ht, rfl, hk, hj, rfl, rfl⟩
    refine ⟨(lnx_le hK.1.2.2.2.2.2.2.1 r j).1, ?_⟩
    have hfr := frm_lt ht hj
    have := wid_le hK r
    show (24 * (r + 1) + frm K r t j) / 24 = (24 * r + t) / 24 + 1
    omega
  · intro c s hs hsr
    obtain ⟨r, t, hr, ht, rfl⟩ := RK_cell hs hsr
    rw [RK_eq hK hr ht] at hsr
    have hk := Rt_rock hK hr hs hsr
    have hP := sb_lt hsr (Rt_lt K r t)
    rw [chK_eq hK ht]
    rcases Bt_ch hK hr hk (by omega) hP hsr with ⟨_, h⟩ | ⟨_, p, hp, h⟩ | ⟨_, x, hx, hfin, h⟩
    · rw [h]; exact Or.inl rfl
    · obtain ⟨p1, p2, p3, p4, _⟩ := pts_ok s (by omega) p hp
      refine Or.inr (Or.inl ?_)
      rw [h, if_neg (show ¬ (1 : Nat) = 2 by decide)]
      refine ⟨rfl, by show p ≠ 0; omega, by show p ≠ s; omega, p4, ?_⟩
      show BK K (24 * r + t) s = BK K (24 * r + t) p + BK K (24 * r + t) (s ^^^ p)
      rw [← p3, BK_eq hK ht (by omega), BK_eq hK ht p1, BK_eq hK ht (by omega), h]
    · refine Or.inr (Or.inr ?_)
      have hfr := frm_lt ht hx
      have hrR : r + 1 ≤ K 0 0 := by
        unfold stx at hx
        have := hK.1.1
        by_cases e : r = 0
        · omega
        · rw [if_neg e] at hx
          by_cases e2 : r < K 0 0
          · omega
          · rw [if_neg e2] at hx; exact absurd hx List.not_mem_nil
      have hw : frm K r t x < wid K (r + 1) := by unfold wid; rw [if_neg (by omega)]; exact hfr
      rw [h, if_pos rfl]
      refine ⟨rfl, ⟨r, t, x, hr, ht, rfl, hk, hx, rfl, rfl⟩, ?_, ?_⟩
      · show sb s (RK K (24 * (r + 1) + frm K r t x))
        rw [RK_eq hK hrR hw]
        exact (Bt_ok hK (by omega) hP).1.mp hfin
      · show BK K (24 * r + t) s = BK K (24 * (r + 1) + frm K r t x) s + lnx K r x * (K 2 0 + amtK K s)
        rw [BK_eq hK ht (by omega), BK_eq hK hw (by omega), h]
end DPK
