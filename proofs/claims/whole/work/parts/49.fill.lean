/-! the class's choose, fillCell, fill -/
section FIL
def tabP (S : Nat → Nat → Int32) (K : Nat → Nat → Nat) : Prop := (∀ r t, r ≤ K 0 0 → t < wid K r → S 6 (24 * r + t) = nI (pbK K r t)) ∧ ∀ s, 0 < s → s < 2 ^ K 5 0 → S 8 s = nI (10 * (K 2 0 + amtK K s)) ∧ S 9 s = nI ((10 + K 3 0) * (K 2 0 + amtK K s))
def tabR (S : Nat → Nat → Int32) (K : Nat → Nat → Nat) (r t : Nat) : Prop := S 5 (24 * r + t) = nI (Rt K r t) ∧ ∀ s, 0 < s → sb s (Rt K r t) → S 7 (128 * (24 * r + t) + s) = nI (Bt K r t s).1
theorem wf7 {K : Nat → Nat → Nat} (hK : wfK K) : K 5 0 ≤ 7 := hK.1.2.2.2.2.2.2.2.2
theorem amt_le {K : Nat → Nat → Nat} (hK : wfK K) (s : Nat) : amtK K s ≤ 693 := by
  have := amtN_le (b := s) (fun p hp => (hK.2.1 p hp).2.2.2.2.1) (K 5 0) (Nat.le_refl _)
  have := wf7 hK
  unfold amtK; omega
theorem Rt_128 {K : Nat → Nat → Nat} (hK : wfK K) (r t : Nat) : Rt K r t < 128 := Nat.lt_of_lt_of_le (Rt_lt K r t) (pw_le (wf7 hK)).2
theorem stx_lt {K : Nat → Nat → Nat} (hK : wfK K) {r x : Nat} (hr : r ≤ K 0 0) (hx : x ∈ stx K r) : r < K 0 0 := by
  unfold stx at hx
  have := hK.1.1
  by_cases e : r = 0
  · omega
  · rw [if_neg e] at hx
    by_cases e2 : r < K 0 0
    · exact e2
    · rw [if_neg e2] at hx; exact absurd hx List.not_mem_nil
theorem sid_lt (r x : Nat) : sid r x < 3 := by
  unfold sid
  split
  · decide
  · split
    · decide
    · split <;> decide
theorem stx_sid {K : Nat → Nat → Nat} {r x : Nat} (hx : x ∈ stx K r) : (sid r x = 0 → lnx K r x = 10) ∧ (sid r x ≠ 0 → lnx K r x = 10 + K 3 0) := by
  unfold stx at hx
  unfold sid lnx
  by_cases e : r = 0
  · rw [if_pos e, if_pos (Or.inl e)]; exact ⟨fun _ => rfl, fun q => absurd rfl q⟩
  · rw [if_neg e] at hx ⊢
    by_cases e2 : r < K 0 0
    · rw [if_pos e2] at hx
      have hx' : x = 0 ∨ x = 1 ∨ x = 2 := by simpa using hx
      rcases hx' with rfl | rfl | rfl
      · simp [e]
      · simp [e]
      · simp [e]
    · rw [if_neg e2] at hx; exact absurd hx List.not_mem_nil
theorem e_try {S : Nat → Nat → Int32} {K : Nat → Nat → Nat} (hK : wfK K) {r t s x : Nat} {a : zV} (hr : r ≤ K 0 0) (ht : t < wid K r) (h0 : 0 < s) (hP : s < 2 ^ K 5 0) (hT : tabP S K) (hx : x ∈ stx K r) (hR : tabR S K (r + 1) (frm K r t x)) (ha : a.1 ≤ 1000000000) : f_X0_tryStep (chS S K r t a) (nI (24 * (r + 1) + frm K r t x)) (nI (sid r x)) (nI s) = some (chS S K r t (stf (fun x => (Bt K (r + 1) (frm K r t x) s).1) (fun x => lnx K r x * (K 2 0 + amtK K s)) a x)) := by
  have hpw := pw_le (wf7 hK)
  have hfr := frm_lt ht hx
  have hrR := stx_lt hK hr hx
  have h9 := hK.1.2.1
  have h24 := hK.1.2.2.2.1
  have hX := Rt_128 hK (r + 1) (frm K r t x)
  obtain ⟨hb1, hb2⟩ := Bt_ok hK (r := r + 1) (t := frm K r t x) h0 hP
  have hl := lnx_le hK.1.2.2.2.2.2.2.1 r x
  have ham := amt_le hK s
  have hbs := hK.1.2.2.2.2.2.1
  have hm : lnx K r x * (K 2 0 + amtK K s) ≤ 50 * 792 := Nat.mul_le_mul hl.2 (by omega)
  obtain ⟨hs0, hs1⟩ := stx_sid hx
  rw [e_tryStep (X := Rt K (r + 1) (frm K r t x)) (v := (Bt K (r + 1) (frm K r t x) s).1) (l := lnx K r x * (K 2 0 + amtK K s)) (by omega) (by omega) hX hR.1 ha (sid_lt r x) (fun q => ⟨hb2 q, hR.2 s h0 q⟩) ⟨by omega, fun q => by rw [hs0 q]; exact (hT.2 s h0 hP).1, fun q => by rw [hs1 q]; exact (hT.2 s h0 hP).2⟩]
  unfold stf gf
  by_cases e : s &&& Rt K (r + 1) (frm K r t x) = s
  · rw [if_pos e, if_pos (decide_eq_true (hb1.mpr e))]
  · rw [if_neg e, if_neg (fun q => e (hb1.mp (of_decide_eq_true q)))]
theorem chS_zero {S : Nat → Nat → Int32} {K : Nat → Nat → Nat} {r t : Nat} : zst (chS S K r t (1000000000, 0, 0)) 1 0 (nI 0) = chS S K r t (0, 0, 0) := by
  have e1 : inkI (0, 0, 0) = nI 0 := if_neg (by decide)
  have e2 : parI (0, 0, 0) = nI 0 := if_neg (by decide)
  have e3 : froI K r t (0, 0, 0) = -1 := if_neg (by decide)
  have e4 : sidI r (0, 0, 0) = -1 := if_neg (by decide)
  have e6 : parI (1000000000, 0, 0) = nI 0 := if_neg (show ¬ (0 : Nat) = 1 by decide)
  have e7 : froI K r t (1000000000, 0, 0) = -1 := if_neg (show ¬ (0 : Nat) = 2 by decide)
  have e8 : sidI r (1000000000, 0, 0) = -1 := if_neg (show ¬ (0 : Nat) = 2 by decide)
  unfold chS
  rw [e1, e2, e3, e4, e6, e7, e8]
  funext k j
  by_cases h1 : k = 1 <;> by_cases h2 : k = 2 <;> by_cases h3 : k = 3 <;> by_cases h4 : k = 4 <;> by_cases h5 : j = 0 <;> simp_all [zst, upd]
theorem chS_start {S : Nat → Nat → Int32} {K : Nat → Nat → Nat} {r t : Nat} : zst (zst (zst (zst S 1 0 1073741824) 2 0 0) 3 0 (-1)) 4 0 (-1) = chS S K r t (1000000000, 0, 0) := by
  have e5 : inkI (1000000000, 0, 0) = nI 1073741824 := if_pos rfl
  have e6 : parI (1000000000, 0, 0) = nI 0 := if_neg (show ¬ (0 : Nat) = 1 by decide)
  have e7 : froI K r t (1000000000, 0, 0) = -1 := if_neg (show ¬ (0 : Nat) = 2 by decide)
  have e8 : sidI r (1000000000, 0, 0) = -1 := if_neg (show ¬ (0 : Nat) = 2 by decide)
  unfold chS
  rw [e5, e6, e7, e8]; rfl
theorem stf_le {w l : Nat → Nat} {a : zV} (ha : a.1 ≤ 1000000000) (xs : List Nat) : (xs.foldl (stf w l) a).1 ≤ 1000000000 := Nat.le_trans (gf_le _ _).1 ha
theorem e_choose {S S1 : Nat → Nat → Int32} {K : Nat → Nat → Nat} (hK : wfK K) (hC : repC S1 K) {r t s : Nat} (hr : r ≤ K 0 0) (ht : t < wid K r) (h0 : 0 < s) (hf : sb s (Rt K r t)) (hT : tabP S K) (hO : r < K 0 0 → ∀ t', t' < K 1 0 → tabR S K (r + 1) t') (hW : ∀ p, 0 < p → p < s → sb p s → S 7 (128 * (24 * r + t) + p) = nI (Bt K r t p).1) : f_X0_choose S S1 (nI r) (nI t) (nI s) = some (chS S K r t (Bt K r t s)) := by
  have hpw := pw_le (wf7 hK)
  have hP := sb_lt hf (Rt_lt K r t)
  have hk := Rt_rock hK hr (by omega) hf
  have hwd := wid_le hK r
  have h9 := hK.1.2.1
  have hfix := Bt_fix hK hr hk h0 hP
  unfold calc1 at hfix
  have hpb : pbK K r t < 128 := Nat.lt_of_lt_of_le (pbK_lt K r t) hpw.2
  unfold f_X0_choose
  rw [e_cellOf, Option.bind_some]
  simp only [zlet_eq]
  rw [chS_start (K := K) (r := r) (t := t), zix_nI (by omega) (by decide), nI_clamp (by omega), chS_ne (k := 6) (by omega), hT.1 r t hr ht]
  by_cases e : s = pbK K r t
  · rw [if_pos e] at hfix
    rw [if_pos (by rw [e]), hfix, l_0, chS_zero]
  · rw [if_neg e] at hfix
    rw [if_neg (fun q => e ((nI_eq (by omega) (by omega)).mp q)), e_tryParts (row := Bt K r t) (by omega) (by omega) h0 (fun p p0 ps psb => ⟨(Bt_ok hK p0 (by omega)).2 (sb_tr psb hf), hW p p0 ps psb⟩), Option.bind_some]
    have ha := (ptf_inv (row := Bt K r t) (s := s) (xs := pts s)).1
    generalize (pts s).foldl (ptf (Bt K r t) s) (1000000000, 0, 0) = a at *
    have hN1 := hK.1.2.2.1
    have hR1 := hK.1.1
    by_cases er : r = 0
    · subst er
      rw [if_pos nI_0]
      have hst : stx K 0 = List.range (K 1 0) := by unfold stx; rw [if_pos rfl]
      have hl : f_X0_choose_L61 S1 (nI s) zfuel (0, chS S K 0 t a) = some (chS S K 0 t (Bt K 0 t s)) := by
        refine zfor0 (fun i => (nI i, chS S K 0 t ((List.range i).foldl (stf (fun x => (Bt K (0 + 1) (frm K 0 t x) s).1) (fun x => lnx K 0 x * (K 2 0 + amtK K s))) a))) (K 1 0) _ (by omega) (fun i hi rec => ?_) (fun rec => ?_)
        · show f_X0_choose_L61b S1 (nI s) rec (nI i, _) = rec (nI (i + 1), _)
          have hx : i ∈ stx K 0 := by rw [hst]; exact List.mem_range.mpr hi
          have hfi : frm K 0 t i = i := by unfold frm; rw [if_pos rfl]
          have hsd : sid 0 i = 0 := by unfold sid; rw [if_pos rfl]
          have ht1 := e_try (S := S) hK hr ht h0 hP hT hx (by rw [hfi]; exact hO (by omega) i hi) (stf_le (w := fun x => (Bt K (0 + 1) (frm K 0 t x) s).1) (l := fun x => lnx K 0 x * (K 2 0 + amtK K s)) ha (List.range i))
          rw [hfi, hsd] at ht1
          unfold f_X0_choose_L61b
          dsimp only
          rw [hC.1 1 (by omega), if_neg (nI_ge hi (by omega)), l_1, e_cellOf, Option.bind_some, l_0, ht1, Option.bind_some, nI_add, List.range_succ, List.foldl_append]
          rfl
        · show f_X0_choose_L61b S1 (nI s) rec (nI (K 1 0), _) = _
          unfold f_X0_choose_L61b
          dsimp only
          rw [hC.1 1 (by omega), if_pos (nI_le (Nat.le_refl _) (by omega)), hfix, hst]
      rw [hl]; rfl
    · rw [if_neg (nI_ne0 (by omega) (by omega)), hC.1 0 (by omega)]
      by_cases e2 : r < K 0 0
      · rw [if_neg (nI_ge e2 (by omega))]
        have hst : stx K r = [0, 1, 2] := by unfold stx; rw [if_neg er, if_pos e2]
        have htN : t < K 1 0 := by omega
        have hf0 : frm K r t 0 = t := by unfold frm nb; rw [if_neg er]; rfl
        have hf1 : frm K r t 1 = nb (K 1 0) t 1 := by unfold frm; rw [if_neg er]
        have hf2 : frm K r t 2 = nb (K 1 0) t 2 := by unfold frm; rw [if_neg er]
        have hs0 : sid r 0 = 0 := by unfold sid; rw [if_neg er]; rfl
        have hs1 : sid r 1 = 2 := by unfold sid; rw [if_neg er]; rfl
        have hs2 : sid r 2 = 1 := by unfold sid; rw [if_neg er]; rfl
        have ha1 := stf_le (w := fun x => (Bt K (r + 1) (frm K r t x) s).1) (l := fun x => lnx K r x * (K 2 0 + amtK K s)) ha [0]
        have ha2 := stf_le (w := fun x => (Bt K (r + 1) (frm K r t x) s).1) (l := fun x => lnx K r x * (K 2 0 + amtK K s)) ha [0, 1]
        have t0 := e_try (S := S) (x := 0) hK hr ht h0 hP hT (by rw [hst]; simp) (by rw [hf0]; exact hO e2 t htN) ha
        have t1 := e_try (S := S) (x := 1) hK hr ht h0 hP hT (by rw [hst]; simp) (by rw [hf1]; exact hO e2 _ (nb_lt 1 htN)) ha1
        have t2 := e_try (S := S) (x := 2) hK hr ht h0 hP hT (by rw [hst]; simp) (by rw [hf2]; exact hO e2 _ (nb_lt 2 htN)) ha2
        rw [hf0, hs0] at t0
        rw [hf1, hs1] at t1
        rw [hf2, hs2] at t2
        rw [l_1, nI_add, e_cellOf, Option.bind_some, l_0, t0, Option.bind_some, e_turnBeside hC (by omega) (by omega) htN (by omega), Option.bind_some, e_cellOf, Option.bind_some, l_2]
        refine (congrArg (fun o => Option.bind o _) t1).trans ?_
        rw [Option.bind_some, e_turnBeside hC (by omega) (by omega) htN (by omega), Option.bind_some, e_cellOf, Option.bind_some]
        refine (congrArg (fun o => Option.bind o _) t2).trans ?_
        rw [Option.bind_some, hfix, hst]
        rfl
      · rw [if_pos (nI_le (by omega) (by omega))]
        have hst : stx K r = [] := by unfold stx; rw [if_neg er, if_neg e2]
        rw [hfix, hst]; rfl
end FIL
