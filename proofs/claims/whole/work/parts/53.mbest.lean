/-! the reference's laysBest -/
section MBE
def chosI (a : zV) : Int32 := if a.2.1 = 1 then -(nI a.2.2) else if a.2.1 = 2 then nI (a.2.2 + 1) else if a.1 = 1000000000 then -1 else 0
def bsM (M : Nat → Nat → Int32) (j : Nat) (a : zV) : Nat → Nat → Int32 := zst (zst M 28 j (nI a.1)) 29 j (chosI a)
theorem chos_1 {v p : Nat} : chosI (v, 1, p) = -nI p := if_pos rfl
theorem chos_2 {v x : Nat} : chosI (v, 2, x) = nI (x + 1) := by unfold chosI; rw [if_neg (show ¬ (2 : Nat) = 1 by decide), if_pos rfl]
theorem bsM_ne {M : Nat → Nat → Int32} {j : Nat} {a : zV} {k : Nat} (h : k ≠ 28) (h2 : k ≠ 29) : bsM M j a k = M k := by
  unfold bsM
  rw [zst_ne _ h2, zst_ne _ h]
theorem bsM_28 {M : Nat → Nat → Int32} {j : Nat} {a : zV} : bsM M j a 28 j = nI a.1 ∧ bsM M j a 29 j = chosI a ∧ ∀ i, i ≠ j → bsM M j a 28 i = M 28 i ∧ bsM M j a 29 i = M 29 i := by
  refine ⟨by simp [bsM, zst, upd], by simp [bsM, zst, upd], fun i h => ⟨by simp [bsM, zst, upd, h], by simp [bsM, zst, upd, h]⟩⟩
theorem bsM_up {M : Nat → Nat → Int32} {j : Nat} {a b : zV} : zst (zst (bsM M j a) 28 j (nI b.1)) 29 j (chosI b) = bsM M j b := by
  unfold bsM
  funext k i
  by_cases h1 : k = 28 <;> by_cases h2 : k = 29 <;> by_cases h3 : i = j <;> simp_all [zst, upd]
theorem repM_fr {M M' : Nat → Nat → Int32} {K : Nat → Nat → Nat} (h : ∀ k, k ≤ 10 → M' k = M k) (hM : repM M K) : repM M' K := by
  unfold repM
  rw [h 1 (by omega), h 2 (by omega), h 3 (by omega), h 4 (by omega), h 5 (by omega), h 9 (by omega), h 10 (by omega)]
  refine ⟨hM.1, fun k p h1 h2 => ?_, hM.2.2⟩
  rw [h k (by omega)]; exact hM.2.1 k p h1 h2
theorem repM_bs {M : Nat → Nat → Int32} {K : Nat → Nat → Nat} {j : Nat} {a : zV} (hM : repM M K) : repM (bsM M j a) K := repM_fr (fun k hk => bsM_ne (by omega) (by omega)) hM
theorem e_bestOf {M : Nat → Nat → Int32} {c s : Nat} (h : 128 * c + s < 30720) : f_X7_bestOf M (nI c) (nI s) = some (M 28 (128 * c + s)) := by
  unfold f_X7_bestOf
  rw [l_128, pk_mul, nI_add, zix_nI h (by decide), nI_clamp (by omega)]
theorem e_offers {M : Nat → Nat → Int32} {j v k x : Nat} {a : zV} {how : Int32} (hj : j < 30720) (ha : a.1 ≤ 1000000000) (hv : v < 2 ^ 31) (hh : chosI (v, k, x) = how) : f_X7_offers (bsM M j a) (nI j) (nI v) how = some (bsM M j (ofr a v k x)) := by
  unfold f_X7_offers
  rw [zix_nI hj (by decide), nI_clamp (by omega), bsM_28.1]
  unfold ofr
  by_cases e : v < a.1
  · rw [if_neg (nI_ge e (by omega)), if_pos e, zix_nI hj (by decide), zlet_eq, zix_nI hj (by decide), zlet_eq, ← hh]
    exact congrArg some (bsM_up (b := (v, k, x)))
  · rw [if_pos (nI_le (by omega) (by omega)), if_neg e]
theorem e_offersFrom {M : Nat → Nat → Int32} {K : Nat → Nat → Nat} (hK : wfK K) (hM : repM M K) {r t s x j : Nat} {a : zV} (hr : r ≤ K 0 0) (ht : t < wid K r) (hP : s < 2 ^ K 5 0) (h30 : M 30 s = nI (amtK K s)) (hx : x ∈ stx K r) (hj : j < 30720) (hne : 128 * (24 * (r + 1) + frm K r t x) + s ≠ j) (hw : M 28 (128 * (24 * (r + 1) + frm K r t x) + s) = nI (Bt K (r + 1) (frm K r t x) s).1) (hle : (Bt K (r + 1) (frm K r t x) s).1 ≤ 1000000000) (ha : a.1 ≤ 1000000000) : f_X7_offersFrom (bsM M j a) (nI j) (nI s) (nI (r + 1)) (nI (frm K r t x)) (nI (sid r x)) (nI (x + 1)) = some (bsM M j (stf (fun x => (Bt K (r + 1) (frm K r t x) s).1) (fun x => lnx K r x * (K 2 0 + amtK K s)) a x)) := by
  have hpw := pw_le (wf7 hK)
  have hfr := frm_lt ht hx
  have hrR := stx_lt hK hr hx
  have h9 := hK.1.2.1
  have h24 := hK.1.2.2.2.1
  have hl := lnx_le hK.1.2.2.2.2.2.2.1 r x
  have ham := amt_le hK s
  have hbs := hK.1.2.2.2.2.2.1
  have hm : lnx K r x * (K 2 0 + amtK K s) ≤ 50 * 792 := Nat.mul_le_mul hl.2 (by omega)
  have hlen : (if r + 1 = 1 ∨ sid r x = 0 then 10 else 10 + K 3 0) = lnx K r x := by
    obtain ⟨q1, q2⟩ := stx_sid hx
    by_cases e : sid r x = 0
    · rw [if_pos (Or.inr e), q1 e]
    · have : r ≠ 0 := fun q => e (by unfold sid; rw [if_pos q])
      rw [if_neg (by omega), q2 e]
  unfold f_X7_offersFrom
  rw [e_cellM, Option.bind_some, e_bestOf (by omega), Option.bind_some, (bsM_28.2.2 _ hne).1, hw, l_far]
  unfold stf gf
  by_cases e : (Bt K (r + 1) (frm K r t x) s).1 < 1000000000
  · rw [if_neg (nI_ge e (by omega)), if_pos (decide_eq_true e), e_lengthOfM (repM_bs hM) (by omega) (sid_lt r x), Option.bind_some, hlen, zix_nI (by omega) (by decide), bsM_ne (k := 3) (by omega) (by omega), bsM_ne (k := 30) (by omega) (by omega), nI_clamp (by omega), hM.1.2.2.1, h30, nI_add, pk_mul, nI_add, e_offers (v := (Bt K (r + 1) (frm K r t x) s).1 + lnx K r x * (K 2 0 + amtK K s)) (how := nI (x + 1)) (k := 2) (x := x) hj ha (by omega) chos_2]
    rfl
  · rw [if_pos (nI_le (by omega) (by omega)), if_neg (fun q => e (of_decide_eq_true q))]
theorem Bt_rock {K : Nat → Nat → Nat} {r t : Nat} (hr : r ≤ K 0 0) (hk : K 9 (24 * r + t) ≠ 0) (s : Nat) : Bt K r t s = (1000000000, 0, 0) := by
  unfold Bt
  by_cases e : r = K 0 0
  · rw [e, Nat.sub_self]
    show rowOf K (K 0 0) t (fun _ _ => (1000000000, 0, 0)) s = _
    unfold rowOf
    rw [if_pos (by rw [← e]; exact hk)]
  · obtain ⟨d, hd⟩ : ∃ d, K 0 0 - r = d + 1 := ⟨K 0 0 - r - 1, by omega⟩
    rw [hd]
    show rowOf K (K 0 0 - (d + 1)) t (tbl K d) s = _
    rw [show K 0 0 - (d + 1) = r by omega]
    unfold rowOf
    rw [if_pos hk]
theorem Bt_le {K : Nat → Nat → Nat} (hK : wfK K) {r t s : Nat} (hr : r ≤ K 0 0) (h0 : 0 < s) (hP : s < 2 ^ K 5 0) : (Bt K r t s).1 ≤ 1000000000 := by
  by_cases hk : K 9 (24 * r + t) = 0
  · rw [Bt_fix hK hr hk h0 hP]
    unfold calc1
    by_cases e : s = pbK K r t
    · rw [if_pos e]; exact Nat.zero_le _
    · rw [if_neg e]; exact stf_le ptf_inv.1 _
  · rw [Bt_rock hr hk]; exact Nat.le_refl _
theorem fil_succ {P : Nat → Bool} {α : Type} (f : α → Nat → α) (a : α) (i : Nat) : ((List.range (i + 1)).filter P).foldl f a = if P i = true then f (((List.range i).filter P).foldl f a) i else ((List.range i).filter P).foldl f a := by
  rw [List.range_succ, List.filter_append, List.foldl_append]
  by_cases h : P i = true
  · rw [if_pos h, List.filter_cons_of_pos h]; rfl
  · rw [if_neg h, List.filter_cons_of_neg h]; rfl
theorem e_partsM {M : Nat → Nat → Int32} {c s : Nat} {row : Nat → zV} {v1 v2 : Int32} (hc : c < 240) (hs : s < 128) (h0 : 0 < s) (hp : ∀ p, 0 < p → p < s → (row p).1 ≤ 1000000000 ∧ M 28 (128 * c + p) = nI (row p).1) : f_X7_laysBest_L101 v1 v2 (nI s) (nI c) (nI (128 * c + s)) (nI (lowb s)) zfuel (nI (lowb s), bsM M (128 * c + s) (1000000000, 0, 0)) = some (bsM M (128 * c + s) ((pts s).foldl (ptf row s) (1000000000, 0, 0))) := by
  obtain ⟨l1, l2, l3, l4, l5⟩ := low_none s hs h0
  have hst : (nI (lowb s), bsM M (128 * c + s) (1000000000, 0, 0)) = (nI (lowb s + 0), bsM M (128 * c + s) (((List.range (lowb s + 0)).filter (fun p => p &&& s = p ∧ p &&& lowb s ≠ 0)).foldl (ptf row s) (1000000000, 0, 0))) := by
    rw [Nat.add_zero, l1]; rfl
  rw [hst]
  refine zfor0 (fun i => (nI (lowb s + i), bsM M (128 * c + s) (((List.range (lowb s + i)).filter (fun p => p &&& s = p ∧ p &&& lowb s ≠ 0)).foldl (ptf row s) (1000000000, 0, 0)))) (s - lowb s) _ (by omega) (fun i hi rec => ?_) (fun rec => ?_)
  · show f_X7_laysBest_L101b v1 v2 (nI s) (nI c) (nI (128 * c + s)) (nI (lowb s)) rec (nI (lowb s + i), _) = rec (nI (lowb s + (i + 1)), _)
    rw [show lowb s + (i + 1) = lowb s + i + 1 by omega, fil_succ]
    have hps : lowb s + i < s := by omega
    have hp0 : 0 < lowb s + i := by omega
    obtain ⟨hi1, hi2⟩ := ptf_inv (row := row) (s := s) (xs := (List.range (lowb s + i)).filter (fun p => p &&& s = p ∧ p &&& lowb s ≠ 0))
    generalize ((List.range (lowb s + i)).filter (fun p => p &&& s = p ∧ p &&& lowb s ≠ 0)).foldl (ptf row s) (1000000000, 0, 0) = a at *
    generalize lowb s + i = p at *
    unfold f_X7_laysBest_L101b f_X7_laysBest_J128 f_X7_laysBest_J129 f_X7_laysBest_J192
    dsimp only
    rw [if_neg (nI_ge hps (by omega)), nI_1]
    by_cases e1 : p &&& s = p
    · rw [if_pos ((e_not (by omega) hs).mpr e1), nx_and]
      have hlt : p &&& lowb s < 2 ^ 31 := Nat.lt_of_le_of_lt Nat.and_le_left (by omega)
      by_cases e2 : p &&& lowb s = 0
      · rw [if_pos ((nq0 hlt).mpr e2), if_pos rfl, if_neg (by simp [e2])]
      · rw [if_neg (fun q => e2 ((nq0 hlt).mp q)), if_neg (by decide), if_pos (by simp [e1, e2])]
        obtain ⟨q1, q2⟩ := hp p hp0 hps
        obtain ⟨q3, q4⟩ := hp (s - p) (by omega) (by omega)
        rw [pk_sub (by omega), e_bestOf (by omega), e_bestOf (by omega), Option.bind_some, (bsM_28.2.2 _ (by omega)).1, (bsM_28.2.2 _ (by omega)).1, q2, q4, l_far]
        unfold ptf gf
        by_cases e3 : (row p).1 < 1000000000
        · rw [if_neg (nI_ge e3 (by omega)), Option.bind_some]
          by_cases e4 : (row (s - p)).1 < 1000000000
          · rw [if_neg (nI_ge e4 (by omega)), Option.bind_some, Option.bind_some, nI_add, if_pos (by simp [e3, e4]), e_offers (v := (row p).1 + (row (s - p)).1) (how := -nI p) (k := 1) (x := p) (by omega) hi1 (by omega) chos_1, Option.bind_some]
          · rw [if_pos (nI_le (by omega) (by omega)), if_neg (by simp; omega)]
        · rw [if_pos (nI_le (by omega) (by omega)), if_neg (by simp; omega)]
    · rw [if_neg (fun q => e1 ((e_not (by omega) hs).mp q)), if_pos rfl, if_neg (by simp [e1])]
  · show f_X7_laysBest_L101b v1 v2 (nI s) (nI c) (nI (128 * c + s)) (nI (lowb s)) rec (nI (lowb s + (s - lowb s)), _) = _
    unfold f_X7_laysBest_L101b
    dsimp only
    rw [show lowb s + (s - lowb s) = s by omega, if_pos (nI_le (Nat.le_refl _) (by omega))]
    rfl
theorem e_arL0 {A : Nat → Nat → Int32} {K : Nat → Nat → Nat} (hA : repM A K) (hN : 1 ≤ K 1 0) (hN2 : K 1 0 ≤ 24) {t : Nat} (ht : t < K 1 0) : f_X7_around A (nI t + -1) = some (nI (nb (K 1 0) t 1)) := by
  have := e_targetTurn hA (r := 2) (s := 1) (by omega) (by omega) (by omega) ht (by omega)
  unfold f_X7_targetTurn f_X7_targetTurn_J30 at this
  rw [if_neg (by decide), if_pos (by decide), if_neg (by decide)] at this
  cases h : f_X7_around A (nI t + -1) with
  | none => rw [h] at this; cases this
  | some z => rw [h] at this; exact this
theorem e_arL {A : Nat → Nat → Int32} {K : Nat → Nat → Nat} (hA : repM A K) (hN : 1 ≤ K 1 0) (hN2 : K 1 0 ≤ 24) {t : Nat} (ht : t < K 1 0) : f_X7_around A (nI t - 1) = some (nI (nb (K 1 0) t 1)) := by
  rw [Int32.sub_eq_add_neg]; exact e_arL0 hA hN hN2 ht
theorem e_arR {A : Nat → Nat → Int32} {K : Nat → Nat → Nat} (hA : repM A K) (hN : 1 ≤ K 1 0) (hN2 : K 1 0 ≤ 24) {t : Nat} (ht : t < K 1 0) : f_X7_around A (nI t + 1) = some (nI (nb (K 1 0) t 2)) := by
  have := e_targetTurn hA (r := 2) (s := 2) (by omega) (by omega) (by omega) ht (by omega)
  unfold f_X7_targetTurn f_X7_targetTurn_J30 at this
  rw [if_neg (by decide), if_neg (by decide), if_pos (by decide), if_neg (by decide)] at this
  cases h : f_X7_around A (nI t + 1) with
  | none => rw [h] at this; cases this
  | some z => rw [h] at this; exact this
theorem e_laysBest {M : Nat → Nat → Int32} {K : Nat → Nat → Nat} (hK : wfK K) (hM : repM M K) {r t s : Nat} (hr : r ≤ K 0 0) (ht : t < wid K r) (h0 : 0 < s) (hP : s < 2 ^ K 5 0) (h30 : M 30 s = nI (amtK K s)) (hO : r < K 0 0 → ∀ t', t' < K 1 0 → M 28 (128 * (24 * (r + 1) + t') + s) = nI (Bt K (r + 1) t' s).1) (hW : ∀ p, 0 < p → p < s → M 28 (128 * (24 * r + t) + p) = nI (Bt K r t p).1) : f_X7_laysBest M (nI r) (nI t) (nI s) = some (bsM M (128 * (24 * r + t) + s) (Bt K r t s)) := by
  have hpw := pw_le (wf7 hK)
  have hc := cellR hK hr ht
  have hwd := wid_le hK r
  have h9 := hK.1.2.1
  have hN1 := hK.1.2.2.1
  have hR1 := hK.1.1
  have hstart : zst (zst M 28 (128 * (24 * r + t) + s) 1000000000) 29 (128 * (24 * r + t) + s) (-1) = bsM M (128 * (24 * r + t) + s) (1000000000, 0, 0) := by
    have e : chosI (1000000000, 0, 0) = -1 := by unfold chosI; rw [if_neg (by decide), if_neg (by decide), if_pos rfl]
    unfold bsM; rw [e]; rfl
  unfold f_X7_laysBest
  rw [e_cellM, Option.bind_some, zlet_eq, l_128, pk_mul, nI_add, zix_nI (by omega) (by decide), zlet_eq, zix_nI (by omega) (by decide), zlet_eq, hstart]
  have body : K 9 (24 * r + t) = 0 → f_X7_laysBest_J49 (bsM M (128 * (24 * r + t) + s) (1000000000, 0, 0)) (nI r) (nI t) (nI s) (nI (24 * r + t)) (nI (128 * (24 * r + t) + s)) = some (bsM M (128 * (24 * r + t) + s) (Bt K r t s)) := by
    intro hk
    have hfix := Bt_fix hK hr hk h0 hP
    unfold calc1 at hfix
    have j91 : s ≠ pbK K r t → f_X7_laysBest_J91 (bsM M (128 * (24 * r + t) + s) (1000000000, 0, 0)) (nI r) (nI t) (nI s) (nI (24 * r + t)) (nI (128 * (24 * r + t) + s)) = some (bsM M (128 * (24 * r + t) + s) (Bt K r t s)) := by
      intro hpb
      rw [if_neg hpb] at hfix
      unfold f_X7_laysBest_J91
      rw [e_low (by omega), zlet_eq, e_partsM (row := Bt K r t) hc (by omega) h0 (fun p p0 ps => ⟨Bt_le hK hr p0 (by omega), hW p p0 ps⟩), Option.bind_some]
      have ha := (ptf_inv (row := Bt K r t) (s := s) (xs := pts s)).1
      generalize (pts s).foldl (ptf (Bt K r t) s) (1000000000, 0, 0) = a at *
      by_cases er : r = 0
      · subst er
        rw [if_pos nI_0]
        have hst : stx K 0 = List.range (K 1 0) := by unfold stx; rw [if_pos rfl]
        have hl : f_X7_laysBest_L205 (nI s) (nI (128 * (24 * 0 + t) + s)) zfuel (0, bsM M (128 * (24 * 0 + t) + s) a) = some (bsM M (128 * (24 * 0 + t) + s) (Bt K 0 t s)) := by
          refine zfor0 (fun i => (nI i, bsM M (128 * (24 * 0 + t) + s) ((List.range i).foldl (stf (fun x => (Bt K (0 + 1) (frm K 0 t x) s).1) (fun x => lnx K 0 x * (K 2 0 + amtK K s))) a))) (K 1 0) _ (by omega) (fun i hi rec => ?_) (fun rec => ?_)
          · show f_X7_laysBest_L205b (nI s) (nI (128 * (24 * 0 + t) + s)) rec (nI i, _) = rec (nI (i + 1), _)
            have hx : i ∈ stx K 0 := by rw [hst]; exact List.mem_range.mpr hi
            have hfi : frm K 0 t i = i := by unfold frm; rw [if_pos rfl]
            have hsd : sid 0 i = 0 := by unfold sid; rw [if_pos rfl]
            have ht1 := e_offersFrom (j := 128 * (24 * 0 + t) + s) hK hM hr ht hP h30 hx (by omega) (by rw [hfi]; omega) (by rw [hfi]; exact hO (by omega) i hi) (Bt_le hK (by omega) h0 hP) (stf_le (w := fun x => (Bt K (0 + 1) (frm K 0 t x) s).1) (l := fun x => lnx K 0 x * (K 2 0 + amtK K s)) ha (List.range i))
            rw [hfi, hsd] at ht1
            unfold f_X7_laysBest_L205b
            dsimp only
            rw [if_neg (show ¬ bsM M (128 * (24 * 0 + t) + s) _ 2 0 ≤ nI i by rw [bsM_ne (k := 2) (by omega) (by omega), hM.1.2.1]; exact nI_ge hi (by omega)), l_1, l_0, nI_add, Nat.add_comm 1 i]
            refine (congrArg (fun o => Option.bind o _) ht1).trans ?_
            rw [Option.bind_some, nI_add, List.range_succ, List.foldl_append]
            rfl
          · show f_X7_laysBest_L205b (nI s) (nI (128 * (24 * 0 + t) + s)) rec (nI (K 1 0), _) = _
            unfold f_X7_laysBest_L205b
            dsimp only
            rw [if_pos (show bsM M (128 * (24 * 0 + t) + s) _ 2 0 ≤ nI (K 1 0) by rw [bsM_ne (k := 2) (by omega) (by omega), hM.1.2.1]; exact nI_le (Nat.le_refl _) (by omega)), hfix, hst]
        rw [hl]; rfl
      · rw [if_neg (nI_ne0 (by omega) (by omega)), bsM_ne (k := 1) (by omega) (by omega), hM.1.1]
        by_cases e2 : r < K 0 0
        · rw [if_neg (nI_ge e2 (by omega))]
          have hst : stx K r = [0, 1, 2] := by unfold stx; rw [if_neg er, if_pos e2]
          have htN : t < K 1 0 := by omega
          have hf0 : frm K r t 0 = t := by unfold frm nb; rw [if_neg er]; rfl
          have hf1 : frm K r t 1 = nb (K 1 0) t 1 := by unfold frm; rw [if_neg er]
          have hf2 : frm K r t 2 = nb (K 1 0) t 2 := by unfold frm; rw [if_neg er]
          have hs0 : sid r 0 = 0 := by unfold sid; rw [if_neg er]; rfl
          have hs1 : sid r 1 = 2 := by unfold sid; rw [if_neg er]; rfl
          have hs2 : sid r 2 = 1 := by unfold sid; rw [if_neg er]; rfl
          have n1 := nb_lt 1 htN
          have n2 := nb_lt 2 htN
          have ha1 := stf_le (w := fun x => (Bt K (r + 1) (frm K r t x) s).1) (l := fun x => lnx K r x * (K 2 0 + amtK K s)) ha [0]
          have ha2 := stf_le (w := fun x => (Bt K (r + 1) (frm K r t x) s).1) (l := fun x => lnx K r x * (K 2 0 + amtK K s)) ha [0, 1]
          have t0 := e_offersFrom (x := 0) (j := 128 * (24 * r + t) + s) hK hM hr ht hP h30 (by rw [hst]; simp) (by omega) (by rw [hf0]; omega) (by rw [hf0]; exact hO e2 t htN) (Bt_le hK (by omega) h0 hP) ha
          have t1 := e_offersFrom (x := 1) (j := 128 * (24 * r + t) + s) hK hM hr ht hP h30 (by rw [hst]; simp) (by omega) (by rw [hf1]; omega) (by rw [hf1]; exact hO e2 _ n1) (Bt_le hK (by omega) h0 hP) ha1
          have t2 := e_offersFrom (x := 2) (j := 128 * (24 * r + t) + s) hK hM hr ht hP h30 (by rw [hst]; simp) (by omega) (by rw [hf2]; omega) (by rw [hf2]; exact hO e2 _ n2) (Bt_le hK (by omega) h0 hP) ha2
          rw [hf0, hs0] at t0
          rw [hf1, hs1] at t1
          rw [hf2, hs2] at t2
          rw [nI_1]
          refine (congrArg (fun o => Option.bind o _) t0).trans ?_
          rw [Option.bind_some, e_arL (repM_bs hM) (by omega) (by omega) htN, Option.bind_some]
          refine (congrArg (fun o => Option.bind o _) t1).trans ?_
          rw [Option.bind_some, e_arR (repM_bs hM) (by omega) (by omega) htN, Option.bind_some]
          refine (congrArg (fun o => Option.bind o _) t2).trans ?_
          rw [Option.bind_some, hfix, hst]
          rfl
        · rw [if_pos (nI_le (by omega) (by omega))]
          have hst : stx K r = [] := by unfold stx; rw [if_neg er, if_neg e2]
          rw [hfix, hst]; rfl
    unfold f_X7_laysBest_J49
    have hb : ∀ p, p < K 5 0 → K 6 p < 2 ^ 31 ∧ K 7 p < 2 ^ 31 := fun p hp => by have := hK.2.1 p hp; omega
    rw [e_placeAtM (repM_bs hM) (wf7 hK) hb (by omega) (by omega), Option.bind_some]
    by_cases er : r = 0
    · subst er
      have : s ≠ pbK K 0 t := by unfold pbK; rw [plc_src hK, if_neg (by omega)]; omega
      rw [if_pos (by decide)]; exact j91 this
    · rw [if_neg (nI_nle (by omega) (by omega))]
      have h7 := wf7 hK
      by_cases ep : plc K r t < K 5 0
      · have hpbe : pbK K r t = 2 ^ plc K r t := by unfold pbK; rw [if_pos ep]
        have hpl := pw_le (P := plc K r t) (by omega)
        rw [if_pos ep, if_neg (nI_pos (by omega)), sh1 _ (by omega)]
        by_cases e : s = pbK K r t
        · rw [if_pos (by rw [e, hpbe]), zix_nI (by omega) (by decide), zlet_eq, zix_nI (by omega) (by decide), zlet_eq, hfix, if_pos e]
          have e0 : chosI (0, 0, 0) = 0 := by decide
          have := bsM_up (M := M) (j := 128 * (24 * r + t) + s) (a := (1000000000, 0, 0)) (b := (0, 0, 0))
          rw [e0] at this
          exact congrArg some this
        · rw [if_neg (fun q => e (by rw [hpbe]; exact (nI_eq (by omega) (by omega)).mp q))]; exact j91 e
      · have hpbe : pbK K r t = 0 := by unfold pbK; rw [if_neg ep]
        rw [if_neg ep, if_pos (by decide)]; exact j91 (by omega)
  by_cases er : r = 0
  · have hk : K 9 (24 * r + t) = 0 := by
      have h1 := hK.2.2.2.1 (24 * r + t)
      have h2 := hK.2.2.2.2 (24 * r + t)
      have : wid K r = 1 := by unfold wid; rw [if_pos er]
      omega
    rw [if_pos (by rw [er]; decide)]; exact body hk
  · rw [if_neg (nI_nle (by omega) (by omega)), zix_nI hc (by decide), nI_clamp (by omega), bsM_ne (k := 10) (by omega) (by omega), hM.2.2 _ hc]
    have hk1 := hK.2.2.2.1 (24 * r + t)
    by_cases hk : K 9 (24 * r + t) = 0
    · rw [hk, if_pos nI_0]; exact body hk
    · rw [if_neg (nI_ne0 (by omega) (by omega)), Bt_rock hr hk]
end MBE
