/-! the straightened tree, of both -/
section SND
def sRow (K : Nat → Nat → Nat) (r : Nat) : Nat → Nat × zT → Nat × zT
  | 0, x => x
  | t + 1, x => if det K (sRow K r t x).2.1 (sRow K r t x).2.2 r t then (1, dB (sRow K r t x).2.1 r (nb (K 1 0) t ((sRow K r t x).2.2 (24 * r + t))) t, dW (sRow K r t x).2.2 r (nb (K 1 0) t ((sRow K r t x).2.2 (24 * r + t))) t) else sRow K r t x
def sGo (K : Nat → Nat → Nat) : Nat → Nat × zT → Nat × zT
  | 0, x => x
  | i + 1, x => sRow K (K 0 0 - i) (K 1 0) (sGo K i x)
def itr (K : Nat → Nat → Nat) (st : zT) : Nat → zT
  | 0 => st
  | j + 1 => (sGo K (K 0 0 - 2) (0, itr K st j)).2
def flg (K : Nat → Nat → Nat) (st : zT) (j : Nat) : Nat := (sGo K (K 0 0 - 2) (0, itr K st j)).1
def okF (K : Nat → Nat → Nat) (x y : Nat × zT) : Prop := wfT K y.2.1 y.2.2 ∧ ((y.1 = x.1 ∧ y.2 = x.2) ∨ (y.1 = 1 ∧ nbd y.2.2 < nbd x.2.2))
theorem okF_tr {K : Nat → Nat → Nat} {x y z : Nat × zT} (h1 : okF K x y) (h2 : okF K y z) : okF K x z := by
  refine ⟨h2.1, ?_⟩
  rcases h1.2 with ⟨a1, a2⟩ | ⟨a1, a2⟩
  · rcases h2.2 with ⟨b1, b2⟩ | ⟨b1, b2⟩
    · exact Or.inl ⟨by rw [b1, a1], by rw [b2, a2]⟩
    · exact Or.inr ⟨b1, by rw [← a2]; exact b2⟩
  · rcases h2.2 with ⟨b1, b2⟩ | ⟨b1, b2⟩
    · exact Or.inr ⟨by rw [b1, a1], by rw [b2]; exact a2⟩
    · exact Or.inr ⟨b1, by omega⟩
theorem sRow_ok {K : Nat → Nat → Nat} (hK : wfK K) {r : Nat} (hr3 : 3 ≤ r) (hr : r ≤ K 0 0) {x : Nat × zT} (hx : wfT K x.2.1 x.2.2) : ∀ t, t ≤ K 1 0 → okF K x (sRow K r t x) := by
  intro t
  induction t with
  | zero => intro _; exact ⟨hx, Or.inl ⟨rfl, rfl⟩⟩
  | succ t ih =>
    intro ht
    have h1 := ih (by omega)
    refine okF_tr h1 ?_
    rw [sRow]
    generalize sRow K r t x = y at *
    by_cases e : det K y.2.1 y.2.2 r t
    · rw [if_pos e]
      exact ⟨det_wf hK h1.1 hr3 hr (by omega) e, Or.inr ⟨rfl, det_nbd hK hr3 hr (by omega) e⟩⟩
    · rw [if_neg e]; exact ⟨h1.1, Or.inl ⟨rfl, rfl⟩⟩
theorem sGo_ok {K : Nat → Nat → Nat} (hK : wfK K) {x : Nat × zT} (hx : wfT K x.2.1 x.2.2) : ∀ i, i ≤ K 0 0 - 2 → okF K x (sGo K i x) := by
  intro i
  induction i with
  | zero => intro _; exact ⟨hx, Or.inl ⟨rfl, rfl⟩⟩
  | succ i ih =>
    intro hi
    have h1 := ih (by omega)
    exact okF_tr h1 (sRow_ok hK (by omega) (by omega) h1.1 (K 1 0) (Nat.le_refl _))
theorem itr_wf {K : Nat → Nat → Nat} (hK : wfK K) {st : zT} (h : wfT K st.1 st.2) : ∀ j, wfT K (itr K st j).1 (itr K st j).2 := by
  intro j
  induction j with
  | zero => exact h
  | succ j ih => exact (sGo_ok hK (x := (0, itr K st j)) ih _ (Nat.le_refl _)).1
theorem flg_sp {K : Nat → Nat → Nat} (hK : wfK K) {st : zT} (h : wfT K st.1 st.2) (j : Nat) : (flg K st j = 0 ∧ itr K st (j + 1) = itr K st j) ∨ (flg K st j = 1 ∧ nbd (itr K st (j + 1)).2 < nbd (itr K st j).2) := by
  have := (sGo_ok hK (x := (0, itr K st j)) (itr_wf hK h j) _ (Nat.le_refl _)).2
  rcases this with ⟨a1, a2⟩ | ⟨a1, a2⟩
  · exact Or.inl ⟨a1, a2⟩
  · exact Or.inr ⟨a1, a2⟩
theorem flg_st {K : Nat → Nat → Nat} (hK : wfK K) {st : zT} (h : wfT K st.1 st.2) {j : Nat} (h0 : flg K st j = 0) : ∀ m, j ≤ m → itr K st m = itr K st j ∧ flg K st m = 0 := by
  intro m
  induction m with
  | zero => intro q; rw [Nat.le_zero.mp q] at h0 ⊢; exact ⟨rfl, h0⟩
  | succ m ih =>
    intro q
    by_cases e : j = m + 1
    · rw [← e]; exact ⟨rfl, h0⟩
    · obtain ⟨i1, i2⟩ := ih (by omega)
      have e1 : itr K st (m + 1) = itr K st j := by
        rcases flg_sp hK h m with ⟨_, q2⟩ | ⟨q1, _⟩
        · rw [q2, i1]
        · omega
      refine ⟨e1, ?_⟩
      unfold flg at i2 ⊢
      rw [e1, ← i1]; exact i2
theorem flg_240 {K : Nat → Nat → Nat} (hK : wfK K) {st : zT} (h : wfT K st.1 st.2) : flg K st 240 = 0 := by
  have key : ∀ j, (∃ i, i < j ∧ flg K st i = 0) ∨ nbd (itr K st j).2 + j ≤ nbd st.2 := by
    intro j
    induction j with
    | zero => exact Or.inr (by show nbd (itr K st 0).2 + 0 ≤ nbd (itr K st 0).2; rw [Nat.add_zero]; exact Nat.le_refl _)
    | succ j ih =>
      rcases ih with ⟨i, hi, q⟩ | q
      · exact Or.inl ⟨i, by omega, q⟩
      · rcases flg_sp hK h j with ⟨q1, _⟩ | ⟨_, q2⟩
        · exact Or.inl ⟨j, by omega, q1⟩
        · exact Or.inr (by omega)
  have hb : nbd st.2 ≤ 240 := by
    have := su_le (f := fun c => if st.2 c = 1 ∨ st.2 c = 2 then 1 else 0) (B := 1) 240 (fun i _ => by split <;> omega)
    unfold nbd; omega
  rcases key 240 with ⟨i, hi, q⟩ | q
  · exact (flg_st hK h q 240 (by omega)).2
  · rcases flg_sp hK h 240 with ⟨q1, _⟩ | ⟨_, q2⟩
    · exact q1
    · omega
def tr3 (K : Nat → Nat → Nat) : Option zT := (tr2 K).bind fun st => some (itr K st 240)
theorem e_isDetour {S0 T : Nat → Nat → Int32} {K : Nat → Nat → Nat} {b w : Nat → Nat} (hK : wfK K) (hC : repC S0 K) (hT : treeC T b w) (hW : wfT K b w) {r t : Nat} (hr3 : 3 ≤ r) (hr : r ≤ K 0 0) (ht : t < K 1 0) : f_X2_isDetour S0 T (nI r) (nI t) = some (if det K b w r t then 1 else 0) := by
  have h9 := hK.1.2.1
  have h24 := hK.1.2.2.2.1
  have h6 := hK.1.2.2.1
  have h7 := wf7 hK
  have hpw := pw_le h7
  have hw4 := fun c hc => (hW.1 c hc).2
  have wc := hw4 (24 * r + t) (by omega)
  unfold f_X2_isDetour
  rw [e_cellOf, Option.bind_some, e_bendsAt hT wc (by omega), Option.bind_some]
  by_cases e1 : w (24 * r + t) = 1 ∨ w (24 * r + t) = 2
  · have ha := nb_lt (w (24 * r + t)) ht
    have wa := hw4 (24 * (r - 1) + nb (K 1 0) t (w (24 * r + t))) (by omega)
    have hbP := (hW.1 (24 * (r - 1) + t) (by omega)).1
    have hk := hK.2.2.2.1 (24 * (r - 1) + t)
    have hcm : cmc K w (r - 1) (nb (K 1 0) t (w (24 * r + t))) < 2 ^ 31 := by unfold cmc; split <;> split <;> (try split) <;> (try split) <;> (try split) <;> omega
    have os : f_X2_otherSide (sdI (w (24 * r + t))) = some (nI (3 - w (24 * r + t))) := by
      unfold f_X2_otherSide
      rcases e1 with q | q
      · rw [q]; rfl
      · rw [q]; rfl
    rw [if_pos e1, if_neg (by decide), zix_nI (by omega) (by decide), nI_clamp (by omega), (hT _ (by omega)).2, e_tbS hC (by omega) (by omega) ht wc, Option.bind_some, show nI r - 1 = nI (r - 1) from pk_sub (b := 1) (by omega), e_cellOf, Option.bind_some, e_placeAt hC h7 (wfb hK) (by omega) (by omega), Option.bind_some]
    have hple := (plc_le K (r - 1) (nb (K 1 0) t (w (24 * r + t)))).1
    by_cases e2 : plc K (r - 1) (nb (K 1 0) t (w (24 * r + t))) < K 5 0
    · rw [if_pos e2, if_neg (nI_nm1 (by omega)), if_neg (fun z => by have := z.2.1; omega)]
    · rw [if_neg e2, if_pos rfl, e_comersTo hK hC hT hw4 (by omega) ha, Option.bind_some]
      by_cases e3 : cmc K w (r - 1) (nb (K 1 0) t (w (24 * r + t))) = 1
      · rw [if_pos ((nq1 hcm).mpr e3), e_cellOf, Option.bind_some, zix_nI (by omega) (by decide), zix_nI (by omega) (by decide), os, Option.bind_some, nI_clamp (by omega), (hT _ (by omega)).2]
        have hsd : sdI (w (24 * (r - 1) + nb (K 1 0) t (w (24 * r + t)))) = nI (3 - w (24 * r + t)) ↔ w (24 * (r - 1) + nb (K 1 0) t (w (24 * r + t))) = 3 - w (24 * r + t) := by
          rcases e1 with q | q
          · rw [q] at wa ⊢; exact sd_2 wa
          · rw [q] at wa ⊢; exact sd_1 wa
        by_cases e4 : w (24 * (r - 1) + nb (K 1 0) t (w (24 * r + t))) = 3 - w (24 * r + t)
        · rw [if_pos (hsd.mpr e4), zix_nI (by omega) (by decide), nI_clamp (by omega), hC.2.2 _ (by omega)]
          by_cases e5 : K 9 (24 * (r - 1) + t) = 0
          · rw [if_pos (show nI (K 9 (24 * (r - 1) + t)) = 0 by rw [e5]; rfl), zix_nI (by omega) (by decide), (hT _ (by omega)).1]
            by_cases e6 : b (24 * (r - 1) + t) = 0
            · rw [if_pos (show nI (b (24 * (r - 1) + t)) = 0 by rw [e6]; rfl), if_pos ⟨e1, by omega, e3, e4, e5, e6⟩]
            · rw [if_neg (nI_ne0 (by omega) (by omega)), if_neg (fun z => e6 z.2.2.2.2.2)]
          · rw [if_neg (nI_ne0 (by omega) (by omega)), if_neg (fun z => e5 z.2.2.2.2.1)]
        · rw [if_neg (fun z => e4 (hsd.mp z)), if_neg (fun z => e4 z.2.2.2.1)]
      · rw [if_neg (fun z => e3 ((nq1 hcm).mp z)), if_neg (fun z => e3 z.2.2.1)]
  · rw [if_neg e1, if_pos rfl, if_neg (fun z => e1 z.1)]
theorem e_straighten {S0 T : Nat → Nat → Int32} {K : Nat → Nat → Nat} {b w : Nat → Nat} (hK : wfK K) (hC : repC S0 K) (hT : treeC T b w) (hW : wfT K b w) {r t : Nat} (hr3 : 3 ≤ r) (hr : r ≤ K 0 0) (ht : t < K 1 0) (hd : det K b w r t) : ∃ T', f_X2_straighten S0 T (nI r) (nI t) = some T' ∧ treeC T' (dB b r (nb (K 1 0) t (w (24 * r + t))) t) (dW w r (nb (K 1 0) t (w (24 * r + t))) t) := by
  have h9 := hK.1.2.1
  have h24 := hK.1.2.2.2.1
  have h6 := hK.1.2.2.1
  obtain ⟨ha, hne, _⟩ := det_fact hK hW hr3 hr ht hd
  have hs : w (24 * r + t) < 3 := by have := hd.1; omega
  have htg : tg (K 1 0) r t (w (24 * r + t)) = 24 * (r - 1) + nb (K 1 0) t (w (24 * r + t)) := by unfold tg; rw [if_neg (by omega)]
  generalize hadef : nb (K 1 0) t (w (24 * r + t)) = a at *
  refine ⟨zst (zst (zst (zst (zst T 3 (24 * (r - 1) + a) 0) 4 (24 * (r - 1) + a) (-1)) 3 (24 * (r - 1) + t) (nI (b (24 * r + t)))) 4 (24 * (r - 1) + t) 0) 4 (24 * r + t) 0, ?_, fun c hc => ⟨?_, ?_⟩⟩
  · unfold f_X2_straighten
    rw [e_cellOf, Option.bind_some, zix_nI (by omega) (by decide), nI_clamp (by omega), (hT _ (by omega)).2, sd_ne (by omega), e_cellInwards hC (by omega) (by omega) (by omega) ht hs, Option.bind_some, htg, show nI r - 1 = nI (r - 1) from pk_sub (b := 1) (by omega), e_cellOf, Option.bind_some, zix_nI (by omega) (by decide), zlet_eq, zix_nI (by omega) (by decide), zlet_eq, zix_nI (by omega) (by decide), zix_nI (by omega) (by decide), zlet_eq, zix_nI (by omega) (by decide), zlet_eq, zix_nI (by omega) (by decide), zlet_eq, zst_ne _ (show (3 : Nat) ≠ 4 by decide), zst_row, upd_ne _ (by omega), (hT _ (by omega)).1]
  · rw [zst_ne _ (show (3 : Nat) ≠ 4 by decide), zst_ne _ (show (3 : Nat) ≠ 4 by decide)]
    unfold dB
    by_cases e1 : c = 24 * (r - 1) + t
    · rw [if_pos e1, e1, zst_same]
    · rw [if_neg e1, zst_row, upd_ne _ e1, zst_ne _ (show (3 : Nat) ≠ 4 by decide)]
      by_cases e2 : c = 24 * (r - 1) + a
      · rw [if_pos e2, e2, zst_same]; rfl
      · rw [if_neg e2, zst_row, upd_ne _ e2, (hT c hc).1]
  · unfold dW
    by_cases e1 : c = 24 * r + t
    · rw [if_pos e1, e1, zst_same]; rfl
    · rw [if_neg e1, zst_row, upd_ne _ e1]
      by_cases e2 : c = 24 * (r - 1) + t
      · rw [if_pos e2, e2, zst_same]; rfl
      · rw [if_neg e2, zst_row, upd_ne _ e2, zst_ne _ (show (4 : Nat) ≠ 3 by decide)]
        by_cases e3 : c = 24 * (r - 1) + a
        · rw [if_pos e3, e3, zst_same]; rfl
        · rw [if_neg e3, zst_row, upd_ne _ e3, zst_ne _ (show (4 : Nat) ≠ 3 by decide), (hT c hc).2]
theorem e_straightens {M : Nat → Nat → Int32} {K : Nat → Nat → Nat} {b w : Nat → Nat} (hK : wfK K) (hM : repM M K) (hT : treeM M K b w) (hW : wfT K b w) {r t : Nat} (hr3 : 3 ≤ r) (hr : r ≤ K 0 0) (ht : t < K 1 0) : (det K b w r t → ∃ M', f_X7_straightens M (nI r) (nI t) = some (1, M') ∧ treeM M' K (dB b r (nb (K 1 0) t (w (24 * r + t))) t) (dW w r (nb (K 1 0) t (w (24 * r + t))) t) ∧ ∀ k, k ≠ 26 → k ≠ 27 → M' k = M k) ∧ (¬ det K b w r t → f_X7_straightens M (nI r) (nI t) = some (0, M)) := by
  have h9 := hK.1.2.1
  have h24 := hK.1.2.2.2.1
  have h6 := hK.1.2.2.1
  have h7 := wf7 hK
  have hw4 := fun c hc => (hW.1 c hc).2
  have wc := hw4 (24 * r + t) (by omega)
  have hne : (w (24 * r + t) = 1 ∨ w (24 * r + t) = 2) → f_X7_straightens M (nI r) (nI t) = f_X7_straightens_J23 M (nI r) (nI t) (nI (w (24 * r + t))) := by
    intro e1
    unfold f_X7_straightens
    rw [e_cellM, Option.bind_some, zix_nI (by omega) (by decide), zlet_eq, nI_clamp (by omega), (hT _ (by omega)).1]
    rcases e1 with q | q
    · rw [q, if_pos (by decide)]; rfl
    · rw [q, if_neg (by decide), if_pos (by decide)]; rfl
  have hno : ¬ (w (24 * r + t) = 1 ∨ w (24 * r + t) = 2) → f_X7_straightens M (nI r) (nI t) = some (0, M) := by
    intro e1
    unfold f_X7_straightens
    rw [e_cellM, Option.bind_some, zix_nI (by omega) (by decide), zlet_eq, nI_clamp (by omega), (hT _ (by omega)).1, if_neg (fun q => e1 (Or.inl ((sd_1 wc).mp q))), if_neg (fun q => e1 (Or.inr ((sd_2 wc).mp q)))]
  by_cases e1 : w (24 * r + t) = 1 ∨ w (24 * r + t) = 2
  · rw [hne e1]
    have ha := nb_lt (w (24 * r + t)) ht
    have hat : nb (K 1 0) t (w (24 * r + t)) ≠ t := by
      rcases e1 with q | q
      · rw [q, nb_1]; split <;> omega
      · rw [q, nb_2]; split <;> omega
    have wa := hw4 (24 * (r - 1) + nb (K 1 0) t (w (24 * r + t))) (by omega)
    have hbP := (hW.1 (24 * (r - 1) + t) (by omega)).1
    have hk := hK.2.2.2.1 (24 * (r - 1) + t)
    have hcm : cmc K w (r - 1) (nb (K 1 0) t (w (24 * r + t))) < 2 ^ 31 := by unfold cmc; split <;> split <;> (try split) <;> (try split) <;> (try split) <;> omega
    have hwid : nb (K 1 0) t (w (24 * r + t)) < wid K (r - 1) := by unfold wid; rw [if_neg (by omega)]; exact ha
    have hmt := e_manyTo hK hM hT hW (r := r - 1) (by omega) hwid
    have hcmK : cmK K b w (r - 1) (nb (K 1 0) t (w (24 * r + t))) = cmc K w (r - 1) (nb (K 1 0) t (w (24 * r + t))) := by unfold cmK; rw [if_neg (by omega)]
    rw [hcmK] at hmt
    have h3s : (3 : Int32) - nI (w (24 * r + t)) = nI (3 - w (24 * r + t)) := pk_sub (a := 3) (by omega)
    have hsd : sdI (w (24 * (r - 1) + nb (K 1 0) t (w (24 * r + t)))) = nI (3 - w (24 * r + t)) ↔ w (24 * (r - 1) + nb (K 1 0) t (w (24 * r + t))) = 3 - w (24 * r + t) := by
      rcases e1 with q | q
      · rw [q] at wa ⊢; exact sd_2 wa
      · rw [q] at wa ⊢; exact sd_1 wa
    have htt := e_targetTurn hM (by omega) (by omega) (r := r) (by omega) ht (s := w (24 * r + t)) (by omega)
    rw [if_neg (show ¬ r = 1 by omega)] at htt
    have hple := (plc_le K (r - 1) (nb (K 1 0) t (w (24 * r + t)))).1
    have hr1 : nI r - 1 = nI (r - 1) := pk_sub (b := 1) (by omega)
    unfold f_X7_straightens_J23 f_X7_straightens_J70
    rw [htt, Option.bind_some, hr1, e_cellM, Option.bind_some, e_placeAtM hM h7 (wfb hK) (by omega) (by omega), Option.bind_some]
    have j71_0 : ∀ z1 z2 z3 z4 z5, f_X7_straightens_J71 M z1 z2 z3 z4 z5 0 = some (0, M) := fun _ _ _ _ _ => if_pos rfl
    by_cases e2 : plc K (r - 1) (nb (K 1 0) t (w (24 * r + t))) < K 5 0
    · rw [if_pos e2, if_pos (nI_pos' (by omega)), j71_0]
      exact ⟨fun z => by have := z.2.1; omega, fun _ => rfl⟩
    · rw [if_neg e2, if_neg (by decide), hmt, Option.bind_some]
      by_cases e3 : cmc K w (r - 1) (nb (K 1 0) t (w (24 * r + t))) = 1
      · rw [if_pos ((nq1 hcm).mpr e3)]
        unfold f_X7_straightens_J71
        rw [if_neg (by decide), hr1, e_cellM, Option.bind_some, zix_nI (by omega) (by decide), nI_clamp (by omega), (hT _ (by omega)).1, h3s]
        by_cases e4 : w (24 * (r - 1) + nb (K 1 0) t (w (24 * r + t))) = 3 - w (24 * r + t)
        · rw [if_pos (hsd.mpr e4), zix_nI (by omega) (by decide), nI_clamp (by omega), hM.2.2 _ (by omega)]
          by_cases e5 : K 9 (24 * (r - 1) + t) = 0
          · rw [e5, if_pos nI_0, zix_nI (by omega) (by decide), (hT _ (by omega)).2]
            have ham := amt_le hK (b (24 * (r - 1) + t))
            by_cases e6 : b (24 * (r - 1) + t) = 0
            · rw [e6, if_pos (by rw [show amtK K 0 = 0 from amt_0 K _]; decide)]
              refine ⟨fun _ => ?_, fun z => absurd ⟨e1, by omega, e3, e4, e5, e6⟩ z⟩
              generalize hadef : nb (K 1 0) t (w (24 * r + t)) = a at *
              refine ⟨zst (zst (zst (zst (zst M 26 (24 * r + t) 0) 26 (24 * (r - 1) + t) 0) 27 (24 * (r - 1) + t) (nI (amtK K (b (24 * r + t))))) 26 (24 * (r - 1) + a) (-1)) 27 (24 * (r - 1) + a) 0, ?_, fun c hc => ⟨?_, ?_⟩, fun k k1 k2 => by rw [zst_ne _ k2, zst_ne _ k1, zst_ne _ k2, zst_ne _ k1, zst_ne _ k1]⟩
              · rw [e_cellM, Option.bind_some, zix_nI (by omega) (by decide), zlet_eq, zix_nI (by omega) (by decide), zlet_eq, Option.bind_some, zix_nI (by omega) (by decide), zix_nI (by omega) (by decide), zlet_eq, Option.bind_some, zix_nI (by omega) (by decide), zlet_eq, Option.bind_some, zix_nI (by omega) (by decide), zlet_eq, nI_clamp (by omega), zst_ne _ (show (27 : Nat) ≠ 26 by decide), zst_ne _ (show (27 : Nat) ≠ 26 by decide), (hT _ (by omega)).2]
              · rw [zst_ne _ (show (26 : Nat) ≠ 27 by decide)]
                unfold dW
                by_cases q3 : c = 24 * (r - 1) + a
                · rw [if_neg (by omega), if_neg (by omega), if_pos q3, q3, zst_same]; rfl
                · rw [zst_row, upd_ne _ q3, zst_ne _ (show (26 : Nat) ≠ 27 by decide)]
                  by_cases q2 : c = 24 * (r - 1) + t
                  · rw [if_neg (by omega), if_pos q2, q2, zst_same]; rfl
                  · rw [zst_row, upd_ne _ q2]
                    by_cases q1 : c = 24 * r + t
                    · rw [if_pos q1, q1, zst_same]; rfl
                    · rw [if_neg q1, if_neg q2, if_neg q3, zst_row, upd_ne _ q1, (hT c hc).1]
              · unfold dB
                by_cases q3 : c = 24 * (r - 1) + a
                · rw [if_neg (by omega), if_pos q3, q3, zst_same, show amtK K 0 = 0 from amt_0 K _]; rfl
                · rw [zst_row, upd_ne _ q3, zst_ne _ (show (27 : Nat) ≠ 26 by decide)]
                  by_cases q2 : c = 24 * (r - 1) + t
                  · rw [if_pos q2, q2, zst_same]
                  · rw [if_neg q2, if_neg q3, zst_row, upd_ne _ q2, zst_ne _ (show (27 : Nat) ≠ 26 by decide), zst_ne _ (show (27 : Nat) ≠ 26 by decide), (hT c hc).2]
            · have hpos := amtK_pos (fun p hp => (hK.2.1 p hp).2.2.2.1) hbP e6
              rw [if_neg (nI_nle (by omega) (by omega))]
              exact ⟨fun z => absurd z.2.2.2.2.2 e6, fun _ => rfl⟩
          · rw [if_neg (nI_ne0 (by omega) (by omega))]
            exact ⟨fun z => absurd z.2.2.2.2.1 e5, fun _ => rfl⟩
        · rw [if_neg (fun z => e4 (hsd.mp z))]
          exact ⟨fun z => absurd z.2.2.2.1 e4, fun _ => rfl⟩
      · rw [if_neg (fun z => e3 ((nq1 hcm).mp z)), j71_0]
        exact ⟨fun z => absurd z.2.2.1 e3, fun _ => rfl⟩
  · rw [hno e1]
    exact ⟨fun z => absurd z.1 e1, fun _ => rfl⟩
end SND
