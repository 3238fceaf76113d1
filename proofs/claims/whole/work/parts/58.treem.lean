/-! the reference's answers over trees -/
section TRM
theorem e_ttS {M : Nat → Nat → Int32} {K : Nat → Nat → Nat} (hM : repM M K) (hN : 1 ≤ K 1 0) (hN2 : K 1 0 ≤ 24) {r t s : Nat} (hr : r < 2 ^ 31) (ht : t < K 1 0) (hs : s < 4) : f_X7_targetTurn M (nI r) (nI t) (sdI s) = some (nI (if r = 1 then 0 else nb (K 1 0) t s)) := by
  by_cases e : s = 3
  · subst e
    rw [nb_3]
    have h := e_targetTurn hM hN hN2 hr ht (s := 0) (by omega)
    unfold f_X7_targetTurn at h ⊢
    have d1 : ¬ (sdI 3 = 1) := by decide
    have d2 : ¬ (sdI 3 = 2) := by decide
    have d3 : ¬ (nI 0 = 1) := by decide
    have d4 : ¬ (nI 0 = 2) := by decide
    rw [if_neg d3, if_neg d4] at h
    rw [if_neg d1, if_neg d2]
    exact h
  · rw [sd_ne e]; exact e_targetTurn hM hN hN2 hr ht (by omega)
theorem e_tgS {M : Nat → Nat → Int32} {K : Nat → Nat → Nat} (hM : repM M K) (hN : 1 ≤ K 1 0) (hN2 : K 1 0 ≤ 24) {r t s : Nat} (hr1 : 1 ≤ r) (hr : r < 2 ^ 31) (ht : t < K 1 0) (hs : s < 4) : f_X7_target M (nI r) (nI t) (sdI s) = some (nI (tg (K 1 0) r t s)) := by
  unfold f_X7_target
  rw [e_ttS hM hN hN2 hr ht hs, show (1 : Int32) = nI 1 from rfl, pk_sub hr1]
  show (f_X7_cell (nI (r - 1)) _).bind _ = _
  rw [e_cellM]
  unfold tg
  by_cases e : r = 1
  · subst e; rfl
  · rw [if_neg e, if_neg (by omega)]; rfl
theorem e_inkNow {M : Nat → Nat → Int32} {K : Nat → Nat → Nat} {b w : Nat → Nat} (hK : wfK K) (hM : repM M K) (hT : treeM M K b w) (hW : wfT K b w) : f_X7_inkNow M = some (nI (tink K b w)) := by
  have h9 := hK.1.2.1
  have h24 := hK.1.2.2.2.1
  have inn : ∀ r a0, 1 ≤ r → r ≤ 9 → f_X7_inkNow_L14 M (nI r) zfuel (nI a0, 0) = some (nI (a0 + su (fun t => inkc K b w (24 * r + t)) (K 1 0))) := by
    intro r a0 hr1 hr
    refine zfor0 (fun i => (nI (a0 + su (fun t => inkc K b w (24 * r + t)) i), nI i)) (K 1 0) _ (by omega) (fun i hi rec => ?_) (fun rec => ?_)
    · show f_X7_inkNow_L14b M (nI r) rec (nI (a0 + su _ i), nI i) = rec (nI (a0 + (su _ i + inkc K b w (24 * r + i))), nI (i + 1))
      unfold f_X7_inkNow_L14b f_X7_inkNow_J69
      dsimp only
      generalize su (fun t => inkc K b w (24 * r + t)) i = z
      unfold inkc
      obtain ⟨_, hw4⟩ := hW.1 (24 * r + i) (by omega)
      obtain ⟨hbw, hcell, hr48⟩ := hW.2.2.1 (24 * r + i) (by omega) (by omega)
      rw [ilen hM.1.2.1 rfl hi (by omega), e_cellM, Option.bind_some, zix_nI (by omega) (by decide), nI_clamp (by omega), (hT _ (by omega)).1]
      by_cases e : w (24 * r + i) = 3
      · have e0 : b (24 * r + i) = 0 := by
          rcases Nat.eq_zero_or_pos (b (24 * r + i)) with q | q
          · exact q
          · exact absurd e (hbw.mp (by omega))
        rw [if_neg (fun q => (sd_ge hw4).mp q e), if_pos e0, zlet_eq, l_0, nI_add, nI_1]; rfl
      · have e0 : b (24 * r + i) ≠ 0 := hbw.mpr e
        have hlen : (if r = 1 ∨ w (24 * r + i) = 0 then 10 else 10 + K 3 0) = lns K (w (24 * r + i)) := by
          unfold lns
          by_cases q : w (24 * r + i) = 0
          · rw [if_pos (Or.inr q), if_pos q]
          · have : r ≠ 1 := fun q2 => by rcases hr48 (by omega) with z | z <;> omega
            rw [if_neg (by omega), if_neg q]
        rw [if_pos ((sd_ge hw4).mpr e), if_neg e0, zix_nI (by omega) (by decide), sd_ne e, e_lengthOfM hM (by omega) (by omega), Option.bind_some, zix_nI (by omega) (by decide), hlen, hM.1.2.2.1, (hT _ (by omega)).2, nI_add, pk_mul, zlet_eq, nI_add, nI_1, Nat.add_assoc]
    · show f_X7_inkNow_L14b M (nI r) rec (nI _, nI (K 1 0)) = _
      unfold f_X7_inkNow_L14b
      dsimp only
      rw [ilep hM.1.2.1 rfl (Nat.le_refl _) (by omega)]
  have hl : f_X7_inkNow_L4 M zfuel (0, 1) = some (nI (tink K b w)) := by
    refine zfor0 (fun i => (nI (su (fun i => su (fun t => inkc K b w (24 * (i + 1) + t)) (K 1 0)) i), nI (i + 1))) (K 0 0) _ (by omega) (fun i hi rec => ?_) (fun rec => ?_)
    · show f_X7_inkNow_L4b M rec (nI _, nI (i + 1)) = rec (nI (su _ i + _), nI (i + 1 + 1))
      unfold f_X7_inkNow_L4b
      dsimp only
      rw [iltn hM.1.1 rfl (by omega) (by omega), inn _ _ (by omega) (by omega), Option.bind_some, nI_1]
    · show f_X7_inkNow_L4b M rec (nI _, nI (K 0 0 + 1)) = _
      unfold f_X7_inkNow_L4b
      dsimp only
      rw [iltp hM.1.1 rfl (by omega) (by omega)]; rfl
  unfold f_X7_inkNow
  rw [hl]; rfl
theorem e_bendsM {M : Nat → Nat → Int32} {K : Nat → Nat → Nat} {b w : Nat → Nat} (hT : treeM M K b w) (hW : wfT K b w) : f_X7_bends M = some (nI (su (fun c => if w c = 1 ∨ w c = 2 then 1 else 0) 240)) := by
  have hl : f_X7_bends_L4 M zfuel (0, 0) = some (nI (su (fun c => if w c = 1 ∨ w c = 2 then 1 else 0) 240)) := by
    refine zfor0 (fun i => (nI (su (fun c => if w c = 1 ∨ w c = 2 then 1 else 0) i), nI i)) 240 _ (by omega) (fun i hi rec => ?_) (fun rec => ?_)
    · show f_X7_bends_L4b M rec (nI _, nI i) = rec (nI (su _ i + _), nI (i + 1))
      unfold f_X7_bends_L4b f_X7_bends_J31 f_X7_bends_J32
      dsimp only
      generalize su (fun c => if w c = 1 ∨ w c = 2 then 1 else 0) i = z
      obtain ⟨_, hw4⟩ := hW.1 i hi
      rw [l_240, if_neg (nI_ge hi (by omega)), zix_nI hi (by decide), nI_clamp (by omega), (hT i hi).1]
      by_cases e : i < 48
      · have e3 : w i = 0 ∨ w i = 3 := by
          rcases Nat.lt_or_ge i 24 with q | q
          · exact Or.inr (hW.2.1 i q)
          · exact (hW.2.2.1 i q hi).2.2 e
        rw [if_pos (show nI i < 48 from nI_lt (b := 48) e (by omega)), if_neg (by omega), zlet_eq, l_0, nI_add, nI_1]
      · rw [if_neg (show ¬ nI i < 48 from nI_nlt (b := 48) (by omega) (by omega))]
        by_cases e2 : w i = 0 ∨ w i = 3
        · rw [if_pos ((sd_le0 hw4).mpr e2), if_neg (by omega), zlet_eq, l_0, nI_add, nI_1]
        · rw [if_neg (fun q => e2 ((sd_le0 hw4).mp q)), if_pos (by omega), zlet_eq, nI_1, nI_1]
    · show f_X7_bends_L4b M rec (nI _, nI 240) = _
      unfold f_X7_bends_L4b
      dsimp only
      rw [l_240, if_pos (nI_le (Nat.le_refl _) (by omega))]
  unfold f_X7_bends
  rw [hl]; rfl
theorem su_shift {f : Nat → Nat} : ∀ n, su f (n + 1) = f 0 + su (fun i => f (i + 1)) n := by
  intro n
  induction n with
  | zero => rw [su, su, su]; omega
  | succ n ih => rw [su, ih, su]; omega
theorem su_0 {f : Nat → Nat} : ∀ n, (∀ i, i < n → f i = 0) → su f n = 0 := by
  intro n
  induction n with
  | zero => intro _; rfl
  | succ n ih => intro h; rw [su, ih fun i hi => h i (by omega), h n (by omega)]
theorem su_cut {f : Nat → Nat} {n : Nat} : ∀ m, n ≤ m → (∀ i, n ≤ i → i < m → f i = 0) → su f m = su f n := by
  intro m
  induction m with
  | zero => intro h _; rw [Nat.le_zero.mp h]
  | succ m ih =>
    intro h hf
    by_cases e : n = m + 1
    · rw [e]
    · rw [su, ih (by omega) fun i h1 h2 => hf i h1 (by omega), hf m (by omega) (by omega)]; rfl
theorem su_app {f : Nat → Nat} {n : Nat} : ∀ m, su f (n + m) = su f n + su (fun i => f (n + i)) m := by
  intro m
  induction m with
  | zero => rfl
  | succ m ih => rw [← Nat.add_assoc, su, ih, su, Nat.add_assoc]
theorem su_rows {f : Nat → Nat} : ∀ n, su f (24 * n) = su (fun r => su (fun t => f (24 * r + t)) 24) n := by
  intro n
  induction n with
  | zero => rfl
  | succ n ih => rw [Nat.mul_succ, su_app, ih]; rfl
theorem e_across {M : Nat → Nat → Int32} {K : Nat → Nat → Nat} {b w : Nat → Nat} (hK : wfK K) (hM : repM M K) (hT : treeM M K b w) (hW : wfT K b w) : f_X7_across M = some (nI (su (fun i => su (acr (K 1 0) w (i + 1)) (K 1 0)) (K 0 0))) := by
  have h9 := hK.1.2.1
  have h2 := hK.1.1
  have h24 := hK.1.2.2.2.1
  have h6 := hK.1.2.2.1
  have inn : ∀ r a0, r ≤ 9 → f_X7_across_L14 M (nI r) zfuel (nI a0, 0) = some (nI (a0 + su (acr (K 1 0) w r) (K 1 0))) := by
    intro r a0 hr
    refine zfor0 (fun i => (nI (a0 + su (acr (K 1 0) w r) i), nI i)) (K 1 0) _ (by omega) (fun i hi rec => ?_) (fun rec => ?_)
    · show f_X7_across_L14b M (nI r) rec (nI (a0 + su _ i), nI i) = rec (nI (a0 + (su _ i + acr (K 1 0) w r i)), nI (i + 1))
      have hn := nb_lt 2 hi
      unfold f_X7_across_L14b f_X7_across_J61 f_X7_across_J62
      dsimp only
      generalize su (acr (K 1 0) w r) i = z
      unfold acr
      rw [ilen hM.1.2.1 rfl hi (by omega), e_cellM, Option.bind_some, zix_nI (by omega) (by decide), nI_clamp (by omega), (hT _ (by omega)).1, e_arR hM (by omega) (by omega) hi, Option.bind_some, e_cellM, Option.bind_some, zix_nI (by omega) (by decide), nI_clamp (by omega), (hT _ (by omega)).1]
      have w1 := (hW.1 (24 * r + i) (by omega)).2
      have w2 := (hW.1 (24 * r + nb (K 1 0) i 2) (by omega)).2
      by_cases e1 : w (24 * r + i) = 2
      · rw [if_pos ((sd_2 w1).mpr e1)]
        by_cases e2 : w (24 * r + nb (K 1 0) i 2) = 1
        · rw [if_pos ((sd_1 w2).mpr e2), if_pos ⟨e1, e2⟩, zlet_eq, nI_1, nI_1]; rfl
        · rw [if_neg (fun q => e2 ((sd_1 w2).mp q)), if_neg (by omega), zlet_eq, l_0, nI_add, nI_1]; rfl
      · rw [if_neg (fun q => e1 ((sd_2 w1).mp q)), if_neg (by omega), zlet_eq, l_0, nI_add, nI_1]; rfl
    · show f_X7_across_L14b M (nI r) rec (nI _, nI (K 1 0)) = _
      unfold f_X7_across_L14b
      dsimp only
      rw [ilep hM.1.2.1 rfl (Nat.le_refl _) (by omega)]
  have hl : f_X7_across_L4 M zfuel (0, 2) = some (nI (su (fun i => su (acr (K 1 0) w (i + 2)) (K 1 0)) (K 0 0 - 1))) := by
    refine zfor0 (fun i => (nI (su (fun i => su (acr (K 1 0) w (i + 2)) (K 1 0)) i), nI (i + 2))) (K 0 0 - 1) _ (by omega) (fun i hi rec => ?_) (fun rec => ?_)
    · show f_X7_across_L4b M rec (nI _, nI (i + 2)) = rec (nI (su _ i + _), nI (i + 1 + 2))
      unfold f_X7_across_L4b
      dsimp only
      rw [iltn hM.1.1 rfl (by omega) (by omega), inn _ _ (by omega), Option.bind_some, nI_1]
    · show f_X7_across_L4b M rec (nI _, nI (K 0 0 - 1 + 2)) = _
      unfold f_X7_across_L4b
      dsimp only
      rw [iltp hM.1.1 rfl (by omega) (by omega)]
  unfold f_X7_across
  rw [hl, Option.bind_some]
  obtain ⟨n, hn⟩ : ∃ n, K 0 0 = n + 1 := ⟨K 0 0 - 1, by omega⟩
  have h1 : su (acr (K 1 0) w (0 + 1)) (K 1 0) = 0 := su_0 _ fun t ht => by
    unfold acr
    have := (hW.2.2.1 (24 * (0 + 1) + t) (by omega) (by omega)).2.2 (by omega)
    rw [if_neg (by omega)]
  rw [hn, su_shift, h1, Nat.zero_add]; rfl
theorem e_stepMany {M : Nat → Nat → Int32} {K : Nat → Nat → Nat} {b w : Nat → Nat} (hK : wfK K) (hT : treeM M K b w) (hW : wfT K b w) : f_X7_stepMany M = some (nI (su (fun i => su (fun t => if b (24 * (i + 1) + t) = 0 then 0 else 1) (K 1 0)) (K 0 0))) := by
  have h9 := hK.1.2.1
  have h24 := hK.1.2.2.2.1
  have hl : f_X7_stepMany_L4 M zfuel (0, 0) = some (nI (su (fun c => if w c = 3 then 0 else 1) 240)) := by
    refine zfor0 (fun i => (nI (su (fun c => if w c = 3 then 0 else 1) i), nI i)) 240 _ (by omega) (fun i hi rec => ?_) (fun rec => ?_)
    · show f_X7_stepMany_L4b M rec (nI _, nI i) = rec (nI (su _ i + _), nI (i + 1))
      unfold f_X7_stepMany_L4b f_X7_stepMany_J26
      dsimp only
      generalize su (fun c => if w c = 3 then 0 else 1) i = z
      obtain ⟨_, hw4⟩ := hW.1 i hi
      rw [l_240, if_neg (nI_ge hi (by omega)), zix_nI hi (by decide), nI_clamp (by omega), (hT i hi).1]
      by_cases e : w i = 3
      · rw [if_pos ((sd_n hw4).mpr e), if_pos e, zlet_eq, l_0, nI_add, nI_1]
      · rw [if_neg (fun q => e ((sd_n hw4).mp q)), if_neg e, zlet_eq, nI_1, nI_1]
    · show f_X7_stepMany_L4b M rec (nI _, nI 240) = _
      unfold f_X7_stepMany_L4b
      dsimp only
      rw [l_240, if_pos (nI_le (Nat.le_refl _) (by omega))]
  unfold f_X7_stepMany
  rw [hl, Option.bind_some, show 240 = 24 * (9 + 1) from rfl, su_rows, su_shift]
  have h0 : su (fun t => if w (24 * 0 + t) = 3 then 0 else 1) 24 = 0 := su_0 _ fun t ht => if_pos (hW.2.1 _ (by omega))
  have hrow : ∀ i, i < 9 → su (fun t => if w (24 * (i + 1) + t) = 3 then 0 else 1) 24 = if i < K 0 0 then su (fun t => if b (24 * (i + 1) + t) = 0 then 0 else 1) (K 1 0) else 0 := by
    intro i hi
    have hz : ∀ t, t < 24 → (K 0 0 ≤ i ∨ K 1 0 ≤ t) → w (24 * (i + 1) + t) = 3 := by
      intro t ht hor
      rcases Nat.lt_or_ge (w (24 * (i + 1) + t)) 3 with q | q
      · have := (hW.2.2.1 (24 * (i + 1) + t) (by omega) (by omega)).2.1 (by omega); omega
      · have := (hW.1 (24 * (i + 1) + t) (by omega)).2; omega
    by_cases e : i < K 0 0
    · rw [if_pos e, su_cut (n := K 1 0) 24 h24 fun t h1 h2 => if_pos (hz t h2 (Or.inr h1))]
      refine su_cg _ fun t ht => ?_
      have hb := (hW.2.2.1 (24 * (i + 1) + t) (by omega) (by omega)).1
      by_cases q : w (24 * (i + 1) + t) = 3
      · rw [if_pos q, if_pos (by
          rcases Nat.eq_zero_or_pos (b (24 * (i + 1) + t)) with z | z
          · exact z
          · exact absurd q (hb.mp (by omega)))]
      · rw [if_neg q, if_neg (hb.mpr q)]
    · rw [if_neg e]; exact su_0 _ fun t ht => if_pos (hz t ht (Or.inl (by omega)))
  rw [h0, su_cg 9 hrow, su_cut (n := K 0 0) 9 h9 fun i h1 h2 => if_neg (by omega), Nat.zero_add, su_cg (K 0 0) fun i hi => if_pos hi]
theorem e_fullest {M : Nat → Nat → Int32} {K : Nat → Nat → Nat} {b w : Nat → Nat} (hK : wfK K) (hM : repM M K) (hT : treeM M K b w) (hW : wfT K b w) : f_X7_fullest M = some (nI (mx (fun i => su (fun t => if b (24 * (i + 1) + t) = 0 then 0 else 1) (K 1 0)) (K 0 0))) := by
  have h9 := hK.1.2.1
  have h24 := hK.1.2.2.2.1
  have hsu : ∀ i, su (fun t => if b (24 * (i + 1) + t) = 0 then 0 else 1) (K 1 0) ≤ 24 := fun i => by
    have := su_le (f := fun t => if b (24 * (i + 1) + t) = 0 then 0 else 1) (B := 1) (K 1 0) (fun t _ => by split <;> omega)
    omega
  have inn : ∀ (v : Int32) r, r ≤ 9 → f_X7_fullest_L17 M v (nI r) zfuel (0, 0) = some (nI (su (fun t => if b (24 * r + t) = 0 then 0 else 1) (K 1 0))) := by
    intro v r hr
    refine zfor0 (fun i => (nI (su (fun t => if b (24 * r + t) = 0 then 0 else 1) i), nI i)) (K 1 0) _ (by omega) (fun i hi rec => ?_) (fun rec => ?_)
    · show f_X7_fullest_L17b M v (nI r) rec (nI (su _ i), nI i) = rec (nI (su _ i + _), nI (i + 1))
      unfold f_X7_fullest_L17b f_X7_fullest_J46
      dsimp only
      generalize su (fun t => if b (24 * r + t) = 0 then 0 else 1) i = z
      have hbP := (hW.1 (24 * r + i) (by omega)).1
      have ham := amt_le hK (b (24 * r + i))
      rw [ilen hM.1.2.1 rfl hi (by omega), e_cellM, Option.bind_some, zix_nI (by omega) (by decide), nI_clamp (by omega), (hT _ (by omega)).2]
      by_cases e : b (24 * r + i) = 0
      · rw [e, if_pos rfl, if_pos (by rw [show amtK K 0 = 0 from amt_0 K _]; decide), zlet_eq, l_0, nI_add, nI_1]
      · have hpos := amtK_pos (fun p hp => (hK.2.1 p hp).2.2.2.1) hbP e
        rw [if_neg e, if_neg (nI_nle (by omega) (by omega)), zlet_eq, nI_1, nI_1]
    · show f_X7_fullest_L17b M v (nI r) rec (nI _, nI (K 1 0)) = _
      unfold f_X7_fullest_L17b
      dsimp only
      rw [ilep hM.1.2.1 rfl (Nat.le_refl _) (by omega)]
  have hl : f_X7_fullest_L4 M zfuel (0, 1) = some (nI (mx (fun i => su (fun t => if b (24 * (i + 1) + t) = 0 then 0 else 1) (K 1 0)) (K 0 0))) := by
    refine zfor0 (fun i => (nI (mx (fun i => su (fun t => if b (24 * (i + 1) + t) = 0 then 0 else 1) (K 1 0)) i), nI (i + 1))) (K 0 0) _ (by omega) (fun i hi rec => ?_) (fun rec => ?_)
    · show f_X7_fullest_L4b M rec (nI _, nI (i + 1)) = rec (nI (mx _ (i + 1)), nI (i + 1 + 1))
      unfold f_X7_fullest_L4b f_X7_fullest_J64
      dsimp only
      have hm := mx_le (f := fun i => su (fun t => if b (24 * (i + 1) + t) = 0 then 0 else 1) (K 1 0)) i (fun j _ => hsu j)
      have hs := hsu i
      rw [iltn hM.1.1 rfl (by omega) (by omega), inn _ _ (by omega), Option.bind_some, nI_1, mx]
      by_cases e : mx (fun i => su (fun t => if b (24 * (i + 1) + t) = 0 then 0 else 1) (K 1 0)) i < su (fun t => if b (24 * (i + 1) + t) = 0 then 0 else 1) (K 1 0)
      · rw [if_neg (nI_ge e (by omega)), if_pos e]
      · rw [if_pos (nI_le (by omega) (by omega)), if_neg e]
    · show f_X7_fullest_L4b M rec (nI _, nI (K 0 0 + 1)) = _
      unfold f_X7_fullest_L4b
      dsimp only
      rw [iltp hM.1.1 rfl (by omega) (by omega)]
  unfold f_X7_fullest
  rw [hl]; rfl
end TRM
