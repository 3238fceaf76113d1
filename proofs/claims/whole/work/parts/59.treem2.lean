/-! the reference's answers over trees: widest, how many come, ways, what is borne -/
section TM2
theorem mxf_sp {f : Nat → Nat} {a : Nat} : ∀ n, a ≤ mxf f a n ∧ (∀ i, i < n → f i ≤ mxf f a n) ∧ (mxf f a n = a ∨ ∃ i, i < n ∧ mxf f a n = f i) := by
  intro n
  induction n with
  | zero => exact ⟨Nat.le_refl _, fun i hi => absurd hi (Nat.not_lt_zero _), Or.inl rfl⟩
  | succ n ih =>
    obtain ⟨h1, h2, h3⟩ := ih
    rw [mxf]
    by_cases e : mxf f a n < f n
    · rw [if_pos e]
      refine ⟨by omega, fun i hi => ?_, Or.inr ⟨n, by omega, rfl⟩⟩
      by_cases q : i = n
      · rw [q]; exact Nat.le_refl _
      · have := h2 i (by omega); omega
    · rw [if_neg e]
      refine ⟨h1, fun i hi => ?_, ?_⟩
      · by_cases q : i = n
        · rw [q]; omega
        · exact h2 i (by omega)
      · rcases h3 with q | ⟨i, hi, q⟩
        · exact Or.inl q
        · exact Or.inr ⟨i, by omega, q⟩
theorem e_widest {M : Nat → Nat → Int32} {K : Nat → Nat → Nat} {b w : Nat → Nat} (hK : wfK K) (hT : treeM M K b w) (hW : wfT K b w) {g : Nat → Nat} (g0 : g 0 = 0) (gs : ∀ i, g (i + 1) = mxf (fun t => amtK K (b (24 * (i + 1) + t))) (g i) (K 1 0)) : f_X7_widest M = some (nI (g (K 0 0))) := by
  have h9 := hK.1.2.1
  have h24 := hK.1.2.2.2.1
  have ham := amt_le hK
  have hl : f_X7_widest_L5 M zfuel (0, 24) = some (nI (mxf (fun i => if w (24 + i) = 3 then 0 else amtK K (b (24 + i))) 0 216)) := by
    refine zfor0 (fun i => (nI (mxf (fun i => if w (24 + i) = 3 then 0 else amtK K (b (24 + i))) 0 i), nI (24 + i))) 216 _ (by omega) (fun i hi rec => ?_) (fun rec => ?_)
    · show f_X7_widest_L5b M rec (nI _, nI (24 + i)) = rec (nI (mxf _ 0 (i + 1)), nI (24 + i + 1))
      unfold f_X7_widest_L5b f_X7_widest_J40 f_X7_widest_J41
      dsimp only
      have hm := mxf_le (f := fun i => if w (24 + i) = 3 then 0 else amtK K (b (24 + i))) (a := 0) (B := 693) (by omega) i (fun j _ => by have := ham (b (24 + j)); split <;> omega)
      rw [mxf]
      generalize mxf (fun i => if w (24 + i) = 3 then 0 else amtK K (b (24 + i))) 0 i = z at *
      obtain ⟨_, hw4⟩ := hW.1 (24 + i) (by omega)
      have hai := ham (b (24 + i))
      rw [l_240, if_neg (nI_ge (by omega) (by omega)), zix_nI (by omega) (by decide), zix_nI (by omega) (by decide), zix_nI (by omega) (by decide), nI_clamp (by omega), (hT _ (by omega)).1, (hT _ (by omega)).2, nI_1]
      by_cases e : w (24 + i) = 3
      · rw [if_pos ((sd_n hw4).mpr e), if_pos e, if_neg (by omega)]
      · rw [if_neg (fun q => e ((sd_n hw4).mp q)), if_neg e]
        by_cases e2 : z < amtK K (b (24 + i))
        · rw [if_neg (nI_ge e2 (by omega)), if_pos e2]
        · rw [if_pos (nI_le (by omega) (by omega)), if_neg e2]
    · show f_X7_widest_L5b M rec (nI _, nI (24 + 216)) = _
      unfold f_X7_widest_L5b
      dsimp only
      rw [l_240, if_pos (nI_le (Nat.le_refl _) (by omega))]
  have hg : ∀ n, (∀ i t, i < n → t < K 1 0 → amtK K (b (24 * (i + 1) + t)) ≤ g n) ∧ (g n = 0 ∨ ∃ i t, i < n ∧ t < K 1 0 ∧ g n = amtK K (b (24 * (i + 1) + t))) := by
    intro n
    induction n with
    | zero => exact ⟨fun i t hi => absurd hi (Nat.not_lt_zero _), Or.inl g0⟩
    | succ n ih =>
      obtain ⟨m1, m2, m3⟩ := mxf_sp (f := fun t => amtK K (b (24 * (n + 1) + t))) (a := g n) (K 1 0)
      rw [gs]
      refine ⟨fun i t hi ht => ?_, ?_⟩
      · by_cases q : i = n
        · rw [q]; exact m2 t ht
        · have := ih.1 i t (by omega) ht; omega
      · rcases m3 with q | ⟨t, ht, q⟩
        · rcases ih.2 with z | ⟨i, t, hi, ht, z⟩
          · exact Or.inl (by omega)
          · exact Or.inr ⟨i, t, by omega, ht, by omega⟩
        · exact Or.inr ⟨n, t, by omega, ht, q⟩
  obtain ⟨m1, m2, m3⟩ := mxf_sp (f := fun i => if w (24 + i) = 3 then 0 else amtK K (b (24 + i))) (a := 0) 216
  obtain ⟨k1, k2⟩ := hg (K 0 0)
  have heq : mxf (fun i => if w (24 + i) = 3 then 0 else amtK K (b (24 + i))) 0 216 = g (K 0 0) := by
    apply Nat.le_antisymm
    · rcases m3 with q | ⟨i, hi, q⟩
      · omega
      · by_cases e : w (24 + i) = 3
        · rw [if_pos e] at q; omega
        · rw [if_neg e] at q
          have := (hW.2.2.1 (24 + i) (by omega) (by omega)).2.1 e
          have h := k1 ((24 + i) / 24 - 1) ((24 + i) % 24) (by omega) (by omega)
          rw [show 24 * ((24 + i) / 24 - 1 + 1) + (24 + i) % 24 = 24 + i by omega] at h
          omega
    · rcases k2 with q | ⟨i, t, hi, ht, q⟩
      · omega
      · have h := m2 (24 * i + t) (by omega)
        have e1 : 24 + (24 * i + t) = 24 * (i + 1) + t := by omega
        have h' : (if w (24 * (i + 1) + t) = 3 then 0 else amtK K (b (24 * (i + 1) + t))) ≤ mxf (fun i => if w (24 + i) = 3 then 0 else amtK K (b (24 + i))) 0 216 := by rw [← e1]; exact h
        by_cases e : w (24 * (i + 1) + t) = 3
        · have hb := (hW.2.2.1 (24 * (i + 1) + t) (by omega) (by omega)).1
          have b0 : b (24 * (i + 1) + t) = 0 := by
            rcases Nat.eq_zero_or_pos (b (24 * (i + 1) + t)) with z | z
            · exact z
            · exact absurd e (hb.mp (by omega))
          rw [b0, show amtK K 0 = 0 from amt_0 K _] at q; omega
        · rw [if_neg e] at h'; omega
  unfold f_X7_widest
  rw [hl, heq]; rfl
theorem su_pt {P : Nat → Prop} [∀ i, Decidable (P i)] {a : Nat} : ∀ n, su (fun i => if i = a ∧ P i then 1 else 0) n = if a < n ∧ P a then 1 else 0 := by
  intro n
  induction n with
  | zero => rw [su, if_neg (by omega)]
  | succ n ih =>
    rw [su, ih]
    by_cases e : n = a
    · subst e
      by_cases q : P n
      · rw [if_neg (by omega), if_pos ⟨rfl, q⟩, if_pos ⟨by omega, q⟩]
      · rw [if_neg (by omega), if_neg (fun z => q z.2), if_neg (fun z => q z.2)]
    · rw [if_neg (show ¬ (n = a ∧ P n) from fun z => e z.1)]
      by_cases q : a < n ∧ P a
      · rw [if_pos q, if_pos ⟨by omega, q.2⟩]
      · rw [if_neg q, if_neg (fun z => q ⟨by omega, z.2⟩)]
theorem su_add {f g : Nat → Nat} : ∀ n, su (fun i => f i + g i) n = su f n + su g n := by
  intro n
  induction n with
  | zero => rfl
  | succ n ih => rw [su, ih, su, su]; omega
theorem nb_1 (N t : Nat) : nb N t 1 = if t = 0 then N - 1 else t - 1 := by unfold nb; rw [if_pos rfl]
theorem nb_2 (N t : Nat) : nb N t 2 = if t = N - 1 then 0 else t + 1 := by unfold nb; rw [if_neg (show ¬ (2 : Nat) = 1 by decide), if_pos rfl]
theorem nb_inv1 {N t t' : Nat} (ht : t < N) (ht' : t' < N) : nb N t' 1 = t ↔ t' = nb N t 2 := by
  rw [nb_1, nb_2]
  split <;> split <;> omega
theorem nb_inv2 {N t t' : Nat} (ht : t < N) (ht' : t' < N) : nb N t' 2 = t ↔ t' = nb N t 1 := by
  constructor
  · intro h; exact ((nb_inv1 ht' ht).mpr h.symm).symm
  · intro h; exact ((nb_inv1 ht' ht).mp h.symm).symm
/-- how many of a ring step to a turn -/
theorem su_in {N t : Nat} {x : Nat → Nat} (ht : t < N) (hx : ∀ i, i < N → x i < 4) : su (fun i => if x i ≠ 3 ∧ nb N i (x i) = t then 1 else 0) N = (if x t = 0 then 1 else 0) + (if x (nb N t 1) = 2 then 1 else 0) + (if x (nb N t 2) = 1 then 1 else 0) := by
  have h1 := nb_lt 1 ht
  have h2 := nb_lt 2 ht
  have e : ∀ i, i < N → (if x i ≠ 3 ∧ nb N i (x i) = t then 1 else 0) = ((if i = t ∧ x i = 0 then 1 else 0) + (if i = nb N t 1 ∧ x i = 2 then 1 else 0)) + (if i = nb N t 2 ∧ x i = 1 then 1 else 0) := by
    intro i hi
    have hx4 := hx i hi
    have i1 := nb_inv1 ht hi
    have i2 := nb_inv2 ht hi
    have h0 : nb N i 0 = i := rfl
    have c : x i = 0 ∨ x i = 1 ∨ x i = 2 ∨ x i = 3 := by omega
    rcases c with c | c | c | c
    · rw [c, h0]
      by_cases q : i = t <;> simp [q]
    · rw [c]
      by_cases q : i = nb N t 2
      · rw [if_pos ⟨by decide, i1.mpr q⟩]; simp [q]
      · rw [if_neg (fun z => q (i1.mp z.2))]; simp [q]
    · rw [c]
      by_cases q : i = nb N t 1
      · rw [if_pos ⟨by decide, i2.mpr q⟩]; simp [q]
      · rw [if_neg (fun z => q (i2.mp z.2))]; simp [q]
    · rw [c]; simp
  rw [su_cg N e, su_add, su_add, su_pt, su_pt, su_pt]
  simp only [ht, h1, h2, true_and]
theorem e_manyTo {M : Nat → Nat → Int32} {K : Nat → Nat → Nat} {b w : Nat → Nat} (hK : wfK K) (hM : repM M K) (hT : treeM M K b w) (hW : wfT K b w) {r t : Nat} (hr : r ≤ K 0 0) (ht : t < wid K r) : f_X7_manyTo M (nI r) (nI t) = some (nI (cmK K b w r t)) := by
  have h9 := hK.1.2.1
  have h24 := hK.1.2.2.2.1
  have h6 := hK.1.2.2.1
  have hwd := wid_le hK r
  have h7 := wf7 hK
  have j18 : ∀ k0 : Nat, f_X7_manyTo_J18 M (nI r) (nI t) (nI k0) = some (nI (k0 + (if r < K 0 0 then su (fun i => if w (24 * (r + 1) + i) ≠ 3 ∧ tg (K 1 0) (r + 1) i (w (24 * (r + 1) + i)) = 24 * r + t then 1 else 0) (K 1 0) else 0))) := by
    intro k0
    unfold f_X7_manyTo_J18
    by_cases e : r < K 0 0
    · rw [if_pos e]
      have hl : f_X7_manyTo_L22 M (nI r) (nI t) zfuel (nI k0, 0) = some (nI (k0 + su (fun i => if w (24 * (r + 1) + i) ≠ 3 ∧ tg (K 1 0) (r + 1) i (w (24 * (r + 1) + i)) = 24 * r + t then 1 else 0) (K 1 0))) := by
        refine zfor0 (fun i => (nI (k0 + su (fun i => if w (24 * (r + 1) + i) ≠ 3 ∧ tg (K 1 0) (r + 1) i (w (24 * (r + 1) + i)) = 24 * r + t then 1 else 0) i), nI i)) (K 1 0) _ (by omega) (fun i hi rec => ?_) (fun rec => ?_)
        · show f_X7_manyTo_L22b M (nI r) (nI t) rec (nI (k0 + su _ i), nI i) = rec (nI (k0 + (su _ i + (if w (24 * (r + 1) + i) ≠ 3 ∧ tg (K 1 0) (r + 1) i (w (24 * (r + 1) + i)) = 24 * r + t then 1 else 0))), nI (i + 1))
          unfold f_X7_manyTo_L22b f_X7_manyTo_J88 f_X7_manyTo_J89
          dsimp only
          generalize su (fun i => if w (24 * (r + 1) + i) ≠ 3 ∧ tg (K 1 0) (r + 1) i (w (24 * (r + 1) + i)) = 24 * r + t then 1 else 0) i = z
          obtain ⟨_, hw4⟩ := hW.1 (24 * (r + 1) + i) (by omega)
          have htg : tg (K 1 0) (r + 1) i (w (24 * (r + 1) + i)) < 2 ^ 31 := by
            have := nb_lt (w (24 * (r + 1) + i)) hi
            unfold tg; split <;> omega
          rw [ilen hM.1.2.1 rfl hi (by omega), ilen hM.1.1 rfl e (by omega), nI_1, e_cellM, Option.bind_some, zix_nI (by omega) (by decide), zix_nI (by omega) (by decide), nI_clamp (by omega), (hT _ (by omega)).1, e_tgS hM (by omega) (by omega) (by omega) (by omega) hi hw4, Option.bind_some, e_cellM, Option.bind_some]
          by_cases q : w (24 * (r + 1) + i) = 3
          · rw [if_pos ((sd_n hw4).mpr q), if_neg (fun z => z.1 q), zlet_eq, l_0, nI_add, nI_1]; rfl
          · rw [if_neg (fun z => q ((sd_n hw4).mp z))]
            by_cases q2 : tg (K 1 0) (r + 1) i (w (24 * (r + 1) + i)) = 24 * r + t
            · rw [if_pos (by rw [q2]), if_pos ⟨q, q2⟩, zlet_eq, nI_1, nI_1]; rfl
            · rw [if_neg (fun z => q2 ((nI_eq htg (by omega)).mp z)), if_neg (fun z => q2 z.2), zlet_eq, l_0, nI_add, nI_1]; rfl
        · show f_X7_manyTo_L22b M (nI r) (nI t) rec (nI _, nI (K 1 0)) = _
          unfold f_X7_manyTo_L22b
          dsimp only
          rw [ilep hM.1.2.1 rfl (Nat.le_refl _) (by omega)]
      rw [hl]; rfl
    · rw [if_neg e]
      have hl : f_X7_manyTo_L22 M (nI r) (nI t) zfuel (nI k0, 0) = some (nI k0) := by
        show f_X7_manyTo_L22b M (nI r) (nI t) _ (nI k0, nI 0) = _
        unfold f_X7_manyTo_L22b
        dsimp only
        rw [ilen hM.1.2.1 rfl (show 0 < K 1 0 by omega) (by omega), ilep hM.1.1 rfl (show K 0 0 ≤ r by omega) (by omega)]
      rw [hl]; rfl
  unfold f_X7_manyTo cmK
  by_cases e : r = 0
  · have ht0 : t = 0 := by rw [e] at ht; have : wid K 0 = 1 := by unfold wid; rw [if_pos rfl]
                           omega
    have h2 := hK.1.1
    rw [e, if_pos (by decide), if_pos rfl]
    unfold f_X7_manyTo_J17
    have := j18 0
    rw [e, if_pos (by omega), Nat.zero_add] at this
    refine this.trans (congrArg (fun z => some (nI z)) (su_cg _ fun i hi => ?_))
    have hb := (hW.2.2.1 (24 * 1 + i) (by omega) (by omega)).1
    have htg : tg (K 1 0) (0 + 1) i (w (24 * (0 + 1) + i)) = 0 := rfl
    by_cases q : b (24 * 1 + i) = 0
    · rw [if_pos q, if_neg]
      intro z
      exact hb.mpr z.1 q
    · rw [if_neg q, if_pos ⟨hb.mp q, by rw [htg, ht0]⟩]
  · rw [if_neg (nI_nle (by omega) (by omega)), if_neg e, e_placeAtM hM h7 (wfb hK) (by omega) (by omega), Option.bind_some]
    have hsum : (if r < K 0 0 then su (fun i => if w (24 * (r + 1) + i) ≠ 3 ∧ tg (K 1 0) (r + 1) i (w (24 * (r + 1) + i)) = 24 * r + t then 1 else 0) (K 1 0) else 0) = (if r < K 0 0 then (if w (24 * (r + 1) + t) = 0 then 1 else 0) + (if w (24 * (r + 1) + nb (K 1 0) t 1) = 2 then 1 else 0) + (if w (24 * (r + 1) + nb (K 1 0) t 2) = 1 then 1 else 0) else 0) := by
      by_cases q : r < K 0 0
      · rw [if_pos q, if_pos q, ← su_in (x := fun i => w (24 * (r + 1) + i)) (show t < K 1 0 by omega) (fun i hi => (hW.1 _ (by omega)).2)]
        refine su_cg _ fun i hi => ?_
        have htg : tg (K 1 0) (r + 1) i (w (24 * (r + 1) + i)) = 24 * r + nb (K 1 0) i (w (24 * (r + 1) + i)) := by unfold tg; rw [if_neg (by omega)]; rfl
        rw [htg]
        by_cases z : w (24 * (r + 1) + i) ≠ 3 ∧ nb (K 1 0) i (w (24 * (r + 1) + i)) = t
        · rw [if_pos ⟨z.1, by omega⟩, if_pos z]
        · rw [if_neg (fun y => z ⟨y.1, by omega⟩), if_neg z]
      · rw [if_neg q, if_neg q]
    unfold cmc
    rw [← hsum]
    by_cases q : plc K r t < K 5 0
    · rw [if_pos q, if_neg (nI_pos (by omega)), if_pos q]; exact j18 1
    · rw [if_neg q, if_pos (by decide), if_neg q]
      unfold f_X7_manyTo_J17
      exact j18 0
theorem e_turnAt {M : Nat → Nat → Int32} {K : Nat → Nat → Nat} {b w : Nat → Nat} (hK : wfK K) (hM : repM M K) (hT : treeM M K b w) (hW : wfT K b w) {p j : Nat} (hp : p < K 5 0) (hj : j ≤ K 6 p) : f_X7_turnAt M (nI p) (nI j) = some (nI (if j = 0 then 0 else pth (K 1 0) w (K 6 p) (K 7 p) (K 6 p - j))) := by
  have h9 := hK.1.2.1
  have h24 := hK.1.2.2.2.1
  have h6 := hK.1.2.2.1
  have h7 := wf7 hK
  obtain ⟨w1, w2, w3, _⟩ := hK.2.1 p hp
  unfold f_X7_turnAt
  rw [zix_nI (by omega) (by decide), zlet_eq, zix_nI (by omega) (by decide), zlet_eq, nI_clamp (by omega), hM.2.1 7 p (by omega) (by omega) hp, hM.2.1 6 p (by omega) (by omega) hp]
  have hl : f_X7_turnAt_L15 M (nI j) zfuel (nI (K 7 p), nI (K 6 p)) = some (nI (if j = 0 then 0 else pth (K 1 0) w (K 6 p) (K 7 p) (K 6 p - j))) := by
    have h0 : K 7 p = if 0 = K 6 p then 0 else pth (K 1 0) w (K 6 p) (K 7 p) 0 := by rw [if_neg (by omega)]; rfl
    have hst : (nI (K 7 p), nI (K 6 p)) = (nI (if 0 = K 6 p then 0 else pth (K 1 0) w (K 6 p) (K 7 p) 0), nI (K 6 p - 0)) := by rw [← h0]; rfl
    rw [hst]
    refine zfor0 (fun i => (nI (if i = K 6 p then 0 else pth (K 1 0) w (K 6 p) (K 7 p) i), nI (K 6 p - i))) (K 6 p - j) _ (by omega) (fun i hi rec => ?_) (fun rec => ?_)
    · show f_X7_turnAt_L15b M (nI j) rec (nI (if i = K 6 p then 0 else pth (K 1 0) w (K 6 p) (K 7 p) i), nI (K 6 p - i)) = rec (nI (if i + 1 = K 6 p then 0 else nb (K 1 0) (pth (K 1 0) w (K 6 p) (K 7 p) i) (w (24 * (K 6 p - i) + pth (K 1 0) w (K 6 p) (K 7 p) i))), nI (K 6 p - (i + 1)))
      rw [if_neg (by omega)]
      have hlt := pth_lt (w := w) (r := K 6 p) w3 i
      generalize pth (K 1 0) w (K 6 p) (K 7 p) i = u at *
      unfold f_X7_turnAt_L15b
      dsimp only
      obtain ⟨m, hm⟩ : ∃ m, K 6 p - i = m + 1 := ⟨K 6 p - i - 1, by omega⟩
      rw [hm, if_neg (nI_ge (by omega) (by omega)), e_cellM, Option.bind_some, zix_nI (by omega) (by decide), nI_clamp (by omega), (hT _ (by omega)).1, e_ttS hM (by omega) (by omega) (by omega) hlt (hW.1 _ (by omega)).2, Option.bind_some, pk_m1, show K 6 p - (i + 1) = m by omega]
      by_cases q : m + 1 = 1
      · rw [if_pos q, if_pos (by omega)]
      · rw [if_neg q, if_neg (by omega)]
    · show f_X7_turnAt_L15b M (nI j) rec (nI (if K 6 p - j = K 6 p then 0 else _), nI (K 6 p - (K 6 p - j))) = _
      unfold f_X7_turnAt_L15b
      dsimp only
      rw [show K 6 p - (K 6 p - j) = j by omega, if_pos (nI_le (Nat.le_refl _) (by omega))]
      by_cases q : j = 0
      · rw [if_pos q, if_pos (by omega)]
      · rw [if_neg q, if_neg (by omega)]
  rw [hl]; rfl
/-- what a cell bears: the places whose ways go through it -/
theorem bor {K : Nat → Nat → Nat} {b w : Nat → Nat} (hK : wfK K) (hW : wfT K b w) {p : Nat} (hp : p < K 5 0) : ∀ d r t, 1 ≤ r → r ≤ K 0 0 → t < K 1 0 → K 0 0 - r = d → ((b (24 * r + t)).testBit p = true ↔ (r ≤ K 6 p ∧ pth (K 1 0) w (K 6 p) (K 7 p) (K 6 p - r) = t)) := by
  obtain ⟨w1, w2, w3, _⟩ := hK.2.1 p hp
  have h9 := hK.1.2.1
  have h24 := hK.1.2.2.2.1
  intro d
  induction d with
  | zero =>
    intro r t hr1 hr ht hd
    rw [hW.2.2.2 r t hr1 hr ht p hp]
    constructor
    · rintro (⟨q1, q2⟩ | ⟨t', _, q, _⟩)
      · exact ⟨by omega, by rw [show K 6 p - r = 0 by omega]; exact q2⟩
      · omega
    · rintro ⟨q1, q2⟩
      rw [show K 6 p - r = 0 by omega] at q2
      exact Or.inl ⟨by omega, q2⟩
  | succ d ih =>
    intro r t hr1 hr ht hd
    rw [hW.2.2.2 r t hr1 hr ht p hp]
    constructor
    · rintro (⟨q1, q2⟩ | ⟨t', ht', _, q3, q4, q5⟩)
      · exact ⟨by omega, by rw [show K 6 p - r = 0 by omega]; exact q2⟩
      · obtain ⟨z1, z2⟩ := (ih (r + 1) t' (by omega) (by omega) ht' (by omega)).mp q5
        refine ⟨by omega, ?_⟩
        rw [show K 6 p - r = (K 6 p - (r + 1)) + 1 by omega, pth, z2, show K 6 p - (K 6 p - (r + 1)) = r + 1 by omega]
        exact q4
    · rintro ⟨q1, q2⟩
      by_cases e : K 6 p = r
      · rw [show K 6 p - r = 0 by omega] at q2
        exact Or.inl ⟨e, q2⟩
      · rw [show K 6 p - r = (K 6 p - (r + 1)) + 1 by omega, pth, show K 6 p - (K 6 p - (r + 1)) = r + 1 by omega] at q2
        have hlt := pth_lt (w := w) (r := K 6 p) w3 (K 6 p - (r + 1))
        have hb := (ih (r + 1) (pth (K 1 0) w (K 6 p) (K 7 p) (K 6 p - (r + 1))) (by omega) (by omega) hlt (by omega)).mpr ⟨by omega, rfl⟩
        refine Or.inr ⟨_, hlt, by omega, ?_, q2, hb⟩
        refine (hW.2.2.1 _ (by omega) (by omega)).1.mp fun z => ?_
        rw [z, Nat.zero_testBit] at hb; cases hb
theorem e_borne {M : Nat → Nat → Int32} {K : Nat → Nat → Nat} {b w : Nat → Nat} (hK : wfK K) (hM : repM M K) (hT : treeM M K b w) (hW : wfT K b w) {r t : Nat} (hr1 : 1 ≤ r) (hr : r ≤ K 0 0) (ht : t < K 1 0) : f_X7_borne_L41 M (nI r) (nI t) zfuel (0, 0) = some (nI (b (24 * r + t))) := by
  have h9 := hK.1.2.1
  have h24 := hK.1.2.2.2.1
  have h7 := wf7 hK
  have hbP := (hW.1 (24 * r + t) (by omega)).1
  have hend : b (24 * r + t) % 2 ^ K 5 0 = b (24 * r + t) := Nat.mod_eq_of_lt hbP
  rw [← hend]
  have hst : ((0 : Int32), (0 : Int32)) = (nI (b (24 * r + t) % 2 ^ 0), nI 0) := by rw [Nat.pow_zero, Nat.mod_one]; rfl
  rw [hst]
  refine zfor0 (fun i => (nI (b (24 * r + t) % 2 ^ i), nI i)) (K 5 0) _ (by omega) (fun p hp rec => ?_) (fun rec => ?_)
  · show f_X7_borne_L41b M (nI r) (nI t) rec (nI (b (24 * r + t) % 2 ^ p), nI p) = rec (nI (b (24 * r + t) % 2 ^ (p + 1)), nI (p + 1))
    obtain ⟨w1, w2, w3, _⟩ := hK.2.1 p hp
    have hbo := bor hK hW hp _ r t hr1 hr ht rfl
    have hor : b (24 * r + t) % 2 ^ (p + 1) = if (b (24 * r + t)).testBit p = true then b (24 * r + t) % 2 ^ p ||| 2 ^ p else b (24 * r + t) % 2 ^ p := by
      apply Nat.eq_of_testBit_eq
      intro i
      by_cases q : (b (24 * r + t)).testBit p = true
      · rw [if_pos q, Nat.testBit_or, Nat.testBit_mod_two_pow, Nat.testBit_mod_two_pow, Nat.testBit_two_pow]
        by_cases z : i = p
        · subst z; simp [q]
        · have : i < p + 1 ↔ i < p := by omega
          simp [this, show p ≠ i from fun y => z y.symm]
      · rw [if_neg q, Nat.testBit_mod_two_pow, Nat.testBit_mod_two_pow]
        by_cases z : i = p
        · subst z; simp [q]
        · have : i < p + 1 ↔ i < p := by omega
          simp [this]
    unfold f_X7_borne_L41b f_X7_borne_J81 f_X7_borne_J82
    dsimp only
    rw [ilen hM.1.2.2.2.2.2 rfl hp (by omega), zix_nI (by omega) (by decide), nI_clamp (by omega), hM.2.1 6 p (by omega) (by omega) hp, sh1 p (by omega), nI_1, hor]
    simp only [zlet_eq]
    rw [nx_or, l_0, nx_or, Nat.or_zero]
    by_cases e : K 6 p < r
    · rw [if_pos (nI_lt e (by omega)), if_neg (fun q => by have := (hbo.mp q).1; omega)]
    · rw [if_neg (nI_nlt (by omega) (by omega)), e_turnAt hK hM hT hW hp (by omega), Option.bind_some, if_neg (show ¬ r = 0 by omega)]
      have hlt := pth_lt (w := w) (r := K 6 p) w3 (K 6 p - r)
      by_cases q : pth (K 1 0) w (K 6 p) (K 7 p) (K 6 p - r) = t
      · rw [if_pos (by rw [q]), if_pos (hbo.mpr ⟨by omega, q⟩)]
      · rw [if_neg (fun z => q ((nI_eq (by omega) (by omega)).mp z)), if_neg (fun z => q (hbo.mp z).2)]
  · show f_X7_borne_L41b M (nI r) (nI t) rec (nI _, nI (K 5 0)) = _
    unfold f_X7_borne_L41b
    dsimp only
    rw [ilep hM.1.2.2.2.2.2 rfl (Nat.le_refl _) (by omega)]
end TM2
