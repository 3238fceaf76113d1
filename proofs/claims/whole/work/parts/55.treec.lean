/-! trees by numbers: bits and sides (3: none); the class's answers -/
section TRC
def sdI (x : Nat) : Int32 := if x = 3 then -1 else nI x
def treeC (T : Nat → Nat → Int32) (b w : Nat → Nat) : Prop := ∀ c, c < 240 → T 3 c = nI (b c) ∧ T 4 c = sdI (w c)
def treeM (M : Nat → Nat → Int32) (K : Nat → Nat → Nat) (b w : Nat → Nat) : Prop := ∀ c, c < 240 → M 26 c = sdI (w c) ∧ M 27 c = nI (amtK K (b c))
def wfT (K : Nat → Nat → Nat) (b w : Nat → Nat) : Prop :=
  (∀ c, c < 240 → b c < 2 ^ K 5 0 ∧ w c < 4) ∧ (∀ c, c < 24 → w c = 3) ∧
  (∀ c, 24 ≤ c → c < 240 → (b c ≠ 0 ↔ w c ≠ 3) ∧ (w c ≠ 3 → c / 24 ≤ K 0 0 ∧ c % 24 < K 1 0 ∧ K 9 c = 0) ∧ (c < 48 → w c = 0 ∨ w c = 3)) ∧
  ∀ r t, 1 ≤ r → r ≤ K 0 0 → t < K 1 0 → ∀ p, p < K 5 0 → ((b (24 * r + t)).testBit p = true ↔ ((K 6 p = r ∧ K 7 p = t) ∨ ∃ t', t' < K 1 0 ∧ r < K 0 0 ∧ w (24 * (r + 1) + t') ≠ 3 ∧ nb (K 1 0) t' (w (24 * (r + 1) + t')) = t ∧ (b (24 * (r + 1) + t')).testBit p = true))
def su (f : Nat → Nat) : Nat → Nat
  | 0 => 0
  | n + 1 => su f n + f n
def mx (f : Nat → Nat) : Nat → Nat
  | 0 => 0
  | n + 1 => if mx f n < f n then f n else mx f n
theorem su_le {f : Nat → Nat} {B : Nat} : ∀ n, (∀ i, i < n → f i ≤ B) → su f n ≤ B * n := by
  intro n
  induction n with
  | zero => intro _; exact Nat.zero_le _
  | succ n ih => intro h; have := ih fun i hi => h i (by omega); have := h n (by omega); rw [su, Nat.mul_succ]; omega
theorem mx_le {f : Nat → Nat} {B : Nat} : ∀ n, (∀ i, i < n → f i ≤ B) → mx f n ≤ B := by
  intro n
  induction n with
  | zero => intro _; exact Nat.zero_le _
  | succ n ih => intro h; have h1 := ih fun i hi => h i (by omega); have h2 := h n (by omega); rw [mx]; split <;> omega
theorem su_cg {f g : Nat → Nat} : ∀ n, (∀ i, i < n → f i = g i) → su f n = su g n := by
  intro n
  induction n with
  | zero => intro _; rfl
  | succ n ih => intro h; rw [su, su, ih fun i hi => h i (by omega), h n (by omega)]
theorem mx_cg {f g : Nat → Nat} : ∀ n, (∀ i, i < n → f i = g i) → mx f n = mx g n := by
  intro n
  induction n with
  | zero => intro _; rfl
  | succ n ih => intro h; rw [mx, mx, ih fun i hi => h i (by omega), h n (by omega)]
theorem sd_0 {x : Nat} (h : x < 4) : sdI x = 0 ↔ x = 0 := by
  unfold sdI
  by_cases e : x = 3
  · subst e; decide
  · rw [if_neg e]; exact nq0 (by omega)
theorem sd_1 {x : Nat} (h : x < 4) : sdI x = 1 ↔ x = 1 := by
  unfold sdI
  by_cases e : x = 3
  · subst e; decide
  · rw [if_neg e]; exact nq1 (by omega)
theorem sd_2 {x : Nat} (h : x < 4) : sdI x = 2 ↔ x = 2 := by
  unfold sdI
  by_cases e : x = 3
  · subst e; decide
  · rw [if_neg e]; exact nq2 (by omega)
theorem sd_n {x : Nat} (h : x < 4) : sdI x < 0 ↔ x = 3 := by
  unfold sdI
  by_cases e : x = 3
  · subst e; decide
  · rw [if_neg e]; exact ⟨fun q => absurd q (nI_pos (by omega)), fun q => absurd q e⟩
theorem sd_ge {x : Nat} (h : x < 4) : 0 ≤ sdI x ↔ x ≠ 3 := by
  unfold sdI
  by_cases e : x = 3
  · subst e; decide
  · rw [if_neg e]; exact ⟨fun _ => e, fun _ => nI_pos' (by omega)⟩
theorem sd_le0 {x : Nat} (h : x < 4) : sdI x ≤ 0 ↔ (x = 0 ∨ x = 3) := by
  unfold sdI
  by_cases e : x = 3
  · subst e; decide
  · rw [if_neg e, l_0, nI_leI (by omega) (by omega)]; omega
theorem sd_ne {x : Nat} (h : x ≠ 3) : sdI x = nI x := if_neg h
theorem nb_3 (N t : Nat) : nb N t 3 = t := rfl
theorem e_tbS {S : Nat → Nat → Int32} {K : Nat → Nat → Nat} (hS : repC S K) (hN : 1 ≤ K 1 0) (hN2 : K 1 0 ≤ 24) {t s : Nat} (ht : t < K 1 0) (hs : s < 4) : f_X1_turnBeside S (nI t) (sdI s) = some (nI (nb (K 1 0) t s)) := by
  by_cases e : s = 3
  · subst e
    rw [nb_3]
    unfold f_X1_turnBeside
    rw [if_neg (by decide), if_neg (by decide)]
  · rw [sd_ne e]; exact e_turnBeside hS hN hN2 ht (by omega)
theorem e_tb1 {S : Nat → Nat → Int32} {K : Nat → Nat → Nat} (hS : repC S K) (hN : 1 ≤ K 1 0) (hN2 : K 1 0 ≤ 24) {t : Nat} (ht : t < K 1 0) : f_X1_turnBeside S (nI t) 1 = some (nI (nb (K 1 0) t 1)) := e_turnBeside hS hN hN2 ht (s := 1) (by decide)
theorem e_tb2 {S : Nat → Nat → Int32} {K : Nat → Nat → Nat} (hS : repC S K) (hN : 1 ≤ K 1 0) (hN2 : K 1 0 ≤ 24) {t : Nat} (ht : t < K 1 0) : f_X1_turnBeside S (nI t) 2 = some (nI (nb (K 1 0) t 2)) := e_turnBeside hS hN hN2 ht (s := 2) (by decide)
theorem e_branchesOf {T S1 : Nat → Nat → Int32} {K : Nat → Nat → Nat} {b w : Nat → Nat} (hK : wfK K) (hC : repC S1 K) (hT : treeC T b w) (hb : ∀ c, c < 240 → b c < 128) {r : Nat} (hr : r ≤ 9) : f_X5_branchesOf T S1 (nI r) = some (nI (su (fun t => if b (24 * r + t) = 0 then 0 else 1) (K 1 0))) := by
  have h24 := hK.1.2.2.2.1
  have hl : f_X5_branchesOf_L5 T S1 (nI r) zfuel (0, 0) = some (nI (su (fun t => if b (24 * r + t) = 0 then 0 else 1) (K 1 0))) := by
    refine zfor0 (fun i => (nI (su (fun t => if b (24 * r + t) = 0 then 0 else 1) i), nI i)) (K 1 0) _ (by omega) (fun i hi rec => ?_) (fun rec => ?_)
    · show f_X5_branchesOf_L5b T S1 (nI r) rec (nI _, nI i) = rec (nI (su _ i + _), nI (i + 1))
      unfold f_X5_branchesOf_L5b f_X5_branchesOf_J31
      dsimp only
      have hbc := hb (24 * r + i) (by omega)
      rw [ilen (hC.1 1 (by omega)) rfl hi (by omega), e_cellOf, Option.bind_some, zix_nI (by omega) (by decide), nI_clamp (by omega), (hT _ (by omega)).1]
      by_cases e : b (24 * r + i) = 0
      · rw [e, if_pos nI_0, if_pos rfl, nI_1]; rfl
      · rw [if_neg (nI_ne0 (by omega) (by omega)), if_neg e, nI_1, nI_1]
    · show f_X5_branchesOf_L5b T S1 (nI r) rec (nI _, nI (K 1 0)) = _
      unfold f_X5_branchesOf_L5b
      dsimp only
      rw [ilep (hC.1 1 (by omega)) rfl (Nat.le_refl _) (by omega)]
  unfold f_X5_branchesOf
  rw [hl]; rfl
theorem e_steps {T S1 : Nat → Nat → Int32} {K : Nat → Nat → Nat} {b w : Nat → Nat} (hK : wfK K) (hC : repC S1 K) (hT : treeC T b w) (hb : ∀ c, c < 240 → b c < 128) : f_X5_steps T S1 = some (nI (su (fun i => su (fun t => if b (24 * (i + 1) + t) = 0 then 0 else 1) (K 1 0)) (K 0 0))) := by
  have h9 := hK.1.2.1
  have hl : f_X5_steps_L4 T S1 zfuel (0, 1) = some (nI (su (fun i => su (fun t => if b (24 * (i + 1) + t) = 0 then 0 else 1) (K 1 0)) (K 0 0))) := by
    refine zfor0 (fun i => (nI (su (fun i => su (fun t => if b (24 * (i + 1) + t) = 0 then 0 else 1) (K 1 0)) i), nI (i + 1))) (K 0 0) _ (by omega) (fun i hi rec => ?_) (fun rec => ?_)
    · show f_X5_steps_L4b T S1 rec (nI _, nI (i + 1)) = rec (nI (su _ i + _), nI (i + 1 + 1))
      unfold f_X5_steps_L4b
      dsimp only
      rw [iltn (hC.1 0 (by omega)) rfl (by omega) (by omega), e_branchesOf hK hC hT hb (by omega), Option.bind_some, zlet_eq, nI_add, nI_1]
    · show f_X5_steps_L4b T S1 rec (nI _, nI (K 0 0 + 1)) = _
      unfold f_X5_steps_L4b
      dsimp only
      rw [iltp (hC.1 0 (by omega)) rfl (by omega) (by omega)]
  unfold f_X5_steps
  rw [hl]; rfl
theorem e_mostOf {T S1 : Nat → Nat → Int32} {K : Nat → Nat → Nat} {b w : Nat → Nat} (hK : wfK K) (hC : repC S1 K) (hT : treeC T b w) (hb : ∀ c, c < 240 → b c < 128) : f_X5_mostOfOneRing T S1 = some (nI (mx (fun i => su (fun t => if b (24 * (i + 1) + t) = 0 then 0 else 1) (K 1 0)) (K 0 0))) := by
  have h9 := hK.1.2.1
  have h24 := hK.1.2.2.2.1
  have hsu : ∀ i, su (fun t => if b (24 * (i + 1) + t) = 0 then 0 else 1) (K 1 0) ≤ 24 := fun i => by
    have := su_le (f := fun t => if b (24 * (i + 1) + t) = 0 then 0 else 1) (B := 1) (K 1 0) (fun t _ => by split <;> omega)
    omega
  have hl : f_X5_mostOfOneRing_L4 T S1 zfuel (0, 1) = some (nI (mx (fun i => su (fun t => if b (24 * (i + 1) + t) = 0 then 0 else 1) (K 1 0)) (K 0 0))) := by
    refine zfor0 (fun i => (nI (mx (fun i => su (fun t => if b (24 * (i + 1) + t) = 0 then 0 else 1) (K 1 0)) i), nI (i + 1))) (K 0 0) _ (by omega) (fun i hi rec => ?_) (fun rec => ?_)
    · show f_X5_mostOfOneRing_L4b T S1 rec (nI _, nI (i + 1)) = rec (nI (mx _ (i + 1)), nI (i + 1 + 1))
      unfold f_X5_mostOfOneRing_L4b
      dsimp only
      have hm := mx_le (f := fun i => su (fun t => if b (24 * (i + 1) + t) = 0 then 0 else 1) (K 1 0)) i (fun j _ => hsu j)
      have hs := hsu i
      rw [iltn (hC.1 0 (by omega)) rfl (by omega) (by omega), e_branchesOf hK hC hT hb (by omega), Option.bind_some, zlet_eq, nI_1, mx]
      by_cases e : mx (fun i => su (fun t => if b (24 * (i + 1) + t) = 0 then 0 else 1) (K 1 0)) i < su (fun t => if b (24 * (i + 1) + t) = 0 then 0 else 1) (K 1 0)
      · rw [if_pos (nI_lt e (by omega)), if_pos e]
      · rw [if_neg (nI_nlt (by omega) (by omega)), if_neg e]
    · show f_X5_mostOfOneRing_L4b T S1 rec (nI _, nI (K 0 0 + 1)) = _
      unfold f_X5_mostOfOneRing_L4b
      dsimp only
      rw [iltp (hC.1 0 (by omega)) rfl (by omega) (by omega)]
  unfold f_X5_mostOfOneRing
  rw [hl]; rfl
theorem e_bendsAt {T : Nat → Nat → Int32} {b w : Nat → Nat} (hT : treeC T b w) {c : Nat} (hw : w c < 4) (hc : c < 240) : f_X5_bendsAt T (nI c) = some (if w c = 1 ∨ w c = 2 then 1 else 0) := by
  unfold f_X5_bendsAt
  rw [zix_nI hc (by decide), zix_nI hc (by decide), nI_clamp (by omega), (hT c hc).2]
  by_cases e1 : w c = 1
  · rw [if_pos ((sd_1 hw).mpr e1), if_pos (Or.inl e1)]
  · rw [if_neg (fun q => e1 ((sd_1 hw).mp q))]
    by_cases e2 : w c = 2
    · rw [if_pos ((sd_2 hw).mpr e2), if_pos (Or.inr e2)]
    · rw [if_neg (fun q => e2 ((sd_2 hw).mp q)), if_neg (by omega)]
theorem e_bends {T : Nat → Nat → Int32} {b w : Nat → Nat} (hT : treeC T b w) (hw : ∀ c, c < 240 → w c < 4) : f_X5_bends T = some (nI (su (fun c => if w c = 1 ∨ w c = 2 then 1 else 0) 240)) := by
  have hl : f_X5_bends_L4 T zfuel (0, 0) = some (nI (su (fun c => if w c = 1 ∨ w c = 2 then 1 else 0) 240)) := by
    refine zfor0 (fun i => (nI (su (fun c => if w c = 1 ∨ w c = 2 then 1 else 0) i), nI i)) 240 _ (by omega) (fun i hi rec => ?_) (fun rec => ?_)
    · show f_X5_bends_L4b T rec (nI _, nI i) = rec (nI (su _ i + _), nI (i + 1))
      unfold f_X5_bends_L4b f_X5_bends_J22
      dsimp only
      rw [l_240, if_neg (nI_ge hi (by omega)), e_bendsAt hT (hw i hi) hi, Option.bind_some]
      by_cases e : w i = 1 ∨ w i = 2
      · rw [if_pos e, if_pos e, if_neg (by decide), nI_1, nI_1]
      · rw [if_neg e, if_neg e, if_pos rfl, nI_1]; rfl
    · show f_X5_bends_L4b T rec (nI _, nI 240) = _
      unfold f_X5_bends_L4b
      dsimp only
      rw [l_240, if_pos (nI_le (Nat.le_refl _) (by omega))]
  unfold f_X5_bends
  rw [hl]; rfl
def acr (N : Nat) (w : Nat → Nat) (r t : Nat) : Nat := if w (24 * r + t) = 2 ∧ w (24 * r + nb N t 2) = 1 then 1 else 0
theorem e_couples {T S1 : Nat → Nat → Int32} {K : Nat → Nat → Nat} {b w : Nat → Nat} (hK : wfK K) (hC : repC S1 K) (hT : treeC T b w) (hw : ∀ c, c < 240 → w c < 4) : f_X5_couplesAcross T S1 = some (nI (su (fun i => su (acr (K 1 0) w (i + 1)) (K 1 0)) (K 0 0))) := by
  have h9 := hK.1.2.1
  have h24 := hK.1.2.2.2.1
  have h6 := hK.1.2.2.1
  have inn : ∀ r a0, r ≤ 9 → f_X5_couplesAcross_L15 T S1 (nI r) zfuel (nI a0, 0) = some (nI (a0 + su (acr (K 1 0) w r) (K 1 0))) := by
    intro r a0 hr
    refine zfor0 (fun i => (nI (a0 + su (acr (K 1 0) w r) i), nI i)) (K 1 0) _ (by omega) (fun i hi rec => ?_) (fun rec => ?_)
    · show f_X5_couplesAcross_L15b T S1 (nI r) rec (nI (a0 + su _ i), nI i) = rec (nI (a0 + (su _ i + _)), nI (i + 1))
      have hn := nb_lt 2 hi
      unfold f_X5_couplesAcross_L15b f_X5_couplesAcross_J66 acr
      dsimp only
      rw [ilen (hC.1 1 (by omega)) rfl hi (by omega), e_tb2 hC (by omega) (by omega) hi, Option.bind_some, e_cellOf, Option.bind_some, e_cellOf, Option.bind_some, zix_nI (by omega) (by decide), zix_nI (by omega) (by decide), nI_clamp (by omega), nI_clamp (by omega), (hT _ (by omega)).2, (hT _ (by omega)).2]
      have w1 := hw (24 * r + i) (by omega)
      have w2 := hw (24 * r + nb (K 1 0) i 2) (by omega)
      by_cases e1 : w (24 * r + i) = 2
      · rw [if_pos ((sd_2 w1).mpr e1)]
        by_cases e2 : w (24 * r + nb (K 1 0) i 2) = 1
        · rw [if_pos ((sd_1 w2).mpr e2), if_pos ⟨e1, e2⟩, nI_1, nI_1]; rfl
        · rw [if_neg (fun q => e2 ((sd_1 w2).mp q)), if_neg (by omega), nI_1]; rfl
      · rw [if_neg (fun q => e1 ((sd_2 w1).mp q)), if_neg (by omega), nI_1]; rfl
    · show f_X5_couplesAcross_L15b T S1 (nI r) rec (nI _, nI (K 1 0)) = _
      unfold f_X5_couplesAcross_L15b
      dsimp only
      rw [ilep (hC.1 1 (by omega)) rfl (Nat.le_refl _) (by omega)]
  have hl : f_X5_couplesAcross_L4 T S1 zfuel (0, 1) = some (nI (su (fun i => su (acr (K 1 0) w (i + 1)) (K 1 0)) (K 0 0))) := by
    refine zfor0 (fun i => (nI (su (fun i => su (acr (K 1 0) w (i + 1)) (K 1 0)) i), nI (i + 1))) (K 0 0) _ (by omega) (fun i hi rec => ?_) (fun rec => ?_)
    · show f_X5_couplesAcross_L4b T S1 rec (nI _, nI (i + 1)) = rec (nI (su _ i + _), nI (i + 1 + 1))
      unfold f_X5_couplesAcross_L4b
      dsimp only
      rw [iltn (hC.1 0 (by omega)) rfl (by omega) (by omega), inn _ _ (by omega), Option.bind_some, nI_1]
    · show f_X5_couplesAcross_L4b T S1 rec (nI _, nI (K 0 0 + 1)) = _
      unfold f_X5_couplesAcross_L4b
      dsimp only
      rw [iltp (hC.1 0 (by omega)) rfl (by omega) (by omega)]
  unfold f_X5_couplesAcross
  rw [hl]; rfl
def mxf (f : Nat → Nat) (a : Nat) : Nat → Nat
  | 0 => a
  | n + 1 => if mxf f a n < f n then f n else mxf f a n
theorem mxf_le {f : Nat → Nat} {a B : Nat} (ha : a ≤ B) : ∀ n, (∀ i, i < n → f i ≤ B) → mxf f a n ≤ B := by
  intro n
  induction n with
  | zero => intro _; exact ha
  | succ n ih => intro h; have h1 := ih fun i hi => h i (by omega); have h2 := h n (by omega); rw [mxf]; split <;> omega
theorem e_width {T S1 : Nat → Nat → Int32} {K : Nat → Nat → Nat} {b w : Nat → Nat} (hK : wfK K) (hC : repC S1 K) (hT : treeC T b w) (hb : ∀ c, c < 240 → b c < 128) : ∃ g : Nat → Nat, g 0 = 0 ∧ (∀ i, g (i + 1) = mxf (fun t => amtK K (b (24 * (i + 1) + t))) (g i) (K 1 0)) ∧ f_X5_greatestWidth T S1 = some (nI (g (K 0 0))) := by
  have h9 := hK.1.2.1
  have h24 := hK.1.2.2.2.1
  have ham := amt_le hK
  have inn : ∀ r a0, r ≤ 9 → a0 ≤ 693 → f_X5_greatestWidth_L15 T S1 (nI r) zfuel (nI a0, 0) = some (nI (mxf (fun t => amtK K (b (24 * r + t))) a0 (K 1 0))) := by
    intro r a0 hr ha0
    refine zfor0 (fun i => (nI (mxf (fun t => amtK K (b (24 * r + t))) a0 i), nI i)) (K 1 0) _ (by omega) (fun i hi rec => ?_) (fun rec => ?_)
    · show f_X5_greatestWidth_L15b T S1 (nI r) rec (nI (mxf _ a0 i), nI i) = rec (nI (mxf _ a0 (i + 1)), nI (i + 1))
      have hm := mxf_le (f := fun t => amtK K (b (24 * r + t))) ha0 i (fun j _ => ham _)
      have hs := ham (b (24 * r + i))
      unfold f_X5_greatestWidth_L15b
      dsimp only
      rw [ilen (hC.1 1 (by omega)) rfl hi (by omega), e_cellOf, Option.bind_some, zix_nI (by omega) (by decide), nI_clamp (by omega), (hT _ (by omega)).1, e_amountOf hC (wf7 hK) (hb _ (by omega)), Option.bind_some, zlet_eq, nI_1, mxf]
      by_cases e : mxf (fun t => amtK K (b (24 * r + t))) a0 i < amtK K (b (24 * r + i))
      · rw [if_pos (nI_lt e (by omega)), if_pos e]
      · rw [if_neg (nI_nlt (by omega) (by omega)), if_neg e]
    · show f_X5_greatestWidth_L15b T S1 (nI r) rec (nI _, nI (K 1 0)) = _
      unfold f_X5_greatestWidth_L15b
      dsimp only
      rw [ilep (hC.1 1 (by omega)) rfl (Nat.le_refl _) (by omega)]
  refine ⟨fun i => Nat.rec 0 (fun i g => mxf (fun t => amtK K (b (24 * (i + 1) + t))) g (K 1 0)) i, rfl, fun i => rfl, ?_⟩
  generalize hg : (fun i => Nat.rec 0 (fun i g => mxf (fun t => amtK K (b (24 * (i + 1) + t))) g (K 1 0)) i : Nat → Nat) = g
  have g0 : g 0 = 0 := by subst hg; rfl
  have gs : ∀ i, g (i + 1) = mxf (fun t => amtK K (b (24 * (i + 1) + t))) (g i) (K 1 0) := fun i => by subst hg; rfl
  have gle : ∀ i, g i ≤ 693 := by
    intro i
    induction i with
    | zero => rw [g0]; omega
    | succ i ih => rw [gs]; exact mxf_le ih _ (fun j _ => ham _)
  have hl : f_X5_greatestWidth_L4 T S1 zfuel (0, 1) = some (nI (g (K 0 0))) := by
    have h0 : ((0 : Int32), (1 : Int32)) = (nI (g 0), nI (0 + 1)) := by rw [g0]; rfl
    rw [h0]
    refine zfor0 (fun i => (nI (g i), nI (i + 1))) (K 0 0) _ (by omega) (fun i hi rec => ?_) (fun rec => ?_)
    · show f_X5_greatestWidth_L4b T S1 rec (nI _, nI (i + 1)) = rec (nI (g (i + 1)), nI (i + 1 + 1))
      unfold f_X5_greatestWidth_L4b
      dsimp only
      rw [iltn (hC.1 0 (by omega)) rfl (by omega) (by omega), inn _ _ (by omega) (gle i), Option.bind_some, nI_1, gs]
    · show f_X5_greatestWidth_L4b T S1 rec (nI _, nI (K 0 0 + 1)) = _
      unfold f_X5_greatestWidth_L4b
      dsimp only
      rw [iltp (hC.1 0 (by omega)) rfl (by omega) (by omega)]
  unfold f_X5_greatestWidth
  rw [hl]; rfl
end TRC
