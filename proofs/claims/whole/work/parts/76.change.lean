/-! charts that change, of both -/
section CHG
def eqK (K K' : Nat → Nat → Nat) : Prop := ∀ k j, (k ≠ 5 ∨ j = 0) → K k j = K' k j
theorem repC_eq {S : Nat → Nat → Int32} {K K' : Nat → Nat → Nat} (h : eqK K K') (hS : repC S K) : repC S K' := by
  have h5 : K 5 0 = K' 5 0 := h 5 0 (by omega)
  refine ⟨fun k hk => ?_, fun k p h1 h2 h3 => ?_, fun c hc => ?_⟩
  · rw [← h k 0 (Or.inr rfl)]; exact hS.1 k hk
  · rw [← h k p (by omega)]; exact hS.2.1 k p h1 h2 (by omega)
  · rw [← h 9 c (by omega)]; exact hS.2.2 c hc
theorem repM_eq {M : Nat → Nat → Int32} {K K' : Nat → Nat → Nat} (h : eqK K K') (hM : repM M K) : repM M K' := by
  have h5 : K 5 0 = K' 5 0 := h 5 0 (by omega)
  unfold repM
  rw [← h 0 0 (by omega), ← h 1 0 (by omega), ← h 2 0 (by omega), ← h 3 0 (by omega), ← h 4 0 (by omega), ← h5]
  refine ⟨hM.1, fun k p h1 h2 h3 => ?_, fun c hc => ?_⟩
  · rw [← h k p (by omega)]; exact hM.2.1 k p h1 h2 h3
  · rw [← h 9 c (by omega)]; exact hM.2.2 c hc
def clrK (K : Nat → Nat → Nat) (R N : Nat) : Nat → Nat → Nat := fun k j => if k = 0 then R else if k = 1 then N else if k = 5 then 0 else if k = 9 then 0 else K k j
def begK (R N : Nat) : Nat → Nat → Nat := fun k _ => if k = 0 then R else if k = 1 then N else if k = 2 then 10 else if k = 3 then 4 else if k = 4 then 3 else 0
theorem clr_wf {K : Nat → Nat → Nat} {R N : Nat} (hb : 1 ≤ K 2 0 ∧ K 2 0 ≤ 99 ∧ K 3 0 ≤ 40 ∧ K 4 0 ≤ 6) (h1 : 2 ≤ R) (h2 : R ≤ 9) (h3 : 6 ≤ N) (h4 : N ≤ 24) : wfK (clrK K R N) := by
  refine ⟨⟨h1, h2, h3, h4, hb.1, hb.2.1, hb.2.2.1, hb.2.2.2, Nat.zero_le _⟩, fun p hp => ?_, fun p q _ hq => ?_, fun c => Nat.zero_le _, fun c hc => ?_⟩
  · exact absurd hp (Nat.not_lt_zero _)
  · exact absurd hq (Nat.not_lt_zero _)
  · have hc' : (0 : Nat) = 1 := hc
    omega
theorem beg_wf {R N : Nat} (h1 : 2 ≤ R) (h2 : R ≤ 9) (h3 : 6 ≤ N) (h4 : N ≤ 24) : wfK (begK R N) := by
  refine ⟨⟨h1, h2, h3, h4, (by decide : 1 ≤ 10), (by decide : 10 ≤ 99), (by decide : 4 ≤ 40), (by decide : 3 ≤ 6), Nat.zero_le _⟩, fun p hp => ?_, fun p q _ hq => ?_, fun c => Nat.zero_le _, fun c hc => ?_⟩
  · exact absurd hp (Nat.not_lt_zero _)
  · exact absurd hq (Nat.not_lt_zero _)
  · have hc' : (0 : Nat) = 1 := hc
    omega
theorem e_clearC {S : Nat → Nat → Int32} (v1 v2 : Int32) : ∃ S', f_X1_clear S v1 v2 = some S' ∧ S' 0 0 = v1 ∧ S' 1 0 = v2 ∧ S' 5 0 = 0 ∧ (∀ c, c < 240 → S' 9 c = 0) ∧ ∀ k, k ≠ 0 → k ≠ 1 → k ≠ 5 → k ≠ 9 → S' k = S k := by
  have key : ∃ ex : Nat → Nat → Int32, ((∀ c, c < 240 → ex 9 c = 0) ∧ ∀ k, k ≠ 9 → ex k = zst (zst (zst S 0 0 v1) 1 0 v2) 5 0 0 k) ∧ zloop (fun rec a => f_X1_clear_L17b rec a) zfuel (0, zst (zst (zst S 0 0 v1) 1 0 v2) 5 0 0) = some ex := by
    refine zinv (I := fun i a => ∃ A, a = (nI i, A) ∧ (∀ c, c < i → A 9 c = 0) ∧ ∀ k, k ≠ 9 → A k = zst (zst (zst S 0 0 v1) 1 0 v2) 5 0 0 k) _ 240 (by omega) ?_ ?_ ?_
    · rintro i hi a ⟨A, rfl, g1, g2⟩
      refine ⟨(nI (i + 1), zst A 9 i 0), ⟨_, rfl, fun c hc => ?_, fun k hk => by rw [zst_ne _ hk]; exact g2 k hk⟩, fun rec => ?_⟩
      · by_cases e : c = i
        · rw [e, zst_same]
        · rw [zst_row, upd_ne _ e]; exact g1 c (by omega)
      · unfold f_X1_clear_L17b
        dsimp only
        rw [l_240, if_neg (nI_ge hi (by omega)), zix_nI hi (by decide), zlet_eq, nI_1]
    · rintro a ⟨A, rfl, g1, g2⟩
      refine ⟨A, ⟨g1, g2⟩, fun rec => ?_⟩
      unfold f_X1_clear_L17b
      dsimp only
      rw [l_240, if_pos (nI_le (Nat.le_refl _) (by omega))]
    · exact ⟨_, rfl, fun c hc => by omega, fun _ _ => rfl⟩
  obtain ⟨S', ⟨q1, q2⟩, hz⟩ := key
  refine ⟨S', ?_, ?_, ?_, ?_, q1, fun k k0 k1 k5 k9 => ?_⟩
  · unfold f_X1_clear
    simp only [zlet_eq]
    show (zloop (fun rec a => f_X1_clear_L17b rec a) zfuel (0, zst (zst (zst S 0 0 v1) 1 0 v2) 5 0 0)).bind _ = _
    rw [hz]; rfl
  · rw [q2 0 (by decide), zst_ne _ (by decide), zst_ne _ (by decide), zst_same]
  · rw [q2 1 (by decide), zst_ne _ (by decide), zst_same]
  · rw [q2 5 (by decide), zst_same]
  · rw [q2 k k9, zst_ne _ k5, zst_ne _ k1, zst_ne _ k0]
theorem e_clearK {S : Nat → Nat → Int32} {K : Nat → Nat → Nat} (hS : repC S K) (R N : Nat) : ∃ S', f_X1_clear S (nI R) (nI N) = some S' ∧ repC S' (clrK K R N) := by
  obtain ⟨S', e1, a0, a1, a5, a9, ao⟩ := e_clearC (S := S) (nI R) (nI N)
  refine ⟨S', e1, fun k hk => ?_, fun k p _ _ hp => absurd hp (Nat.not_lt_zero _), fun c hc => ?_⟩
  · have : k = 0 ∨ k = 1 ∨ k = 2 ∨ k = 3 ∨ k = 4 ∨ k = 5 := by omega
    rcases this with rfl | rfl | rfl | rfl | rfl | rfl
    · exact a0
    · exact a1
    · rw [ao 2 (by decide) (by decide) (by decide) (by decide)]; exact hS.1 2 (by omega)
    · rw [ao 3 (by decide) (by decide) (by decide) (by decide)]; exact hS.1 3 (by omega)
    · rw [ao 4 (by decide) (by decide) (by decide) (by decide)]; exact hS.1 4 (by omega)
    · exact a5
  · exact a9 c hc
theorem e_beginAnew {S : Nat → Nat → Int32} (R N : Nat) : ∃ S', f_X1_beginAnew S (nI R) (nI N) = some S' ∧ repC S' (begK R N) := by
  obtain ⟨S', e1, a0, a1, a5, a9, ao⟩ := e_clearC (S := S) (nI R) (nI N)
  refine ⟨zst (zst (zst S' 2 0 10) 3 0 4) 4 0 3, ?_, fun k hk => ?_, fun k p _ _ hp => absurd hp (Nat.not_lt_zero _), fun c hc => ?_⟩
  · unfold f_X1_beginAnew
    rw [e1]; rfl
  · have : k = 0 ∨ k = 1 ∨ k = 2 ∨ k = 3 ∨ k = 4 ∨ k = 5 := by omega
    rcases this with rfl | rfl | rfl | rfl | rfl | rfl
    · rw [zst_ne _ (by decide), zst_ne _ (by decide), zst_ne _ (by decide)]; exact a0
    · rw [zst_ne _ (by decide), zst_ne _ (by decide), zst_ne _ (by decide)]; exact a1
    · rw [zst_ne _ (by decide), zst_ne _ (by decide), zst_same]; rfl
    · rw [zst_ne _ (by decide), zst_same]; rfl
    · rw [zst_same]; rfl
    · rw [zst_ne _ (by decide), zst_ne _ (by decide), zst_ne _ (by decide)]; exact a5
  · rw [zst_ne _ (by decide), zst_ne _ (by decide), zst_ne _ (by decide)]; exact a9 c hc
theorem e_begins {M : Nat → Nat → Int32} (v1 v2 : Int32) : ∃ M', f_X7_begins M v1 v2 = some M' ∧ M' 1 0 = v1 ∧ M' 2 0 = v2 ∧ M' 9 0 = 0 ∧ (∀ c, c < 240 → M' 10 c = 0) ∧ ∀ k, k ≠ 1 → k ≠ 2 → k ≠ 9 → k ≠ 10 → M' k = M k := by
  have key : ∃ ex : Nat → Nat → Int32, ((∀ c, c < 240 → ex 10 c = 0) ∧ ∀ k, k ≠ 10 → ex k = zst (zst (zst M 1 0 v1) 2 0 v2) 9 0 0 k) ∧ zloop (fun rec a => f_X7_begins_L17b rec a) zfuel (0, zst (zst (zst M 1 0 v1) 2 0 v2) 9 0 0) = some ex := by
    refine zinv (I := fun i a => ∃ A, a = (nI i, A) ∧ (∀ c, c < i → A 10 c = 0) ∧ ∀ k, k ≠ 10 → A k = zst (zst (zst M 1 0 v1) 2 0 v2) 9 0 0 k) _ 240 (by omega) ?_ ?_ ?_
    · rintro i hi a ⟨A, rfl, g1, g2⟩
      refine ⟨(nI (i + 1), zst A 10 i 0), ⟨_, rfl, fun c hc => ?_, fun k hk => by rw [zst_ne _ hk]; exact g2 k hk⟩, fun rec => ?_⟩
      · by_cases e : c = i
        · rw [e, zst_same]
        · rw [zst_row, upd_ne _ e]; exact g1 c (by omega)
      · unfold f_X7_begins_L17b
        dsimp only
        rw [l_240, if_neg (nI_ge hi (by omega)), zix_nI hi (by decide), zlet_eq, nI_1]
    · rintro a ⟨A, rfl, g1, g2⟩
      refine ⟨A, ⟨g1, g2⟩, fun rec => ?_⟩
      unfold f_X7_begins_L17b
      dsimp only
      rw [l_240, if_pos (nI_le (Nat.le_refl _) (by omega))]
    · exact ⟨_, rfl, fun c hc => by omega, fun _ _ => rfl⟩
  obtain ⟨S', ⟨q1, q2⟩, hz⟩ := key
  refine ⟨S', ?_, ?_, ?_, ?_, q1, fun k k0 k1 k5 k9 => ?_⟩
  · unfold f_X7_begins
    simp only [zlet_eq]
    show (zloop (fun rec a => f_X7_begins_L17b rec a) zfuel (0, zst (zst (zst M 1 0 v1) 2 0 v2) 9 0 0)).bind _ = _
    rw [hz]; rfl
  · rw [q2 1 (by decide), zst_ne _ (by decide), zst_ne _ (by decide), zst_same]
  · rw [q2 2 (by decide), zst_ne _ (by decide), zst_same]
  · rw [q2 9 (by decide), zst_same]
  · rw [q2 k k9, zst_ne _ k5, zst_ne _ k1, zst_ne _ k0]
theorem e_beginsK {M : Nat → Nat → Int32} {K : Nat → Nat → Nat} (hM : repM M K) (R N : Nat) : ∃ M', f_X7_begins M (nI R) (nI N) = some M' ∧ repM M' (clrK K R N) ∧ ∀ k, k ≠ 1 → k ≠ 2 → k ≠ 9 → k ≠ 10 → M' k = M k := by
  obtain ⟨M', e1, a0, a1, a5, a9, ao⟩ := e_begins (M := M) (nI R) (nI N)
  refine ⟨M', e1, ⟨⟨a0, a1, ?_, ?_, ?_, a5⟩, fun k p _ _ hp => absurd hp (Nat.not_lt_zero _), fun c hc => a9 c hc⟩, ao⟩
  · rw [ao 3 (by decide) (by decide) (by decide) (by decide)]; exact hM.1.2.2.1
  · rw [ao 4 (by decide) (by decide) (by decide) (by decide)]; exact hM.1.2.2.2.1
  · rw [ao 5 (by decide) (by decide) (by decide) (by decide)]; exact hM.1.2.2.2.2.1
theorem e_behind {S : Nat → Nat → Int32} {p r t : Nat} {x6 x7 : Nat} (hp : p < 7) (h6 : S 6 p = nI x6) (h7 : S 7 p = nI x7) (b6 : x6 < 2 ^ 31) (b7 : x7 < 2 ^ 31) (hr : r < 2 ^ 31) (ht : t < 2 ^ 31) : f_X1_isPlaceBehind S (nI p) (nI r) (nI t) = some (if t < x7 ∨ (x7 = t ∧ r < x6) then 1 else 0) := by
  unfold f_X1_isPlaceBehind
  rw [zix_nI hp (by decide), zix_nI hp (by decide), zix_nI hp (by decide), nI_clamp (by omega), h6, h7]
  by_cases e1 : t < x7
  · rw [if_pos (nI_lt e1 b7), if_pos (Or.inl e1)]
  · rw [if_neg (nI_nlt (by omega) ht)]
    by_cases e2 : x7 = t
    · rw [if_pos (by rw [e2])]
      by_cases e3 : r < x6
      · rw [if_neg (nI_ge e3 b6), if_pos (Or.inr ⟨e2, e3⟩)]
      · rw [if_pos (nI_le (by omega) hr), if_neg (by omega)]
    · rw [if_neg (fun z => e2 ((nI_eq b7 ht).mp z)), if_neg (by omega)]
/-- rows shifted up from p on -/
def shU (A : Nat → Nat → Int32) (K : Nat → Nat → Nat) (P p : Nat) : Prop := ∀ k, 6 ≤ k → k ≤ 8 → (∀ x, x < p → A k x = nI (K k x)) ∧ ∀ x, p < x → x ≤ P → A k x = nI (K k (x - 1))
theorem e_addPlace {S : Nat → Nat → Int32} {K : Nat → Nat → Nat} (hK : wfK K) (hS : repC S K) (h7 : K 5 0 < 7) {r t a : Nat} (hr : r < 2 ^ 31) (ht : t < 2 ^ 31) : ∃ S', f_X1_addPlace S (nI r) (nI t) (nI a) = some S' ∧ repC S' (insK K (psK K r t (K 5 0)) r t a) := by
  have h9 := hK.1.2.1
  have h24 := hK.1.2.2.2.1
  have hfin : ∀ (A : Nat → Nat → Int32) p, p ≤ K 5 0 → p = psK K r t (K 5 0) → shU A K (K 5 0) p → (∀ k, k < 6 ∨ 8 < k → A k = S k) → ∃ S', f_X1_addPlace_J50 A (nI r) (nI t) (nI a) (nI p) = some S' ∧ repC S' (insK K (psK K r t (K 5 0)) r t a) := by
    intro A p hp hps hsh hfr
    refine ⟨zst (zst (zst (zst A 6 p (nI r)) 7 p (nI t)) 8 p (nI a)) 5 0 (nI (K 5 0 + 1)), ?_, ?_, ?_, ?_⟩
    · unfold f_X1_addPlace_J50
      rw [zix_nI (by omega) (by decide), zlet_eq, zix_nI (by omega) (by decide), zlet_eq, zix_nI (by omega) (by decide), zlet_eq, zlet_eq, zst_ne _ (show (5 : Nat) ≠ 8 by decide), zst_ne _ (show (5 : Nat) ≠ 7 by decide), zst_ne _ (show (5 : Nat) ≠ 6 by decide), hfr 5 (by omega), hS.1 5 (by omega), nI_1]
    · intro k hk
      by_cases e : k = 5
      · rw [e, zst_same, ins_5]
      · rw [zst_ne _ e, zst_ne _ (by omega), zst_ne _ (by omega), zst_ne _ (by omega), hfr k (by omega), ins_o K _ r t a e (by omega)]; exact hS.1 k hk
    · intro k x h6 h8 hx
      rw [ins_5] at hx
      rw [zst_ne _ (by omega), ins_r K _ r t a h6 h8, ← hps]
      obtain ⟨s1, s2⟩ := hsh k h6 h8
      have hk : k = 6 ∨ k = 7 ∨ k = 8 := by omega
      by_cases e : x = p
      · subst e
        rw [if_neg (by omega), if_pos rfl]
        rcases hk with rfl | rfl | rfl
        · rw [zst_ne _ (by decide), zst_ne _ (by decide), zst_same, if_pos rfl]
        · rw [zst_ne _ (by decide), zst_same, if_neg (by decide), if_pos rfl]
        · rw [zst_same, if_neg (by decide), if_neg (by decide)]
      · have hA : zst (zst (zst A 6 p (nI r)) 7 p (nI t)) 8 p (nI a) k x = A k x := by
          rcases hk with rfl | rfl | rfl
          · rw [zst_ne _ (by decide), zst_ne _ (by decide), zst_row, upd_ne _ e]
          · rw [zst_ne _ (by decide), zst_row, upd_ne _ e, zst_ne _ (by decide)]
          · rw [zst_row, upd_ne _ e, zst_ne _ (by decide), zst_ne _ (by decide)]
        rw [hA]
        by_cases z : x < p
        · rw [if_pos z]; exact s1 x z
        · rw [if_neg z, if_neg e]; exact s2 x (by omega) (by omega)
    · intro c hc
      rw [zst_ne _ (by decide), zst_ne _ (by decide), zst_ne _ (by decide), zst_ne _ (by decide), hfr 9 (by omega), ins_o K _ r t a (by decide) (by decide)]; exact hS.2.2 c hc
  have key : ∃ ex : Int32 × (Nat → Nat → Int32), (∃ p, ex.1 = nI p ∧ p ≤ K 5 0 ∧ p = psK K r t (K 5 0) ∧ shU ex.2 K (K 5 0) p ∧ ∀ k, k < 6 ∨ 8 < k → ex.2 k = S k) ∧ zloop (fun rec x => f_X1_addPlace_L16b (nI r) (nI t) (nI a) rec x) zfuel (nI (K 5 0), S) = some ex := by
    refine zinvE (I := fun i x => ∃ A, x = (nI (K 5 0 - i), A) ∧ psK K r t (K 5 0) = psK K r t (K 5 0 - i) ∧ shU A K (K 5 0) (K 5 0 - i) ∧ ∀ k, k < 6 ∨ 8 < k → A k = S k) _ (K 5 0) (by omega) ?_ ?_ ?_
    · rintro i hi x ⟨A, rfl, g1, g2, g3⟩
      obtain ⟨m, hm⟩ : ∃ m, K 5 0 - i = m + 1 := ⟨K 5 0 - i - 1, by omega⟩
      rw [hm] at g1 g2 ⊢
      have hw := hK.2.1 m (by omega)
      have hbe := e_behind (S := A) (p := m) (r := r) (t := t) (by omega) ((g2 6 (by decide) (by decide)).1 m (by omega)) ((g2 7 (by decide) (by decide)).1 m (by omega)) (by omega) (by omega) hr ht
      have hm1 : nI (m + 1) - 1 = nI m := nI_pred m
      rw [psK] at g1
      by_cases e : t < K 7 m ∨ (K 7 m = t ∧ r < K 6 m)
      · rw [if_pos e] at g1
        have mv : f_X1_movePlace A (nI m) (nI (m + 1)) = some (zst (zst (zst A 6 (m + 1) (A 6 m)) 7 (m + 1) (A 7 m)) 8 (m + 1) (A 8 m)) := by
          unfold f_X1_movePlace
          simp only [zlet_eq]
          rw [zix_nI (by omega) (by decide), zix_nI (by omega) (by decide), zix_nI (by omega) (by decide), zix_nI (by omega) (by decide), zix_nI (by omega) (by decide), zix_nI (by omega) (by decide), nI_clamp (by omega), zst_ne _ (show (7 : Nat) ≠ 6 by decide), zst_ne _ (show (8 : Nat) ≠ 7 by decide), zst_ne _ (show (8 : Nat) ≠ 6 by decide)]
        refine Or.inl ⟨(nI (K 5 0 - (i + 1)), zst (zst (zst A 6 (m + 1) (A 6 m)) 7 (m + 1) (A 7 m)) 8 (m + 1) (A 8 m)), ⟨_, rfl, by rw [show K 5 0 - (i + 1) = m by omega]; exact g1, ?_, fun k hk => by rw [zst_ne _ (by omega), zst_ne _ (by omega), zst_ne _ (by omega)]; exact g3 k hk⟩, fun rec => ?_⟩
        · rw [show K 5 0 - (i + 1) = m by omega]
          intro k h6 h8
          obtain ⟨s1, s2⟩ := g2 k h6 h8
          have hk : k = 6 ∨ k = 7 ∨ k = 8 := by omega
          have hA : ∀ x, zst (zst (zst A 6 (m + 1) (A 6 m)) 7 (m + 1) (A 7 m)) 8 (m + 1) (A 8 m) k x = if x = m + 1 then A k m else A k x := by
            intro x
            by_cases z : x = m + 1
            · rw [if_pos z, z]
              rcases hk with rfl | rfl | rfl
              · rw [zst_ne _ (by decide), zst_ne _ (by decide), zst_same]
              · rw [zst_ne _ (by decide), zst_same]
              · rw [zst_same]
            · rw [if_neg z]
              rcases hk with rfl | rfl | rfl
              · rw [zst_ne _ (by decide), zst_ne _ (by decide), zst_row, upd_ne _ z]
              · rw [zst_ne _ (by decide), zst_row, upd_ne _ z, zst_ne _ (by decide)]
              · rw [zst_row, upd_ne _ z, zst_ne _ (by decide), zst_ne _ (by decide)]
          refine ⟨fun x hx => ?_, fun x h1 h2 => ?_⟩
          · rw [hA, if_neg (by omega)]; exact s1 x (by omega)
          · rw [hA]
            by_cases z : x = m + 1
            · rw [if_pos z, z, show m + 1 - 1 = m by omega]; exact s1 m (by omega)
            · rw [if_neg z]; exact s2 x (by omega) h2
        · unfold f_X1_addPlace_L16b
          dsimp only
          rw [if_neg (nI_nle (by omega) (by omega)), hm1, hbe, Option.bind_some, if_pos e, if_neg (by decide), mv, Option.bind_some, pk_m1, show K 5 0 - (i + 1) = m by omega]
      · rw [if_neg e] at g1
        refine Or.inr ⟨(nI (m + 1), A), ⟨m + 1, rfl, by omega, g1.symm, g2, g3⟩, fun rec => ?_⟩
        unfold f_X1_addPlace_L16b
        dsimp only
        rw [if_neg (nI_nle (by omega) (by omega)), hm1, hbe, Option.bind_some, if_neg e, if_pos rfl]
    · rintro x ⟨A, rfl, g1, g2, g3⟩
      rw [Nat.sub_self] at g1 g2 ⊢
      refine ⟨(nI 0, A), ⟨0, rfl, by omega, g1.symm, g2, g3⟩, fun rec => ?_⟩
      unfold f_X1_addPlace_L16b
      dsimp only
      rw [if_pos (by decide)]
    · exact ⟨S, rfl, rfl, fun k h6 h8 => ⟨fun x hx => hS.2.1 k x h6 h8 hx, fun x h1 h2 => by omega⟩, fun _ _ => rfl⟩
  obtain ⟨ex, ⟨p, e1, e2, e3, e4, e5⟩, hz⟩ := key
  obtain ⟨S', f1, f2⟩ := hfin ex.2 p e2 e3 e4 e5
  refine ⟨S', ?_, f2⟩
  unfold f_X1_addPlace
  rw [if_pos (show S 5 0 < 7 by rw [hS.1 5 (by omega)]; exact nI_lt (b := 7) h7 (by omega)), zlet_eq, hS.1 5 (by omega)]
  show (zloop (fun rec x => f_X1_addPlace_L16b (nI r) (nI t) (nI a) rec x) zfuel (nI (K 5 0), S)).bind _ = _
  rw [hz, Option.bind_some, e1]; exact f1
theorem e_adds {M : Nat → Nat → Int32} {K : Nat → Nat → Nat} (hK : wfK K) (hM : repM M K) (h7 : K 5 0 < 7) {r t a : Nat} (hr : r < 2 ^ 31) (ht : t < 2 ^ 31) : ∃ M', f_X7_adds M (nI r) (nI t) (nI a) = some M' ∧ repM M' (insK K (psK K r t (K 5 0)) r t a) ∧ ∀ k, k < 6 ∨ 9 < k → M' k = M k := by
  have h9 := hK.1.2.1
  have h24 := hK.1.2.2.2.1
  have puts : ∀ (A : Nat → Nat → Int32) p (x y z : Int32), p < 8 → f_X7_putsAt A (nI p) x y z = some (zst (zst (zst A 6 p x) 7 p y) 8 p z) := by
    intro A p x y z hp
    unfold f_X7_putsAt
    simp only [zlet_eq]
    rw [zix_nI hp (by decide), zix_nI hp (by decide), zix_nI hp (by decide)]
  have key : ∃ ex : Int32 × (Nat → Nat → Int32), (∃ p, ex.1 = nI p ∧ p ≤ K 5 0 ∧ p = psK K r t (K 5 0) ∧ shU ex.2 K (K 5 0) p ∧ ∀ k, k < 6 ∨ 8 < k → ex.2 k = M k) ∧ zloop (fun rec x => f_X7_adds_L6b (nI r) (nI t) (nI a) rec x) zfuel (nI (K 5 0), M) = some ex := by
    refine zinvE (I := fun i x => ∃ A, x = (nI (K 5 0 - i), A) ∧ psK K r t (K 5 0) = psK K r t (K 5 0 - i) ∧ shU A K (K 5 0) (K 5 0 - i) ∧ ∀ k, k < 6 ∨ 8 < k → A k = M k) _ (K 5 0) (by omega) ?_ ?_ ?_
    · rintro i hi x ⟨A, rfl, g1, g2, g3⟩
      obtain ⟨m, hm⟩ : ∃ m, K 5 0 - i = m + 1 := ⟨K 5 0 - i - 1, by omega⟩
      rw [hm] at g1 g2 ⊢
      have hw := hK.2.1 m (by omega)
      have hm1 : nI (m + 1) - 1 = nI m := nI_pred m
      have a6 := (g2 6 (by decide) (by decide)).1 m (by omega)
      have a7 := (g2 7 (by decide) (by decide)).1 m (by omega)
      rw [psK] at g1
      have j50 : ∀ rec, f_X7_adds_J50 rec A (nI r) (nI t) (nI a) (nI (m + 1)) = rec (nI m, zst (zst (zst A 6 (m + 1) (A 6 m)) 7 (m + 1) (A 7 m)) 8 (m + 1) (A 8 m)) := by
        intro rec
        unfold f_X7_adds_J50
        rw [hm1, zix_nI (by omega) (by decide), zix_nI (by omega) (by decide), zix_nI (by omega) (by decide), nI_clamp (by omega), puts _ _ _ _ _ (by omega), Option.bind_some, pk_m1]
      by_cases e : t < K 7 m ∨ (K 7 m = t ∧ r < K 6 m)
      · rw [if_pos e] at g1
        refine Or.inl ⟨(nI (K 5 0 - (i + 1)), zst (zst (zst A 6 (m + 1) (A 6 m)) 7 (m + 1) (A 7 m)) 8 (m + 1) (A 8 m)), ⟨_, rfl, by rw [show K 5 0 - (i + 1) = m by omega]; exact g1, ?_, fun k hk => by rw [zst_ne _ (by omega), zst_ne _ (by omega), zst_ne _ (by omega)]; exact g3 k hk⟩, fun rec => ?_⟩
        · rw [show K 5 0 - (i + 1) = m by omega]
          intro k h6 h8
          obtain ⟨s1, s2⟩ := g2 k h6 h8
          have hk : k = 6 ∨ k = 7 ∨ k = 8 := by omega
          have hA : ∀ x, zst (zst (zst A 6 (m + 1) (A 6 m)) 7 (m + 1) (A 7 m)) 8 (m + 1) (A 8 m) k x = if x = m + 1 then A k m else A k x := by
            intro x
            by_cases z : x = m + 1
            · rw [if_pos z, z]
              rcases hk with rfl | rfl | rfl
              · rw [zst_ne _ (by decide), zst_ne _ (by decide), zst_same]
              · rw [zst_ne _ (by decide), zst_same]
              · rw [zst_same]
            · rw [if_neg z]
              rcases hk with rfl | rfl | rfl
              · rw [zst_ne _ (by decide), zst_ne _ (by decide), zst_row, upd_ne _ z]
              · rw [zst_ne _ (by decide), zst_row, upd_ne _ z, zst_ne _ (by decide)]
              · rw [zst_row, upd_ne _ z, zst_ne _ (by decide), zst_ne _ (by decide)]
          refine ⟨fun x hx => ?_, fun x h1 h2 => ?_⟩
          · rw [hA, if_neg (by omega)]; exact s1 x (by omega)
          · rw [hA]
            by_cases z : x = m + 1
            · rw [if_pos z, z, show m + 1 - 1 = m by omega]; exact s1 m (by omega)
            · rw [if_neg z]; exact s2 x (by omega) h2
        · unfold f_X7_adds_L6b
          dsimp only
          rw [if_neg (nI_nle (by omega) (by omega)), hm1, zix_nI (by omega) (by decide), zix_nI (by omega) (by decide), zix_nI (by omega) (by decide), nI_clamp (by omega)]
          rw [show K 5 0 - (i + 1) = m by omega]
          by_cases e1 : t < K 7 m
          · rw [if_pos (show nI t < A 7 m by rw [a7]; exact nI_lt e1 (by omega))]; exact j50 rec
          · rw [if_neg (show ¬ nI t < A 7 m by rw [a7]; exact nI_nlt (by omega) ht)]
            have e2 : K 7 m = t ∧ r < K 6 m := by omega
            rw [if_pos (show A 7 m = nI t by rw [a7, e2.1]), if_neg (show ¬ A 6 m ≤ nI r by rw [a6]; exact nI_ge e2.2 (by omega))]; exact j50 rec
      · rw [if_neg e] at g1
        refine Or.inr ⟨(nI (m + 1), A), ⟨m + 1, rfl, by omega, g1.symm, g2, g3⟩, fun rec => ?_⟩
        unfold f_X7_adds_L6b
        dsimp only
        rw [if_neg (nI_nle (by omega) (by omega)), hm1, zix_nI (by omega) (by decide), zix_nI (by omega) (by decide), zix_nI (by omega) (by decide), nI_clamp (by omega), if_neg (show ¬ nI t < A 7 m by rw [a7]; exact nI_nlt (by omega) ht)]
        by_cases e2 : K 7 m = t
        · rw [if_pos (show A 7 m = nI t by rw [a7, e2]), if_pos (show A 6 m ≤ nI r by rw [a6]; exact nI_le (by omega) hr)]
        · rw [if_neg (show ¬ A 7 m = nI t by rw [a7]; exact fun z => e2 ((nI_eq (by omega) ht).mp z))]
    · rintro x ⟨A, rfl, g1, g2, g3⟩
      rw [Nat.sub_self] at g1 g2 ⊢
      refine ⟨(nI 0, A), ⟨0, rfl, by omega, g1.symm, g2, g3⟩, fun rec => ?_⟩
      unfold f_X7_adds_L6b
      dsimp only
      rw [if_pos (by decide)]
    · exact ⟨M, rfl, rfl, fun k h6 h8 => ⟨fun x hx => hM.2.1 k x h6 h8 hx, fun x h1 h2 => by omega⟩, fun _ _ => rfl⟩
  obtain ⟨ex, ⟨p, e1, e2, e3, e4, e5⟩, hz⟩ := key
  refine ⟨zst (zst (zst (zst ex.2 6 p (nI r)) 7 p (nI t)) 8 p (nI a)) 9 0 (nI (K 5 0 + 1)), ?_, ⟨⟨?_, ?_, ?_, ?_, ?_, ?_⟩, ?_, ?_⟩, ?_⟩
  · unfold f_X7_adds f_X7_adds_J89
    rw [zlet_eq, hM.1.2.2.2.2.2]
    show (zloop (fun rec x => f_X7_adds_L6b (nI r) (nI t) (nI a) rec x) zfuel (nI (K 5 0), M)).bind _ = _
    rw [hz, Option.bind_some, e1, puts _ _ _ _ _ (by omega), Option.bind_some, zlet_eq, zst_ne _ (show (9 : Nat) ≠ 8 by decide), zst_ne _ (show (9 : Nat) ≠ 7 by decide), zst_ne _ (show (9 : Nat) ≠ 6 by decide), e5 9 (by omega), hM.1.2.2.2.2.2, nI_1]
  · rw [zst_ne _ (by decide), zst_ne _ (by decide), zst_ne _ (by decide), zst_ne _ (by decide), e5 1 (by omega), ins_o K _ r t a (by decide) (by decide)]; exact hM.1.1
  · rw [zst_ne _ (by decide), zst_ne _ (by decide), zst_ne _ (by decide), zst_ne _ (by decide), e5 2 (by omega), ins_o K _ r t a (by decide) (by decide)]; exact hM.1.2.1
  · rw [zst_ne _ (by decide), zst_ne _ (by decide), zst_ne _ (by decide), zst_ne _ (by decide), e5 3 (by omega), ins_o K _ r t a (by decide) (by decide)]; exact hM.1.2.2.1
  · rw [zst_ne _ (by decide), zst_ne _ (by decide), zst_ne _ (by decide), zst_ne _ (by decide), e5 4 (by omega), ins_o K _ r t a (by decide) (by decide)]; exact hM.1.2.2.2.1
  · rw [zst_ne _ (by decide), zst_ne _ (by decide), zst_ne _ (by decide), zst_ne _ (by decide), e5 5 (by omega), ins_o K _ r t a (by decide) (by decide)]; exact hM.1.2.2.2.2.1
  · rw [zst_same, ins_5]
  · intro k x h6 h8 hx
    rw [ins_5] at hx
    rw [zst_ne _ (by omega), ins_r K _ r t a h6 h8, ← e3]
    obtain ⟨s1, s2⟩ := e4 k h6 h8
    have hk : k = 6 ∨ k = 7 ∨ k = 8 := by omega
    by_cases e : x = p
    · rw [e, if_neg (by omega), if_pos rfl]
      rcases hk with rfl | rfl | rfl
      · rw [zst_ne _ (by decide), zst_ne _ (by decide), zst_same, if_pos rfl]
      · rw [zst_ne _ (by decide), zst_same, if_neg (by decide), if_pos rfl]
      · rw [zst_same, if_neg (by decide), if_neg (by decide)]
    · have hA : zst (zst (zst ex.2 6 p (nI r)) 7 p (nI t)) 8 p (nI a) k x = ex.2 k x := by
        rcases hk with rfl | rfl | rfl
        · rw [zst_ne _ (by decide), zst_ne _ (by decide), zst_row, upd_ne _ e]
        · rw [zst_ne _ (by decide), zst_row, upd_ne _ e, zst_ne _ (by decide)]
        · rw [zst_row, upd_ne _ e, zst_ne _ (by decide), zst_ne _ (by decide)]
      rw [hA]
      by_cases z : x < p
      · rw [if_pos z]; exact s1 x z
      · rw [if_neg z, if_neg e]; exact s2 x (by omega) (by omega)
  · intro c hc
    rw [zst_ne _ (by decide), zst_ne _ (by decide), zst_ne _ (by decide), zst_ne _ (by decide), e5 10 (by omega), ins_o K _ r t a (by decide) (by decide)]; exact hM.2.2 c hc
  · intro k hk
    rw [zst_ne _ (by omega), zst_ne _ (by omega), zst_ne _ (by omega), zst_ne _ (by omega)]; exact e5 k (by omega)
end CHG
