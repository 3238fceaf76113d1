/-! the reference's laysAllBest, leastInk -/
section MAL
theorem ilen {α : Type} {x y : Int32} {a b : Nat} {d : Decidable (x ≤ y)} {p q : α} (hx : x = nI a) (hy : y = nI b) (h : b < a) (ha : a < 2 ^ 31) : (if x ≤ y then p else q) = q := if_neg (by rw [hx, hy]; exact nI_ge h ha)
theorem ilep {α : Type} {x y : Int32} {a b : Nat} {d : Decidable (x ≤ y)} {p q : α} (hx : x = nI a) (hy : y = nI b) (h : a ≤ b) (hb : b < 2 ^ 31) : (if x ≤ y then p else q) = p := if_pos (by rw [hx, hy]; exact nI_le h hb)
theorem iltn {α : Type} {x y : Int32} {a b : Nat} {d : Decidable (x < y)} {p q : α} (hx : x = nI a) (hy : y = nI b) (h : b ≤ a) (ha : a < 2 ^ 31) : (if x < y then p else q) = q := if_neg (by rw [hx, hy]; exact nI_nlt h ha)
theorem iltp {α : Type} {x y : Int32} {a b : Nat} {d : Decidable (x < y)} {p q : α} (hx : x = nI a) (hy : y = nI b) (h : a < b) (hb : b < 2 ^ 31) : (if x < y then p else q) = p := if_pos (by rw [hx, hy]; exact nI_lt h hb)
theorem ieqn {α : Type} {x y : Int32} {a b : Nat} {d : Decidable (x = y)} {p q : α} (hx : x = nI a) (hy : y = nI b) (h : a ≠ b) (ha : a < 2 ^ 31) (hb : b < 2 ^ 31) : (if x = y then p else q) = q := if_neg (by rw [hx, hy]; exact fun e => h ((nI_eq ha hb).mp e))
theorem ieqp {α : Type} {x y : Int32} {a b : Nat} {d : Decidable (x = y)} {p q : α} (hx : x = nI a) (hy : y = nI b) (h : a = b) : (if x = y then p else q) = p := if_pos (by rw [hx, hy, h])
theorem shrb : ∀ s, s < 128 → ∀ p, p < 7 → ((nI s >>> (nI p &&& 31)) &&& 1 = 1 ↔ s.testBit p = true) := by decide +kernel
theorem e_sums {M : Nat → Nat → Int32} {K : Nat → Nat → Nat} (h7 : K 5 0 ≤ 7) (hM : repM M K) : ∃ M', f_X7_laysAllBest_L2 zfuel (0, M) = some M' ∧ (∀ s, s < 128 → M' 30 s = nI (amtK K s)) ∧ ∀ k, k ≠ 30 → M' k = M k := by
  have key : ∃ ex, ((∀ s, s < 128 → ex 30 s = nI (amtK K s)) ∧ ∀ k, k ≠ 30 → ex k = M k) ∧ zloop (fun rec a => f_X7_laysAllBest_L2b rec a) zfuel (0, M) = some ex := by
    refine zinv (I := fun i a => ∃ A, a = (nI i, A) ∧ (∀ s, s < i → A 30 s = nI (amtK K s)) ∧ ∀ k, k ≠ 30 → A k = M k) _ 128 (by omega) ?_ ?_ ?_
    · rintro i hi a ⟨A, rfl, g1, g2⟩
      have inner : ∃ ex, (ex 30 i = nI (amtK K i) ∧ (∀ s, s < i → ex 30 s = nI (amtK K s)) ∧ ∀ k, k ≠ 30 → ex k = M k) ∧ zloop (fun rec a => f_X7_laysAllBest_L18b (nI i) rec a) zfuel (0, zst A 30 i 0) = some ex := by
        refine zinv (I := fun p a => ∃ B, a = (nI p, B) ∧ B 30 i = nI (amtN K i p) ∧ (∀ s, s < i → B 30 s = nI (amtK K s)) ∧ ∀ k, k ≠ 30 → B k = M k) _ (K 5 0) (by omega) ?_ ?_ ?_
        · rintro p hp a ⟨B, rfl, f1, f2, f3⟩
          refine ⟨(nI (p + 1), zst B 30 i (nI (amtN K i (p + 1)))), ⟨_, rfl, zst_same _ _ _ _, fun s hs => ?_, fun k hk => ?_⟩, fun rec => ?_⟩
          · rw [zst_row, upd_ne _ (by omega)]; exact f2 s hs
          · rw [zst_ne _ hk]; exact f3 k hk
          · unfold f_X7_laysAllBest_L18b f_X7_laysAllBest_J52
            dsimp only
            rw [ilen (a := K 5 0) (b := p) (by rw [f3 9 (by omega)]; exact hM.1.2.2.2.2.2) rfl hp (by omega), zix_nI hi (by decide), zix_nI (by omega) (by decide), nI_clamp (by omega), nI_clamp (by omega), f1, f3 8 (by omega), hM.2.1 8 p (by omega) (by omega) hp, amtN]
            by_cases e : i.testBit p = true
            · rw [if_pos ((shrb i hi p (by omega)).mpr e), zix_nI hi (by decide), zlet_eq, nI_add, nI_1, if_pos e]
            · rw [if_neg (fun q => e ((shrb i hi p (by omega)).mp q)), zix_nI hi (by decide), zlet_eq, l_0, nI_add, nI_1, if_neg e]
        · rintro a ⟨B, rfl, f1, f2, f3⟩
          refine ⟨B, ⟨f1, f2, f3⟩, fun rec => ?_⟩
          unfold f_X7_laysAllBest_L18b
          dsimp only
          rw [ilep (a := K 5 0) (b := K 5 0) (by rw [f3 9 (by omega)]; exact hM.1.2.2.2.2.2) rfl (Nat.le_refl _) (by omega)]
        · exact ⟨_, rfl, zst_same _ _ _ _, fun s hs => by rw [zst_row, upd_ne _ (by omega)]; exact g1 s hs, fun k hk => by rw [zst_ne _ hk]; exact g2 k hk⟩
      obtain ⟨B, ⟨b1, b2, b3⟩, hz⟩ := inner
      refine ⟨(nI (i + 1), B), ⟨B, rfl, fun s hs => ?_, b3⟩, fun rec => ?_⟩
      · by_cases e : s = i
        · rw [e]; exact b1
        · exact b2 s (by omega)
      · unfold f_X7_laysAllBest_L2b
        dsimp only
        rw [l_128, if_neg (nI_ge hi (by omega)), zix_nI hi (by decide), zlet_eq]
        show (zloop (fun rec a => f_X7_laysAllBest_L18b (nI i) rec a) zfuel (0, zst A 30 i 0)).bind _ = _
        rw [hz, Option.bind_some, nI_1]
    · rintro a ⟨A, rfl, g1, g2⟩
      refine ⟨A, ⟨g1, g2⟩, fun rec => ?_⟩
      unfold f_X7_laysAllBest_L2b
      dsimp only
      rw [l_128, if_pos (nI_le (Nat.le_refl _) (by omega))]
    · exact ⟨M, rfl, fun s hs => by omega, fun _ _ => rfl⟩
  obtain ⟨M', ⟨q1, q2⟩, hz⟩ := key
  exact ⟨M', hz, q1, q2⟩
/-- a row of the reference's table -/
def mR (M : Nat → Nat → Int32) (K : Nat → Nat → Nat) (r t : Nat) : Prop := ∀ s, 0 < s → s < 2 ^ K 5 0 → M 28 (128 * (24 * r + t) + s) = nI (Bt K r t s).1 ∧ M 29 (128 * (24 * r + t) + s) = chosI (Bt K r t s)
def mA (M : Nat → Nat → Int32) (K : Nat → Nat → Nat) (r i : Nat) : Prop := ∀ r' t', r' ≤ K 0 0 → t' < wid K r' → (r < r' ∨ (r' = r ∧ t' < i)) → mR M K r' t'
theorem mR_fr {M M' : Nat → Nat → Int32} {K : Nat → Nat → Nat} (hK : wfK K) {r t c : Nat} (hne : 24 * r + t ≠ c) (h : ∀ j, j < 128 * c ∨ 128 * c + 128 ≤ j → M' 28 j = M 28 j ∧ M' 29 j = M 29 j) (hR : mR M K r t) : mR M' K r t := by
  intro s h0 hP
  have := pw_le (wf7 hK)
  obtain ⟨e1, e2⟩ := h (128 * (24 * r + t) + s) (by omega)
  rw [e1, e2]; exact hR s h0 hP
theorem e_mrow {M : Nat → Nat → Int32} {K : Nat → Nat → Nat} (hK : wfK K) (hM : repM M K) {r t : Nat} (hr : r ≤ K 0 0) (ht : t < wid K r) (h30 : ∀ s, s < 128 → M 30 s = nI (amtK K s)) (hO : r < K 0 0 → ∀ t', t' < K 1 0 → mR M K (r + 1) t') : ∃ M', f_X7_laysAllBest_L95 (nI r) (nI t) zfuel (1, M) = some M' ∧ mR M' K r t ∧ (∀ k, k ≠ 28 → k ≠ 29 → M' k = M k) ∧ ∀ j, j < 128 * (24 * r + t) ∨ 128 * (24 * r + t) + 128 ≤ j → M' 28 j = M 28 j ∧ M' 29 j = M 29 j := by
  have hpw := pw_le (wf7 hK)
  have hwd := wid_le hK r
  have key : ∃ ex, (mR ex K r t ∧ (∀ k, k ≠ 28 → k ≠ 29 → ex k = M k) ∧ ∀ j, j < 128 * (24 * r + t) ∨ 128 * (24 * r + t) + 128 ≤ j → ex 28 j = M 28 j ∧ ex 29 j = M 29 j) ∧ zloop (fun rec a => f_X7_laysAllBest_L95b (nI r) (nI t) rec a) zfuel (1, M) = some ex := by
    refine zinv (I := fun i a => ∃ A, a = (nI (i + 1), A) ∧ (∀ k, k ≠ 28 → k ≠ 29 → A k = M k) ∧ (∀ j, j < 128 * (24 * r + t) ∨ 128 * (24 * r + t) + 128 ≤ j → A 28 j = M 28 j ∧ A 29 j = M 29 j) ∧ ∀ s, 0 < s → s ≤ i → A 28 (128 * (24 * r + t) + s) = nI (Bt K r t s).1 ∧ A 29 (128 * (24 * r + t) + s) = chosI (Bt K r t s)) _ (2 ^ K 5 0 - 1) (by omega) ?_ ?_ ?_
    · rintro i hi a ⟨A, rfl, g1, g2, g3⟩
      have hA : repM A K := repM_fr (fun k hk => g1 k (by omega) (by omega)) hM
      have hb := e_laysBest (M := A) (s := i + 1) hK hA hr ht (by omega) (by omega) (by rw [g1 30 (by omega) (by omega)]; exact h30 _ (by omega)) (fun e t' ht' => ((mR_fr hK (c := 24 * r + t) (by omega) g2 (hO e t' ht')) (i + 1) (by omega) (by omega)).1) (fun p p0 ps => (g3 p p0 (by omega)).1)
      refine ⟨(nI (i + 1 + 1), bsM A (128 * (24 * r + t) + (i + 1)) (Bt K r t (i + 1))), ⟨_, rfl, fun k k1 k2 => ?_, fun j hj => ?_, fun s s0 si => ?_⟩, fun rec => ?_⟩
      · rw [bsM_ne k1 k2]; exact g1 k k1 k2
      · obtain ⟨q1, q2⟩ := bsM_28 (M := A) (j := 128 * (24 * r + t) + (i + 1)) (a := Bt K r t (i + 1)) |>.2.2 j (by omega)
        rw [q1, q2]; exact g2 j hj
      · by_cases e : s = i + 1
        · rw [e]; exact ⟨bsM_28.1, bsM_28.2.1⟩
        · obtain ⟨q1, q2⟩ := bsM_28 (M := A) (j := 128 * (24 * r + t) + (i + 1)) (a := Bt K r t (i + 1)) |>.2.2 (128 * (24 * r + t) + s) (by omega)
          rw [q1, q2]; exact g3 s s0 (by omega)
      · unfold f_X7_laysAllBest_L95b
        dsimp only
        rw [ilen (a := 2 ^ K 5 0) (b := i + 1) (by rw [hA.1.2.2.2.2.2]; exact sh1 _ (by have := wf7 hK; omega)) rfl (by omega) (by omega), hb, Option.bind_some, nI_1]
    · rintro a ⟨A, rfl, g1, g2, g3⟩
      refine ⟨A, ⟨fun s s0 sP => g3 s s0 (by omega), g1, g2⟩, fun rec => ?_⟩
      unfold f_X7_laysAllBest_L95b
      dsimp only
      rw [ilep (a := 2 ^ K 5 0) (b := 2 ^ K 5 0 - 1 + 1) (by rw [g1 9 (by omega) (by omega), hM.1.2.2.2.2.2]; exact sh1 _ (by have := wf7 hK; omega)) rfl (by omega) (by omega)]
    · exact ⟨M, rfl, fun _ _ _ => rfl, fun _ _ => ⟨rfl, rfl⟩, fun s s0 si => by omega⟩
  obtain ⟨M', hq, hz⟩ := key
  exact ⟨M', hz, hq⟩
theorem e_mring {M : Nat → Nat → Int32} {K : Nat → Nat → Nat} (hK : wfK K) (hM : repM M K) {r : Nat} (hr : r ≤ K 0 0) (h30 : ∀ s, s < 128 → M 30 s = nI (amtK K s)) (hA : mA M K r 0) : ∃ M', f_X7_laysAllBest_L77 (nI r) zfuel (0, M) = some M' ∧ mA M' K r (wid K r) ∧ ∀ k, k ≠ 28 → k ≠ 29 → M' k = M k := by
  have hwd := wid_le hK r
  have h9 := hK.1.2.1
  have key : ∃ ex, (mA ex K r (wid K r) ∧ ∀ k, k ≠ 28 → k ≠ 29 → ex k = M k) ∧ zloop (fun rec a => f_X7_laysAllBest_L77b (nI r) rec a) zfuel (0, M) = some ex := by
    have hbr : ∀ (B : Nat → Nat → Int32) (i : Nat) rec, B 2 0 = nI (K 1 0) → f_X7_laysAllBest_L77b (nI r) rec (nI i, B) = f_X7_laysAllBest_J90 rec B (nI r) (nI i) (nI i) (nI (wid K r)) := by
      intro B i rec hB
      unfold f_X7_laysAllBest_L77b wid
      dsimp only
      by_cases e : r = 0
      · rw [e, if_pos nI_0, if_pos rfl]; rfl
      · rw [if_neg (nI_ne0 (by omega) (by omega)), if_neg e, hB]
    refine zinv (I := fun i a => ∃ A, a = (nI i, A) ∧ mA A K r i ∧ ∀ k, k ≠ 28 → k ≠ 29 → A k = M k) _ (wid K r) (by omega) ?_ ?_ ?_
    · rintro i hi a ⟨A, rfl, g1, g2⟩
      have hAm : repM A K := repM_fr (fun k hk => g2 k (by omega) (by omega)) hM
      obtain ⟨A', e1, e2, e3, e4⟩ := e_mrow (M := A) hK hAm hr hi (fun s hs => by rw [g2 30 (by omega) (by omega)]; exact h30 s hs) (fun e t' ht' => g1 (r + 1) t' (by omega) (by unfold wid; rw [if_neg (by omega)]; exact ht') (Or.inl (by omega)))
      refine ⟨(nI (i + 1), A'), ⟨A', rfl, fun r' t' hr' ht' hor => ?_, fun k k1 k2 => by rw [e3 k k1 k2]; exact g2 k k1 k2⟩, fun rec => ?_⟩
      · have hw' := wid_le hK r'
        by_cases ec : 24 * r' + t' = 24 * r + i
        · have q1 : r' = r := by omega
          have q2 : t' = i := by omega
          rw [q1, q2]; exact e2
        · refine mR_fr hK ec e4 (g1 r' t' hr' ht' ?_)
          rcases hor with q | ⟨q1, q2⟩
          · exact Or.inl q
          · exact Or.inr ⟨q1, by subst q1; omega⟩
      · rw [hbr A i rec hAm.1.2.1]
        unfold f_X7_laysAllBest_J90
        rw [if_neg (nI_ge hi (by omega)), e1, Option.bind_some, nI_1]
    · rintro a ⟨A, rfl, g1, g2⟩
      refine ⟨A, ⟨g1, g2⟩, fun rec => ?_⟩
      rw [hbr A _ rec (by rw [g2 2 (by omega) (by omega)]; exact hM.1.2.1)]
      unfold f_X7_laysAllBest_J90
      rw [if_pos (nI_le (Nat.le_refl _) (by omega))]
    · exact ⟨M, rfl, hA, fun _ _ _ => rfl⟩
  obtain ⟨M', hq, hz⟩ := key
  exact ⟨M', hz, hq⟩
/-- the reference's table stands -/
def mF (M : Nat → Nat → Int32) (K : Nat → Nat → Nat) : Prop := (∀ s, s < 128 → M 30 s = nI (amtK K s)) ∧ ∀ r t, r ≤ K 0 0 → t < wid K r → mR M K r t
theorem e_laysAllBest {M : Nat → Nat → Int32} {K : Nat → Nat → Nat} (hK : wfK K) (hM : repM M K) : ∃ M', f_X7_laysAllBest M = some M' ∧ mF M' K ∧ ∀ k, k ≠ 28 → k ≠ 29 → k ≠ 30 → M' k = M k := by
  have h9 := hK.1.2.1
  obtain ⟨A0, a1, a2, a3⟩ := e_sums (wf7 hK) hM
  have hA0 : repM A0 K := repM_fr (fun k hk => a3 k (by omega)) hM
  have key : ∃ ex, (mF ex K ∧ ∀ k, k ≠ 28 → k ≠ 29 → ex k = A0 k) ∧ zloop (fun rec a => f_X7_laysAllBest_L71b rec a) zfuel (nI (K 0 0), A0) = some ex := by
    refine zinv (I := fun i a => ∃ A, a = (if i ≤ K 0 0 then nI (K 0 0 - i) else -1, A) ∧ (∀ r' t', r' ≤ K 0 0 → t' < wid K r' → K 0 0 < r' + i → mR A K r' t') ∧ ∀ k, k ≠ 28 → k ≠ 29 → A k = A0 k) _ (K 0 0 + 1) (by omega) ?_ ?_ ?_
    · rintro i hi a ⟨A, rfl, g1, g2⟩
      have hAm : repM A K := repM_fr (fun k hk => g2 k (by omega) (by omega)) hA0
      obtain ⟨A', e1, e2, e3⟩ := e_mring (M := A) hK hAm (r := K 0 0 - i) (by omega) (fun s hs => by rw [g2 30 (by omega) (by omega)]; exact a2 s hs) (fun r' t' hr' ht' hor => g1 r' t' hr' ht' (by rcases hor with q | ⟨_, q⟩ <;> omega))
      refine ⟨(if i + 1 ≤ K 0 0 then nI (K 0 0 - (i + 1)) else -1, A'), ⟨A', rfl, fun r' t' hr' ht' hlt => ?_, fun k k1 k2 => by rw [e3 k k1 k2]; exact g2 k k1 k2⟩, fun rec => ?_⟩
      · refine e2 r' t' hr' ht' ?_
        by_cases q : r' = K 0 0 - i
        · exact Or.inr ⟨q, by rw [← q]; exact ht'⟩
        · exact Or.inl (by omega)
      · unfold f_X7_laysAllBest_L71b
        dsimp only
        rw [if_pos (show i ≤ K 0 0 by omega), if_neg (nI_pos (by omega)), e1, Option.bind_some]
        by_cases q : i + 1 ≤ K 0 0
        · obtain ⟨m, hm⟩ : ∃ m, K 0 0 - i = m + 1 := ⟨K 0 0 - i - 1, by omega⟩
          rw [hm, pk_m1, if_pos q, show K 0 0 - (i + 1) = m by omega]
        · rw [if_neg q, show K 0 0 - i = 0 by omega]; rfl
    · rintro a ⟨A, rfl, g1, g2⟩
      refine ⟨A, ⟨⟨fun s hs => by rw [g2 30 (by omega) (by omega)]; exact a2 s hs, fun r t hr ht => g1 r t hr ht (by omega)⟩, g2⟩, fun rec => ?_⟩
      unfold f_X7_laysAllBest_L71b
      dsimp only
      rw [if_neg (show ¬ K 0 0 + 1 ≤ K 0 0 by omega), if_pos (by decide)]
    · exact ⟨A0, by rw [if_pos (Nat.zero_le _)]; rfl, fun r' t' hr' ht' hlt => by omega, fun _ _ _ => rfl⟩
  obtain ⟨M', ⟨q1, q2⟩, hz⟩ := key
  refine ⟨M', ?_, q1, fun k k1 k2 k3 => by rw [q2 k k1 k2]; exact a3 k k3⟩
  unfold f_X7_laysAllBest
  rw [a1, Option.bind_some, zlet_eq, hA0.1.1]
  show (zloop (fun rec a => f_X7_laysAllBest_L71b rec a) zfuel (nI (K 0 0), A0)).bind _ = _
  rw [hz]; rfl
theorem e_all {M : Nat → Nat → Int32} {K : Nat → Nat → Nat} (hM : repM M K) (h7 : K 5 0 ≤ 7) : f_X7_all M = some (nI (2 ^ K 5 0 - 1)) := by
  unfold f_X7_all
  have := pw_le h7
  rw [hM.1.2.2.2.2.2, sh1 _ (by omega), l_1, pk_sub (by omega)]
/-- the ink of the least tree -/
def lstI (K : Nat → Nat → Nat) : Int32 := if K 5 0 = 0 then 0 else if (Bt K 0 0 (2 ^ K 5 0 - 1)).1 < 1000000000 then nI (Bt K 0 0 (2 ^ K 5 0 - 1)).1 else -2
theorem e_leastInk {M : Nat → Nat → Int32} {K : Nat → Nat → Nat} (hK : wfK K) (hM : repM M K) : ∃ M', f_X7_leastInk M = some (lstI K, M') ∧ mF M' K ∧ ∀ k, k ≠ 28 → k ≠ 29 → k ≠ 30 → M' k = M k := by
  obtain ⟨M', e1, e2, e3⟩ := e_laysAllBest hK hM
  refine ⟨M', ?_, e2, e3⟩
  have hM' : repM M' K := repM_fr (fun k hk => e3 k (by omega) (by omega) (by omega)) hM
  have h7 := wf7 hK
  have hpw := pw_le h7
  unfold f_X7_leastInk lstI
  rw [e1, Option.bind_some, hM'.1.2.2.2.2.2]
  by_cases e : K 5 0 = 0
  · rw [e, if_pos nI_0, if_pos rfl]
  · have h1 : 1 < 2 ^ K 5 0 := Nat.one_lt_two_pow (by omega)
    have hb : ∀ v, (f_X7_bestOf M' 0 (nI v)) = (f_X7_bestOf M' (nI 0) (nI v)) := fun v => rfl
    have hle := Bt_le hK (r := 0) (t := 0) (s := 2 ^ K 5 0 - 1) (Nat.zero_le _) (by omega) (by omega)
    have hrow := (e2.2 0 0 (Nat.zero_le _) (by unfold wid; rw [if_pos rfl]; omega) (2 ^ K 5 0 - 1) (by omega) (by omega)).1
    have hrow' : M' 28 (128 * 0 + (2 ^ K 5 0 - 1)) = nI (Bt K 0 0 (2 ^ K 5 0 - 1)).1 := hrow
    rw [if_neg (nI_ne0 (by omega) (by omega)), if_neg e, e_all hM' h7, Option.bind_some, hb, e_bestOf (by omega), Option.bind_some, hrow', l_far]
    by_cases e3 : (Bt K 0 0 (2 ^ K 5 0 - 1)).1 < 1000000000
    · rw [if_neg (nI_ge e3 (by omega)), if_pos e3, Option.bind_some, hb, e_bestOf (by omega), Option.bind_some, hrow']
    · rw [if_pos (nI_le (by omega) (by omega)), if_neg e3]
end MAL
