/-! clearing, going on, and the straight tree, of both -/
section STR
theorem zinvE {α β : Type} {body : (α → Option β) → α → Option β} (I : Nat → α → Prop) (Q : β → Prop) (n : Nat) (hn : n < 1000) (hs : ∀ i, i < n → ∀ a, I i a → (∃ a', I (i + 1) a' ∧ ∀ rec, body rec a = rec a') ∨ ∃ ex, Q ex ∧ ∀ rec, body rec a = some ex) (he : ∀ a, I n a → ∃ ex, Q ex ∧ ∀ rec, body rec a = some ex) {a0 : α} (h0 : I 0 a0) : ∃ ex, Q ex ∧ zloop body zfuel a0 = some ex := by
  have key : ∀ (fuel i : Nat) (a : α), i ≤ n → n - i < fuel → I i a → ∃ ex, Q ex ∧ zloop body fuel a = some ex := by
    intro fuel
    induction fuel with
    | zero => intro i a _ h; omega
    | succ f ih =>
      intro i a hi hf hI
      by_cases e : i = n
      · subst e
        obtain ⟨ex, hq, he⟩ := he a hI
        exact ⟨ex, hq, he _⟩
      · rcases hs i (by omega) a hI with ⟨a', hI', hb⟩ | ⟨ex, hq, he⟩
        · obtain ⟨ex, hq, hz⟩ := ih (i + 1) a' (by omega) (by omega) hI'
          refine ⟨ex, hq, ?_⟩
          show body (zloop body f) a = some ex
          rw [hb, hz]
        · exact ⟨ex, hq, he _⟩
  exact key zfuel 0 a0 (Nat.zero_le _) (by show n - 0 < 1000; omega) h0
abbrev zT : Type := (Nat → Nat) × (Nat → Nat)
def gRing (cho : (Nat → Nat) → Nat → Nat → Nat) (K : Nat → Nat → Nat) (r : Nat) : Nat → zT → Option zT
  | 0, st => some st
  | i + 1, st => (gRing cho K r i st).bind fun st => if st.1 (24 * r + i) = 0 then some st else if cho st.1 r i = 3 then none else some (stpB (K 1 0) st.1 r i (cho st.1 r i), stpW st.2 r i (cho st.1 r i))
def gAll (cho : (Nat → Nat) → Nat → Nat → Nat) (K : Nat → Nat → Nat) : Nat → zT → Option zT
  | 0, st => some st
  | k + 1, st => (gAll cho K k st).bind (gRing cho K (K 0 0 - k) (K 1 0))
def okCho (K : Nat → Nat → Nat) (cho : (Nat → Nat) → Nat → Nat → Nat) : Prop := ∀ b r i, 1 ≤ r → r ≤ K 0 0 → i < K 1 0 → cho b r i = 3 ∨ (cho b r i < 3 ∧ K 9 (tg (K 1 0) r i (cho b r i)) = 0 ∧ (r = 1 → cho b r i = 0))
theorem gRing_inv {K : Nat → Nat → Nat} (hK : wfK K) {cho : (Nat → Nat) → Nat → Nat → Nat} (hc : okCho K cho) {r : Nat} (hr1 : 1 ≤ r) (hr : r ≤ K 0 0) {st0 : zT} (h0 : stI K r 0 st0.1 st0.2) : ∀ i, i ≤ K 1 0 → ∀ st, gRing cho K r i st0 = some st → stI K r i st.1 st.2 := by
  have h24 := hK.1.2.2.2.1
  intro i
  induction i with
  | zero => intro _ st h; cases h; exact h0
  | succ i ih =>
    intro hi st h
    unfold gRing at h
    cases hg : gRing cho K r i st0 with
    | none => rw [hg] at h; cases h
    | some s1 =>
      rw [hg, Option.bind_some] at h
      have hI := ih (by omega) s1 hg
      by_cases e : s1.1 (24 * r + i) = 0
      · rw [if_pos e] at h; cases h; exact stI_skip (by omega) e hI
      · rw [if_neg e] at h
        by_cases e3 : cho s1.1 r i = 3
        · rw [if_pos e3] at h; cases h
        · rw [if_neg e3] at h
          rcases hc s1.1 r i hr1 hr (by omega) with q | ⟨q1, q2, q3⟩
          · exact absurd q e3
          · cases h; exact (stI_step hK hr1 hr (by omega) q1 e q3 q2 hI).1
theorem gAll_inv {K : Nat → Nat → Nat} (hK : wfK K) {cho : (Nat → Nat) → Nat → Nat → Nat} (hc : okCho K cho) : ∀ k, k ≤ K 0 0 → ∀ st, gAll cho K k (pb0 K, fun _ => 3) = some st → stI K (K 0 0 - k) 0 st.1 st.2 := by
  intro k
  induction k with
  | zero => intro _ st h; cases h; exact stI_0 hK
  | succ k ih =>
    intro hk st h
    unfold gAll at h
    cases hg : gAll cho K k (pb0 K, fun _ => 3) with
    | none => rw [hg] at h; cases h
    | some s1 =>
      rw [hg, Option.bind_some] at h
      have := stI_ring (by omega) (gRing_inv hK hc (by omega) (by omega) (ih (by omega) s1 hg) (K 1 0) (Nat.le_refl _) st h)
      rw [show K 0 0 - (k + 1) = K 0 0 - k - 1 by omega]; exact this
theorem gAll_wf {K : Nat → Nat → Nat} (hK : wfK K) {cho : (Nat → Nat) → Nat → Nat → Nat} (hc : okCho K cho) {st : zT} (h : gAll cho K (K 0 0) (pb0 K, fun _ => 3) = some st) : wfT K st.1 st.2 := by
  have := gAll_inv hK hc (K 0 0) (Nat.le_refl _) st h
  rw [Nat.sub_self] at this
  exact stI_wf hK this
theorem e_clear5 {T : Nat → Nat → Int32} : ∃ T', f_X5_clear T = some T' ∧ (∀ c, c < 240 → T' 3 c = 0 ∧ T' 4 c = -1) ∧ ∀ k, k ≠ 3 → k ≠ 4 → T' k = T k := by
  obtain ⟨R, hR, hR0⟩ := e_fillA (N := 240) (by decide) (f := T 3) (v := 0)
  obtain ⟨Q, hQ, hQ0⟩ := e_fillA (N := 240) (by decide) (f := T 4) (v := -1)
  refine ⟨zsa (zsa T 3 (R 0)) 4 (Q 0), ?_, fun c hc => ?_, fun k h3 h4 => ?_⟩
  · unfold f_X5_clear
    rw [hR, Option.bind_some, zlet_eq, zsa_ne _ (show (4 : Nat) ≠ 3 by decide), hQ]; rfl
  · rw [zsa_ne _ (show (3 : Nat) ≠ 4 by decide), zsa_same, zsa_same, hR0, hQ0]
    exact ⟨if_pos hc, if_pos hc⟩
  · rw [zsa_ne _ h4, zsa_ne _ h3]
theorem e_clearBut {T S1 : Nat → Nat → Int32} {K : Nat → Nat → Nat} (hK : wfK K) (hC : repC S1 K) : ∃ T', f_X5_clearButPlaces T S1 = some T' ∧ treeC T' (pb0 K) (fun _ => 3) := by
  have h7 := wf7 hK
  have h9 := hK.1.2.1
  have h24 := hK.1.2.2.2.1
  obtain ⟨T1, e1, e2, _⟩ := e_clear5 (T := T)
  unfold f_X5_clearButPlaces
  rw [e1, Option.bind_some]
  have key : ∃ ex, treeC ex (pb0 K) (fun _ => 3) ∧ zloop (fun rec a => f_X5_clearButPlaces_L6b S1 rec a) zfuel (0, T1) = some ex := by
    refine zinv (I := fun i a => ∃ A, a = (nI i, A) ∧ ∀ c, c < 240 → A 3 c = nI (if plc K (c / 24) (c % 24) < i then 2 ^ plc K (c / 24) (c % 24) else 0) ∧ A 4 c = -1) _ (K 5 0) (by omega) ?_ ?_ ?_
    · rintro i hi a ⟨A, rfl, g1⟩
      obtain ⟨w1, w2, w3, w4, w5, w6⟩ := hK.2.1 i hi
      refine ⟨(nI (i + 1), zst A 3 (24 * K 6 i + K 7 i) (nI (2 ^ i))), ⟨_, rfl, fun c hc => ?_⟩, fun rec => ?_⟩
      · rw [zst_ne _ (show (4 : Nat) ≠ 3 by decide)]
        refine ⟨?_, (g1 c hc).2⟩
        by_cases e : c = 24 * K 6 i + K 7 i
        · rw [e, zst_same, show (24 * K 6 i + K 7 i) / 24 = K 6 i by omega, show (24 * K 6 i + K 7 i) % 24 = K 7 i by omega, plc_at hK hi, if_pos (by omega)]
        · rw [zst_row, upd_ne _ e, (g1 c hc).1]
          have hne : plc K (c / 24) (c % 24) ≠ i := fun q => e (by have := (plc_iff hK hi).mp q; omega)
          by_cases e2 : plc K (c / 24) (c % 24) < i
          · rw [if_pos e2, if_pos (by omega)]
          · rw [if_neg e2, if_neg (by omega)]
      · unfold f_X5_clearButPlaces_L6b
        dsimp only
        rw [ilen (hC.1 5 (by omega)) rfl hi (by omega), zix_nI (by omega) (by decide), zix_nI (by omega) (by decide), nI_clamp (by omega), hC.2.1 6 i (by omega) (by omega) hi, hC.2.1 7 i (by omega) (by omega) hi, e_cellOf, Option.bind_some, zix_nI (by omega) (by decide), zlet_eq, sh1 i (by omega), nI_1]
    · rintro a ⟨A, rfl, g1⟩
      refine ⟨A, fun c hc => g1 c hc, fun rec => ?_⟩
      unfold f_X5_clearButPlaces_L6b
      dsimp only
      rw [ilep (hC.1 5 (by omega)) rfl (Nat.le_refl _) (by omega)]
    · refine ⟨_, rfl, fun c hc => ?_⟩
      rw [if_neg (by omega)]; exact e2 c hc
  obtain ⟨T', q1, hz⟩ := key
  refine ⟨T', ?_, q1⟩
  show (zloop (fun rec a => f_X5_clearButPlaces_L6b S1 rec a) zfuel (0, T1)).bind _ = _
  rw [hz]; rfl
theorem e_clears {M : Nat → Nat → Int32} {K : Nat → Nat → Nat} (hK : wfK K) (hM : repM M K) : ∃ M', f_X7_clears M = some M' ∧ treeM M' K (pb0 K) (fun _ => 3) ∧ ∀ k, k ≠ 26 → k ≠ 27 → M' k = M k := by
  have h7 := wf7 hK
  have h9 := hK.1.2.1
  have h24 := hK.1.2.2.2.1
  have k1 : ∃ ex, ((∀ c, c < 240 → ex 26 c = -1 ∧ ex 27 c = 0) ∧ ∀ k, k ≠ 26 → k ≠ 27 → ex k = M k) ∧ zloop (fun rec a => f_X7_clears_L2b rec a) zfuel (0, M) = some ex := by
    refine zinv (I := fun i a => ∃ A, a = (nI i, A) ∧ (∀ c, c < i → A 26 c = -1 ∧ A 27 c = 0) ∧ ∀ k, k ≠ 26 → k ≠ 27 → A k = M k) _ 240 (by omega) ?_ ?_ ?_
    · rintro i hi a ⟨A, rfl, g1, g2⟩
      refine ⟨(nI (i + 1), zst (zst A 26 i (-1)) 27 i 0), ⟨_, rfl, fun c hc => ?_, fun k h1 h2 => ?_⟩, fun rec => ?_⟩
      · by_cases e : c = i
        · rw [e, zst_same, zst_ne _ (show (26 : Nat) ≠ 27 by decide), zst_same]; exact ⟨rfl, rfl⟩
        · rw [zst_row, upd_ne _ e, zst_ne _ (show (26 : Nat) ≠ 27 by decide), zst_row, upd_ne _ e, zst_ne _ (show (27 : Nat) ≠ 26 by decide)]; exact g1 c (by omega)
      · rw [zst_ne _ h2, zst_ne _ h1]; exact g2 k h1 h2
      · unfold f_X7_clears_L2b
        dsimp only
        rw [l_240, if_neg (nI_ge hi (by omega)), zix_nI hi (by decide), zlet_eq, zix_nI hi (by decide), zlet_eq, nI_1]
    · rintro a ⟨A, rfl, g1, g2⟩
      refine ⟨A, ⟨g1, g2⟩, fun rec => ?_⟩
      unfold f_X7_clears_L2b
      dsimp only
      rw [l_240, if_pos (nI_le (Nat.le_refl _) (by omega))]
    · exact ⟨M, rfl, fun c hc => by omega, fun _ _ _ => rfl⟩
  obtain ⟨M1, ⟨a1, a2⟩, hz1⟩ := k1
  have hM1 : repM M1 K := repM_fr (fun k hk => a2 k (by omega) (by omega)) hM
  have k2 : ∃ ex, (treeM ex K (pb0 K) (fun _ => 3) ∧ ∀ k, k ≠ 26 → k ≠ 27 → ex k = M k) ∧ zloop (fun rec a => f_X7_clears_L31b rec a) zfuel (0, M1) = some ex := by
    refine zinv (I := fun i a => ∃ A, a = (nI i, A) ∧ (∀ c, c < 240 → A 26 c = -1 ∧ A 27 c = nI (if plc K (c / 24) (c % 24) < i then K 8 (plc K (c / 24) (c % 24)) else 0)) ∧ ∀ k, k ≠ 27 → A k = M1 k) _ (K 5 0) (by omega) ?_ ?_ ?_
    · rintro i hi a ⟨A, rfl, g1, g2⟩
      have hA : repM A K := repM_fr (fun k hk => g2 k (by omega)) hM1
      obtain ⟨w1, w2, w3, w4, w5, w6⟩ := hK.2.1 i hi
      refine ⟨(nI (i + 1), zst A 27 (24 * K 6 i + K 7 i) (nI (K 8 i))), ⟨_, rfl, fun c hc => ?_, fun k hk => by rw [zst_ne _ hk]; exact g2 k hk⟩, fun rec => ?_⟩
      · rw [zst_ne _ (show (26 : Nat) ≠ 27 by decide)]
        refine ⟨(g1 c hc).1, ?_⟩
        by_cases e : c = 24 * K 6 i + K 7 i
        · rw [e, zst_same, show (24 * K 6 i + K 7 i) / 24 = K 6 i by omega, show (24 * K 6 i + K 7 i) % 24 = K 7 i by omega, plc_at hK hi, if_pos (by omega)]
        · rw [zst_row, upd_ne _ e, (g1 c hc).2]
          have hne : plc K (c / 24) (c % 24) ≠ i := fun q => e (by have := (plc_iff hK hi).mp q; omega)
          by_cases e2 : plc K (c / 24) (c % 24) < i
          · rw [if_pos e2, if_pos (by omega)]
          · rw [if_neg e2, if_neg (by omega)]
      · unfold f_X7_clears_L31b
        dsimp only
        rw [ilen hA.1.2.2.2.2.2 rfl hi (by omega), zix_nI (by omega) (by decide), zix_nI (by omega) (by decide), nI_clamp (by omega), hA.2.1 6 i (by omega) (by omega) hi, hA.2.1 7 i (by omega) (by omega) hi, e_cellM, Option.bind_some, zix_nI (by omega) (by decide), zix_nI (by omega) (by decide), zlet_eq, hA.2.1 8 i (by omega) (by omega) hi, nI_1]
    · rintro a ⟨A, rfl, g1, g2⟩
      have hA : repM A K := repM_fr (fun k hk => g2 k (by omega)) hM1
      refine ⟨A, ⟨fun c hc => ⟨(g1 c hc).1, ?_⟩, fun k h1 h2 => by rw [g2 k h2]; exact a2 k h1 h2⟩, fun rec => ?_⟩
      · rw [(g1 c hc).2]
        unfold pb0 pbK
        by_cases e : plc K (c / 24) (c % 24) < K 5 0
        · rw [if_pos e, if_pos e]; unfold amtK; rw [amt_one, if_pos e]
        · rw [if_neg e, if_neg e]; unfold amtK; rw [amt_0]
      · unfold f_X7_clears_L31b
        dsimp only
        rw [ilep hA.1.2.2.2.2.2 rfl (Nat.le_refl _) (by omega)]
    · refine ⟨_, rfl, fun c hc => ?_, fun _ _ => rfl⟩
      rw [if_neg (by omega)]; exact a1 c hc
  obtain ⟨M2, ⟨b1, b2⟩, hz2⟩ := k2
  refine ⟨M2, ?_, b1, b2⟩
  unfold f_X7_clears
  show (zloop (fun rec a => f_X7_clears_L2b rec a) zfuel (0, M)).bind _ = _
  rw [hz1, Option.bind_some]
  show (zloop (fun rec a => f_X7_clears_L31b rec a) zfuel (0, M1)).bind _ = _
  rw [hz2]; rfl
theorem e_go {T S0 : Nat → Nat → Int32} {K : Nat → Nat → Nat} {b w : Nat → Nat} (hK : wfK K) (hC : repC S0 K) (hT : treeC T b w) {r i s : Nat} (hr : r ≤ K 0 0) (hi : i < K 1 0) (hs : s < 3) (hb : b (24 * r + i) < 128) (h0 : b (24 * r + i) ≠ 0) : ∃ T', f_X2_go S0 T (nI r) (nI i) (nI s) = some T' ∧ treeC T' (stpB (K 1 0) b r i s) (stpW w r i s) := by
  have h9 := hK.1.2.1
  have h24 := hK.1.2.2.2.1
  have h6 := hK.1.2.2.1
  obtain ⟨t1, _⟩ := tg_lt hK (s := s) hr hi
  refine ⟨zst (zst T 4 (24 * r + i) (nI s)) 3 (tg (K 1 0) r i s) (nI (b (tg (K 1 0) r i s) ||| b (24 * r + i))), ?_, fun c hc => ⟨?_, ?_⟩⟩
  · unfold f_X2_go
    rw [e_cellOf, Option.bind_some, zix_nI (by omega) (by decide), zix_nI (by omega) (by decide), nI_clamp (by omega), (hT _ (by omega)).1, if_neg (nI_ne0 (by omega) (by omega)), zlet_eq, e_cellInwards hC (by omega) (by omega) (by omega) hi hs, Option.bind_some, zix_nI t1 (by decide), zix_nI (by omega) (by decide), zix_nI t1 (by decide), zlet_eq, nI_clamp (by omega), zst_ne _ (show (3 : Nat) ≠ 4 by decide), (hT _ t1).1, (hT _ (show 24 * r + i < 240 by omega)).1, nx_or]
  · unfold stpB
    by_cases e : c = tg (K 1 0) r i s
    · rw [if_pos e, e, zst_same]
    · rw [if_neg e, zst_row, upd_ne _ e, zst_ne _ (show (3 : Nat) ≠ 4 by decide), (hT c hc).1]
  · unfold stpW
    rw [zst_ne _ (show (4 : Nat) ≠ 3 by decide)]
    by_cases e : c = 24 * r + i
    · rw [if_pos e, e, zst_same, sd_ne (by omega)]
    · rw [if_neg e, zst_row, upd_ne _ e, (hT c hc).2]
theorem e_go0 {T S0 : Nat → Nat → Int32} {r i : Nat} {v : Int32} (hc : 24 * r + i < 240) (h0 : T 3 (24 * r + i) = 0) : f_X2_go S0 T (nI r) (nI i) v = some T := by
  unfold f_X2_go
  rw [e_cellOf, Option.bind_some, zix_nI hc (by decide), nI_clamp (by omega), if_pos h0]
theorem e_goG {T S0 : Nat → Nat → Int32} {K : Nat → Nat → Nat} (hK : wfK K) (hC : repC S0 K) {r i s : Nat} (hr : r ≤ K 0 0) (hi : i < K 1 0) (hs : s < 3) : ∃ T', f_X2_go S0 T (nI r) (nI i) (nI s) = some T' := by
  have h9 := hK.1.2.1
  have h24 := hK.1.2.2.2.1
  have h6 := hK.1.2.2.1
  obtain ⟨t1, _⟩ := tg_lt hK (s := s) hr hi
  unfold f_X2_go
  rw [e_cellOf, Option.bind_some, zix_nI (by omega) (by decide), zix_nI (by omega) (by decide)]
  by_cases e : T 3 (nI (24 * r + i)).toNatClampNeg = 0
  · rw [if_pos e]; exact ⟨_, rfl⟩
  · rw [if_neg e, zlet_eq, e_cellInwards hC (by omega) (by omega) (by omega) hi hs, Option.bind_some, zix_nI t1 (by decide), zix_nI (by omega) (by decide), zix_nI t1 (by decide), zlet_eq]
    exact ⟨_, rfl⟩
theorem e_stepsM {M : Nat → Nat → Int32} {K : Nat → Nat → Nat} {b w : Nat → Nat} (hK : wfK K) (hM : repM M K) (hT : treeM M K b w) {r i s : Nat} (hr1 : 1 ≤ r) (hr : r ≤ K 0 0) (hi : i < K 1 0) (hs : s < 3) (hd : dj (b (tg (K 1 0) r i s)) (b (24 * r + i))) : ∃ M', f_X7_steps M (nI r) (nI i) (nI s) = some M' ∧ treeM M' K (stpB (K 1 0) b r i s) (stpW w r i s) ∧ ∀ k, k ≠ 26 → k ≠ 27 → M' k = M k := by
  have h9 := hK.1.2.1
  have h24 := hK.1.2.2.2.1
  have h6 := hK.1.2.2.1
  obtain ⟨t1, _⟩ := tg_lt hK (s := s) hr hi
  refine ⟨zst (zst M 26 (24 * r + i) (nI s)) 27 (tg (K 1 0) r i s) (nI (amtK K (b (tg (K 1 0) r i s) ||| b (24 * r + i)))), ?_, fun c hc => ⟨?_, ?_⟩, fun k h1 h2 => by rw [zst_ne _ h2, zst_ne _ h1]⟩
  · have hM' : repM (zst M 26 (24 * r + i) (nI s)) K := repM_fr (fun k hk => zst_ne _ (by omega) _ _) hM
    unfold f_X7_steps
    rw [e_cellM, Option.bind_some, zix_nI (by omega) (by decide), zlet_eq, e_target hM' (by omega) (by omega) hr1 (by omega) hi hs, Option.bind_some, zix_nI t1 (by decide), Option.bind_some, zix_nI (by omega) (by decide), zix_nI t1 (by decide), zlet_eq, nI_clamp (by omega), nI_clamp (by omega), zst_ne _ (show (27 : Nat) ≠ 26 by decide), (hT _ t1).2, (hT _ (show 24 * r + i < 240 by omega)).2, nI_add, amtK_or hd]
  · unfold stpW
    rw [zst_ne _ (show (26 : Nat) ≠ 27 by decide)]
    by_cases e : c = 24 * r + i
    · rw [if_pos e, e, zst_same, sd_ne (by omega)]
    · rw [if_neg e, zst_row, upd_ne _ e, (hT c hc).1]
  · unfold stpB
    by_cases e : c = tg (K 1 0) r i s
    · rw [if_pos e, e, zst_same]
    · rw [if_neg e, zst_row, upd_ne _ e, zst_ne _ (show (27 : Nat) ≠ 26 by decide), (hT c hc).2]
theorem rk0 {K : Nat → Nat → Nat} (hK : wfK K) : K 9 0 = 0 := by
  have h1 := hK.2.2.2.1 0
  have h2 := hK.2.2.2.2 0
  omega
theorem e_isFree {M : Nat → Nat → Int32} {K : Nat → Nat → Nat} (hK : wfK K) (hM : repM M K) {r i s : Nat} (hr1 : 1 ≤ r) (hr : r ≤ K 0 0) (hi : i < K 1 0) (hs : s < 3) : f_X7_isFree M (nI r) (nI i) (nI s) = some (if K 9 (tg (K 1 0) r i s) = 0 then 1 else 0) := by
  have h9 := hK.1.2.1
  have h24 := hK.1.2.2.2.1
  have h6 := hK.1.2.2.1
  obtain ⟨t1, t2⟩ := tg_lt hK (s := s) hr hi
  unfold f_X7_isFree
  by_cases e : r = 1
  · have : tg (K 1 0) r i s = 0 := by unfold tg; rw [if_pos (by omega)]
    rw [this, rk0 hK, if_pos rfl, e, if_pos (by decide)]
  · have hk := hK.2.2.2.1 (tg (K 1 0) r i s)
    rw [if_neg (fun q => e ((nq1 (by omega)).mp q)), e_target hM (by omega) (by omega) hr1 (by omega) hi hs, Option.bind_some, zix_nI t1 (by decide), nI_clamp (by omega), hM.2.2 _ t1]
    by_cases q : K 9 (tg (K 1 0) r i s) = 0
    · rw [q, if_pos nI_0, if_pos rfl]
    · rw [if_neg (nI_ne0 (by omega) (by omega)), if_neg q]
/-- a tree as the class keeps it, and as the reference lays it -/
def drC (K : Nat → Nat → Nat) (T : Nat → Nat → Int32) (o : Option zT) : Prop := T 0 0 = 1 ∧ (o = none → T 1 0 = 0) ∧ ∀ st, o = some st → T 1 0 = 1 ∧ T 2 0 = nI (tink K st.1 st.2) ∧ treeC T st.1 st.2
def drM (K : Nat → Nat → Nat) (M : Nat → Nat → Int32) (f : Int32) (o : Option zT) : Prop := (o = none → f = 0) ∧ ∀ st, o = some st → f = 1 ∧ treeM M K st.1 st.2
theorem treeC_fr {T T' : Nat → Nat → Int32} {b w : Nat → Nat} (h3 : T' 3 = T 3) (h4 : T' 4 = T 4) (h : treeC T b w) : treeC T' b w := by unfold treeC; rw [h3, h4]; exact h
theorem e_finish1 {T S1 : Nat → Nat → Int32} {K : Nat → Nat → Nat} {b w : Nat → Nat} (hK : wfK K) (hC : repC S1 K) (hT : treeC T b w) (hW : wfT K b w) : ∃ T', f_X5_finish T S1 1 = some T' ∧ drC K T' (some (b, w)) := by
  have hpw := pw_le (wf7 hK)
  have hT2 : treeC (zst (zst T 0 0 1) 1 0 1) b w := treeC_fr (by rw [zst_ne _ (by decide), zst_ne _ (by decide)]) (by rw [zst_ne _ (by decide), zst_ne _ (by decide)]) hT
  have hs := e_sumOfInk hK hC hT2 (fun c hc => by have := (hW.1 c hc).1; omega) (fun c h1 h2 h3 => by have := (hW.2.2.1 c h1 h2).1.mp h3; have := (hW.1 c h2).2; omega)
  refine ⟨zst (zst (zst T 0 0 1) 1 0 1) 2 0 (nI (tink K b w)), ?_, ?_, fun q => (by cases q), fun st q => ?_⟩
  · unfold f_X5_finish f_X5_finish_J24
    rw [zlet_eq, zbo_1, zlet_eq, if_neg (by decide), hs]; rfl
  · rw [zst_ne _ (by decide), zst_ne _ (by decide), zst_same]
  · cases q
    refine ⟨by rw [zst_ne _ (by decide), zst_same], zst_same _ _ _ _, treeC_fr (by rw [zst_ne _ (by decide)]) (by rw [zst_ne _ (by decide)]) hT2⟩
theorem e_finish0 {T S1 : Nat → Nat → Int32} {K : Nat → Nat → Nat} : ∃ T', f_X5_finish T S1 0 = some T' ∧ drC K T' none := by
  refine ⟨zst (zst (zst T 0 0 1) 1 0 0) 2 0 0, rfl, ?_, fun _ => ?_, fun st q => by cases q⟩
  · rw [zst_ne _ (by decide), zst_ne _ (by decide), zst_same]
  · rw [zst_ne _ (by decide), zst_same]
end STR
