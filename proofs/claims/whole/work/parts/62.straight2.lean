/-! rings and all rings, for any choice; the straight tree of both -/
section ST2
theorem gRing_s {cho : (Nat → Nat) → Nat → Nat → Nat} {K : Nat → Nat → Nat} {r i : Nat} {st0 st : zT} (h : gRing cho K r i st0 = some st) : gRing cho K r (i + 1) st0 = if st.1 (24 * r + i) = 0 then some st else if cho st.1 r i = 3 then none else some (stpB (K 1 0) st.1 r i (cho st.1 r i), stpW st.2 r i (cho st.1 r i)) := by
  show (gRing cho K r i st0).bind _ = _
  rw [h]; rfl
theorem gRing_n {cho : (Nat → Nat) → Nat → Nat → Nat} {K : Nat → Nat → Nat} {r : Nat} {st0 : zT} {i : Nat} (h : gRing cho K r i st0 = none) : ∀ j, i ≤ j → gRing cho K r j st0 = none := by
  intro j
  induction j with
  | zero => intro q; rw [Nat.le_zero.mp q] at h; exact h
  | succ j ih =>
    intro q
    by_cases e : i = j + 1
    · rw [← e]; exact h
    · show (gRing cho K r j st0).bind _ = _
      rw [ih (by omega)]; rfl
theorem gAll_n {cho : (Nat → Nat) → Nat → Nat → Nat} {K : Nat → Nat → Nat} {st0 : zT} {i : Nat} (h : gAll cho K i st0 = none) : ∀ j, i ≤ j → gAll cho K j st0 = none := by
  intro j
  induction j with
  | zero => intro q; rw [Nat.le_zero.mp q] at h; exact h
  | succ j ih =>
    intro q
    by_cases e : i = j + 1
    · rw [← e]; exact h
    · show (gAll cho K j st0).bind _ = _
      rw [ih (by omega)]; rfl
/-- a ring of the reference -/
theorem e_ringM {K : Nat → Nat → Nat} (hK : wfK K) {cho : (Nat → Nat) → Nat → Nat → Nat} (hc : okCho K cho) {r : Nat} (hr1 : 1 ≤ r) (hr : r ≤ K 0 0) {body : ((Int32 × (Nat → Nat → Int32)) → Option (Nat × (Nat → Nat → Int32))) → (Int32 × (Nat → Nat → Int32)) → Option (Nat × (Nat → Nat → Int32))}
    (hend : ∀ A rec, repM A K → body rec (nI (K 1 0), A) = some (1, A))
    (h0 : ∀ A i rec, repM A K → i < K 1 0 → A 27 (24 * r + i) = 0 → body rec (nI i, A) = rec (nI (i + 1), A))
    (hgo : ∀ A b w i rec, repM A K → i < K 1 0 → treeM A K b w → stI K r i b w → b (24 * r + i) ≠ 0 → body rec (nI i, A) = if cho b r i = 3 then some (0, A) else (f_X7_steps A (nI r) (nI i) (nI (cho b r i))).bind fun R => rec (nI (i + 1), R))
    {M : Nat → Nat → Int32} {st : zT} (hM : repM M K) (hT : treeM M K st.1 st.2) (hI : stI K r 0 st.1 st.2) :
    ∃ ex : Nat × (Nat → Nat → Int32), (((∃ st', gRing cho K r (K 1 0) st = some st' ∧ ex.1 = 1 ∧ treeM ex.2 K st'.1 st'.2) ∨ (gRing cho K r (K 1 0) st = none ∧ ex.1 = 0)) ∧ ∀ k, k ≠ 26 → k ≠ 27 → ex.2 k = M k) ∧ zloop body zfuel (0, M) = some ex := by
  have h24 := hK.1.2.2.2.1
  refine zinvE (I := fun i a => ∃ A st', a = (nI i, A) ∧ gRing cho K r i st = some st' ∧ treeM A K st'.1 st'.2 ∧ ∀ k, k ≠ 26 → k ≠ 27 → A k = M k) _ (K 1 0) (by omega) ?_ ?_ ?_
  · rintro i hi a ⟨A, st', rfl, g1, g2, g3⟩
    have hA : repM A K := repM_fr (fun k hk => g3 k (by omega) (by omega)) hM
    have hS := gRing_inv hK hc hr1 hr hI i (by omega) st' g1
    have hn := gRing_s g1
    have h9 := hK.1.2.1
    by_cases e : st'.1 (24 * r + i) = 0
    · rw [if_pos e] at hn
      refine Or.inl ⟨(nI (i + 1), A), ⟨A, st', rfl, hn, g2, g3⟩, fun rec => h0 A i rec hA hi ?_⟩
      rw [(g2 _ (by omega)).2, e, show amtK K 0 = 0 from amt_0 K _]; rfl
    · rw [if_neg e] at hn
      rcases hc st'.1 r i hr1 hr hi with q | ⟨q1, q2, q3⟩
      · rw [if_pos q] at hn
        refine Or.inr ⟨(0, A), ⟨Or.inr ⟨gRing_n hn _ (by omega), rfl⟩, g3⟩, fun rec => ?_⟩
        rw [hgo A st'.1 st'.2 i rec hA hi g2 hS e, if_pos q]
      · rw [if_neg (by omega)] at hn
        obtain ⟨_, hdj, _⟩ := stI_step hK hr1 hr hi q1 e q3 q2 hS
        obtain ⟨A', e1, e2, e3⟩ := e_stepsM hK hA g2 hr1 hr hi q1 hdj
        refine Or.inl ⟨(nI (i + 1), A'), ⟨A', _, rfl, hn, e2, fun k k1 k2 => by rw [e3 k k1 k2]; exact g3 k k1 k2⟩, fun rec => ?_⟩
        rw [hgo A st'.1 st'.2 i rec hA hi g2 hS e, if_neg (by omega), e1]; rfl
  · rintro a ⟨A, st', rfl, g1, g2, g3⟩
    have hA : repM A K := repM_fr (fun k hk => g3 k (by omega) (by omega)) hM
    exact ⟨(1, A), ⟨Or.inl ⟨st', g1, rfl, g2⟩, g3⟩, fun rec => hend A rec hA⟩
  · exact ⟨M, st, rfl, rfl, hT, fun _ _ _ => rfl⟩
/-- all rings of the reference -/
theorem e_ringsM {K : Nat → Nat → Nat} (hK : wfK K) {cho : (Nat → Nat) → Nat → Nat → Nat} (hc : okCho K cho) {ring : Int32 → (Nat → Nat → Int32) → Option (Nat × (Nat → Nat → Int32))}
    (hring : ∀ r M st, 1 ≤ r → r ≤ K 0 0 → repM M K → treeM M K st.1 st.2 → stI K r 0 st.1 st.2 → ∃ ex : Nat × (Nat → Nat → Int32), (((∃ st', gRing cho K r (K 1 0) st = some st' ∧ ex.1 = 1 ∧ treeM ex.2 K st'.1 st'.2) ∨ (gRing cho K r (K 1 0) st = none ∧ ex.1 = 0)) ∧ ∀ k, k ≠ 26 → k ≠ 27 → ex.2 k = M k) ∧ ring (nI r) M = some ex)
    {body : ((Int32 × (Nat → Nat → Int32)) → Option (Nat × (Nat → Nat → Int32))) → (Int32 × (Nat → Nat → Int32)) → Option (Nat × (Nat → Nat → Int32))}
    (hb : ∀ rec a, body rec a = if a.1 ≤ 0 then some (1, a.2) else (ring a.1 a.2).bind fun y => if y.1 = 0 then some (0, y.2) else rec (a.1 + (-1), y.2))
    {M : Nat → Nat → Int32} (hM : repM M K) (hT : treeM M K (pb0 K) (fun _ => 3)) :
    ∃ ex : Nat × (Nat → Nat → Int32), (((∃ st', gAll cho K (K 0 0) (pb0 K, fun _ => 3) = some st' ∧ ex.1 = 1 ∧ treeM ex.2 K st'.1 st'.2) ∨ (gAll cho K (K 0 0) (pb0 K, fun _ => 3) = none ∧ ex.1 = 0)) ∧ ∀ k, k ≠ 26 → k ≠ 27 → ex.2 k = M k) ∧ zloop body zfuel (nI (K 0 0), M) = some ex := by
  have h9 := hK.1.2.1
  refine zinvE (I := fun i a => ∃ A st', a = (nI (K 0 0 - i), A) ∧ gAll cho K i (pb0 K, fun _ => 3) = some st' ∧ treeM A K st'.1 st'.2 ∧ ∀ k, k ≠ 26 → k ≠ 27 → A k = M k) _ (K 0 0) (by omega) ?_ ?_ ?_
  · rintro i hi a ⟨A, st', rfl, g1, g2, g3⟩
    have hA : repM A K := repM_fr (fun k hk => g3 k (by omega) (by omega)) hM
    have hS := gAll_inv hK hc i (by omega) st' g1
    obtain ⟨ex, ⟨h1, h2⟩, h3⟩ := hring (K 0 0 - i) A st' (by omega) (by omega) hA g2 hS
    have hn : gAll cho K (i + 1) (pb0 K, fun _ => 3) = gRing cho K (K 0 0 - i) (K 1 0) st' := by
      show (gAll cho K i _).bind _ = _
      rw [g1]; rfl
    have hfr : ∀ k, k ≠ 26 → k ≠ 27 → ex.2 k = M k := fun k k1 k2 => by rw [h2 k k1 k2]; exact g3 k k1 k2
    obtain ⟨m, hm⟩ : ∃ m, K 0 0 - i = m + 1 := ⟨K 0 0 - i - 1, by omega⟩
    rcases h1 with ⟨s2, q1, q2, q3⟩ | ⟨q1, q2⟩
    · refine Or.inl ⟨(nI (K 0 0 - (i + 1)), ex.2), ⟨ex.2, s2, rfl, by rw [hn]; exact q1, q3, hfr⟩, fun rec => ?_⟩
      rw [hb]
      dsimp only
      rw [if_neg (nI_nle (by omega) (by omega)), h3, Option.bind_some, if_neg (by omega), hm, pk_m1, show K 0 0 - (i + 1) = m by omega]
    · refine Or.inr ⟨(0, ex.2), ⟨Or.inr ⟨gAll_n (by rw [hn]; exact q1) _ (by omega), rfl⟩, hfr⟩, fun rec => ?_⟩
      rw [hb]
      dsimp only
      rw [if_neg (nI_nle (by omega) (by omega)), h3, Option.bind_some, if_pos q2]
  · rintro a ⟨A, st', rfl, g1, g2, g3⟩
    refine ⟨(1, A), ⟨Or.inl ⟨st', g1, rfl, g2⟩, g3⟩, fun rec => ?_⟩
    rw [hb]
    dsimp only
    rw [Nat.sub_self, if_pos (by decide)]
  · exact ⟨M, _, rfl, rfl, hT, fun _ _ _ => rfl⟩
/-- all rings of the class -/
theorem e_ringsC {K : Nat → Nat → Nat} (hK : wfK K) {cho : (Nat → Nat) → Nat → Nat → Nat} (hc : okCho K cho) {ring : Int32 → (Nat → Nat → Int32) → Option (Int32 × (Nat → Nat → Int32))}
    (hring : ∀ r T st, 1 ≤ r → r ≤ K 0 0 → treeC T st.1 st.2 → stI K r 0 st.1 st.2 → ∃ ex : Int32 × (Nat → Nat → Int32), ((∃ st', gRing cho K r (K 1 0) st = some st' ∧ ex.1 = 1 ∧ treeC ex.2 st'.1 st'.2) ∨ (gRing cho K r (K 1 0) st = none ∧ ex.1 = 0)) ∧ ring (nI r) T = some ex)
    {body : ((Int32 × Int32 × (Nat → Nat → Int32)) → Option (Int32 × (Nat → Nat → Int32))) → (Int32 × Int32 × (Nat → Nat → Int32)) → Option (Int32 × (Nat → Nat → Int32))}
    (hb : ∀ rec f x T, body rec (f, x, T) = if x < 1 then some (f, T) else if f = 0 then some (f, T) else if f = 1 then (ring x T).bind fun y => rec (y.1, x + (-1), y.2) else body rec (f, x, T))
    {T : Nat → Nat → Int32} (hT : treeC T (pb0 K) (fun _ => 3)) :
    ∃ ex : Int32 × (Nat → Nat → Int32), ((∃ st', gAll cho K (K 0 0) (pb0 K, fun _ => 3) = some st' ∧ ex.1 = 1 ∧ treeC ex.2 st'.1 st'.2) ∨ (gAll cho K (K 0 0) (pb0 K, fun _ => 3) = none ∧ ex.1 = 0)) ∧ zloop body zfuel (1, nI (K 0 0), T) = some ex := by
  have h9 := hK.1.2.1
  refine zinvE (I := fun i a => ∃ A, (∃ st', a = (1, nI (K 0 0 - i), A) ∧ gAll cho K i (pb0 K, fun _ => 3) = some st' ∧ treeC A st'.1 st'.2) ∨ (a = (0, nI (K 0 0 - i), A) ∧ gAll cho K i (pb0 K, fun _ => 3) = none)) _ (K 0 0) (by omega) ?_ ?_ ?_
  · rintro i hi a ⟨A, ⟨st', rfl, g1, g2⟩ | ⟨rfl, g1⟩⟩
    · have hS := gAll_inv hK hc i (by omega) st' g1
      obtain ⟨ex, h1, h3⟩ := hring (K 0 0 - i) A st' (by omega) (by omega) g2 hS
      have hn : gAll cho K (i + 1) (pb0 K, fun _ => 3) = gRing cho K (K 0 0 - i) (K 1 0) st' := by
        show (gAll cho K i _).bind _ = _
        rw [g1]; rfl
      obtain ⟨m, hm⟩ : ∃ m, K 0 0 - i = m + 1 := ⟨K 0 0 - i - 1, by omega⟩
      refine Or.inl ⟨(ex.1, nI (K 0 0 - (i + 1)), ex.2), ⟨ex.2, ?_⟩, fun rec => ?_⟩
      · rcases h1 with ⟨s2, q1, q2, q3⟩ | ⟨q1, q2⟩
        · exact Or.inl ⟨s2, by rw [q2], by rw [hn]; exact q1, q3⟩
        · exact Or.inr ⟨by rw [q2], by rw [hn]; exact q1⟩
      · rw [hb, if_neg (show ¬ nI (K 0 0 - i) < 1 from nI_nlt (b := 1) (by omega) (by omega)), if_neg (by decide), if_pos rfl, h3, Option.bind_some, hm, pk_m1, show K 0 0 - (i + 1) = m by omega]
    · refine Or.inr ⟨(0, A), Or.inr ⟨gAll_n g1 _ (by omega), rfl⟩, fun rec => ?_⟩
      rw [hb, if_neg (show ¬ nI (K 0 0 - i) < 1 from nI_nlt (b := 1) (by omega) (by omega)), if_pos rfl]
  · rintro a ⟨A, ⟨st', rfl, g1, g2⟩ | ⟨rfl, g1⟩⟩
    · refine ⟨(1, A), Or.inl ⟨st', g1, rfl, g2⟩, fun rec => ?_⟩
      rw [hb, Nat.sub_self, if_pos (by decide)]
    · refine ⟨(0, A), Or.inr ⟨g1, rfl⟩, fun rec => ?_⟩
      rw [hb, Nat.sub_self, if_pos (by decide)]
  · exact ⟨T, Or.inl ⟨_, rfl, rfl, hT⟩⟩
def choS (K : Nat → Nat → Nat) (_ : Nat → Nat) (r i : Nat) : Nat := if K 9 (tg (K 1 0) r i 0) = 0 then 0 else 3
theorem okS (K : Nat → Nat → Nat) : okCho K (choS K) := by
  intro b r i _ _ _
  unfold choS
  by_cases e : K 9 (tg (K 1 0) r i 0) = 0
  · rw [if_pos e]; exact Or.inr ⟨by decide, e, fun _ => rfl⟩
  · rw [if_neg e]; exact Or.inl rfl
/-- the straight tree -/
def tr1 (K : Nat → Nat → Nat) : Option zT := gAll (choS K) K (K 0 0) (pb0 K, fun _ => 3)
theorem e_laysStraight {M : Nat → Nat → Int32} {K : Nat → Nat → Nat} (hK : wfK K) (hM : repM M K) (hT : treeM M K (pb0 K) (fun _ => 3)) : ∃ f M', f_X7_laysStraight M = some (f, M') ∧ drM K M' f (tr1 K) ∧ ∀ k, k ≠ 26 → k ≠ 27 → M' k = M k := by
  have h9 := hK.1.2.1
  have h24 := hK.1.2.2.2.1
  obtain ⟨ex, ⟨h1, h2⟩, h3⟩ := e_ringsM hK (okS K) (ring := fun r M => f_X7_laysStraight_L11 r zfuel (0, M)) (fun r M st hr1 hr hM hT hI => e_ringM hK (okS K) hr1 hr (body := fun rec a => f_X7_laysStraight_L11b (nI r) rec a)
      (fun A rec hA => by
        show f_X7_laysStraight_L11b (nI r) rec (nI (K 1 0), A) = _
        unfold f_X7_laysStraight_L11b
        dsimp only
        rw [ilep hA.1.2.1 rfl (Nat.le_refl _) (by omega)])
      (fun A i rec hA hi h0 => by
        show f_X7_laysStraight_L11b (nI r) rec (nI i, A) = _
        unfold f_X7_laysStraight_L11b f_X7_laysStraight_J51
        dsimp only
        rw [ilen hA.1.2.1 rfl hi (by omega), e_cellM, Option.bind_some, zix_nI (by omega) (by decide), nI_clamp (by omega), if_pos (show A 27 (24 * r + i) ≤ 0 by rw [h0]; decide), nI_1])
      (fun A b w i rec hA hi hT hI h0 => by
        show f_X7_laysStraight_L11b (nI r) rec (nI i, A) = _
        have hbP := (hI.1 (24 * r + i) (by omega)).1
        have hpos := amtK_pos (fun p hp => (hK.2.1 p hp).2.2.2.1) hbP h0
        have ham := amt_le hK (b (24 * r + i))
        unfold f_X7_laysStraight_L11b f_X7_laysStraight_J51 choS
        dsimp only
        rw [ilen hA.1.2.1 rfl hi (by omega), e_cellM, Option.bind_some, zix_nI (by omega) (by decide), nI_clamp (by omega), if_neg (show ¬ A 27 (24 * r + i) ≤ 0 by rw [(hT _ (by omega)).2]; exact nI_nle (by omega) (by omega)), l_0, e_isFree hK hA hr1 hr hi (by decide), Option.bind_some, nI_1]
        by_cases e : K 9 (tg (K 1 0) r i 0) = 0
        · rw [if_pos e, if_pos e, if_neg (by decide), if_neg (by decide)]
        · rw [if_neg e, if_neg e, if_pos rfl, if_pos (by decide)])
      hM hT hI) (body := fun rec a => f_X7_laysStraight_L5b rec a) (fun rec a => rfl) hM hT
  unfold f_X7_laysStraight
  rw [zlet_eq, hM.1.1]
  show ∃ f M', (zloop (fun rec a => f_X7_laysStraight_L5b rec a) zfuel (nI (K 0 0), M)).bind _ = some (f, M') ∧ _
  rw [h3, Option.bind_some]
  rcases h1 with ⟨st', q1, q2, q3⟩ | ⟨q1, q2⟩
  · refine ⟨1, ex.2, by rw [if_neg (by omega)], ⟨fun q => ?_, fun st q => ?_⟩, h2⟩
    · rw [show tr1 K = some st' from q1] at q; cases q
    · rw [show tr1 K = some st' from q1] at q; cases q; exact ⟨rfl, q3⟩
  · refine ⟨0, ex.2, by rw [if_pos q2], ⟨fun _ => rfl, fun st q => ?_⟩, h2⟩
    rw [show tr1 K = none from q1] at q; cases q
theorem e_ci0 {S : Nat → Nat → Int32} {K : Nat → Nat → Nat} (hS : repC S K) (hN : 1 ≤ K 1 0) (hN2 : K 1 0 ≤ 24) {r t : Nat} (hr : r < 2 ^ 31) (ht : t < K 1 0) : f_X1_cellInwards S (nI r) (nI t) 0 = some (nI (tg (K 1 0) r t 0)) := e_cellInwards hS hN hN2 hr ht (s := 0) (by decide)
theorem e_strRing {S0 T : Nat → Nat → Int32} {K : Nat → Nat → Nat} (hK : wfK K) (hC : repC S0 K) {r : Nat} (hr1 : 1 ≤ r) (hr : r ≤ K 0 0) {st : zT} (hT : treeC T st.1 st.2) (hI : stI K r 0 st.1 st.2) : ∃ ex : Int32 × (Nat → Nat → Int32), ((∃ st', gRing (choS K) K r (K 1 0) st = some st' ∧ ex.1 = 1 ∧ treeC ex.2 st'.1 st'.2) ∨ (gRing (choS K) K r (K 1 0) st = none ∧ ex.1 = 0)) ∧ f_X2_drawStraight_L24 S0 (nI r) zfuel (1, 0, T) = some ex := by
  have h9 := hK.1.2.1
  have h24 := hK.1.2.2.2.1
  have h6 := hK.1.2.2.1
  have hpw := pw_le (wf7 hK)
  refine zinv (I := fun i a => ∃ A, (∃ st', a = (1, nI i, A) ∧ gRing (choS K) K r i st = some st' ∧ treeC A st'.1 st'.2) ∨ (a = (0, nI i, A) ∧ gRing (choS K) K r i st = none)) _ (K 1 0) (by omega) ?_ ?_ ?_
  · rintro i hi a ⟨A, hA⟩
    obtain ⟨t1, _⟩ := tg_lt hK (s := 0) hr hi
    have hk := hK.2.2.2.1 (tg (K 1 0) r i 0)
    have bod : ∀ (f : Int32) rec, f_X2_drawStraight_L24b S0 (nI r) rec (f, nI i, A) = if A 3 (24 * r + i) = 0 then f_X2_drawStraight_J65 rec S0 A f (nI r) (nI i) else if K 9 (tg (K 1 0) r i 0) = 0 then f_X2_drawStraight_J65 rec S0 A f (nI r) (nI i) else f_X2_drawStraight_J65 rec S0 A 0 (nI r) (nI i) := by
      intro f rec
      unfold f_X2_drawStraight_L24b
      dsimp only
      rw [ilen (hC.1 1 (by omega)) rfl hi (by omega), e_cellOf, Option.bind_some, zix_nI (by omega) (by decide), nI_clamp (by omega), e_ci0 hC (by omega) (by omega) (by omega) hi, Option.bind_some, zix_nI t1 (by decide), nI_clamp (by omega), hC.2.2 _ t1]
      by_cases e : K 9 (tg (K 1 0) r i 0) = 0
      · rw [if_pos e, e, if_pos nI_0]
      · rw [if_neg e, if_neg (nI_ne0 (by omega) (by omega))]
    have j65 : ∀ (f : Int32) A' , f_X2_go S0 A (nI r) (nI i) (nI 0) = some A' → ∀ rec, f_X2_drawStraight_J65 rec S0 A f (nI r) (nI i) = rec (f, nI (i + 1), A') := by
      intro f A' h rec
      unfold f_X2_drawStraight_J65
      rw [l_0, h, Option.bind_some, nI_1]
    rcases hA with ⟨st', rfl, g1, g2⟩ | ⟨rfl, g1⟩
    · have hS := gRing_inv hK (okS K) hr1 hr hI i (by omega) st' g1
      have hbP := (hS.1 (24 * r + i) (by omega)).1
      have hn := gRing_s g1
      by_cases e : st'.1 (24 * r + i) = 0
      · have h0 : A 3 (24 * r + i) = 0 := by rw [(g2 _ (by omega)).1, e]; rfl
        rw [if_pos e] at hn
        refine ⟨(1, nI (i + 1), A), ⟨A, Or.inl ⟨st', rfl, hn, g2⟩⟩, fun rec => ?_⟩
        rw [bod, if_pos h0]
        exact j65 _ _ (e_go0 (by omega) h0) rec
      · have h0 : ¬ A 3 (24 * r + i) = 0 := by rw [(g2 _ (by omega)).1]; exact nI_ne0 (by omega) (by omega)
        rw [if_neg e] at hn
        unfold choS at hn
        by_cases e2 : K 9 (tg (K 1 0) r i 0) = 0
        · rw [if_pos e2, if_neg (by decide)] at hn
          obtain ⟨A', q1, q2⟩ := e_go hK hC g2 hr hi (s := 0) (by decide) (by omega) e
          refine ⟨(1, nI (i + 1), A'), ⟨A', Or.inl ⟨_, rfl, hn, q2⟩⟩, fun rec => ?_⟩
          rw [bod, if_neg h0, if_pos e2]
          exact j65 _ _ q1 rec
        · rw [if_neg e2, if_pos rfl] at hn
          obtain ⟨A', q1⟩ := e_goG (T := A) hK hC hr hi (s := 0) (by decide)
          refine ⟨(0, nI (i + 1), A'), ⟨A', Or.inr ⟨rfl, hn⟩⟩, fun rec => ?_⟩
          rw [bod, if_neg h0, if_neg e2]
          exact j65 _ _ q1 rec
    · obtain ⟨A', q1⟩ := e_goG (T := A) hK hC hr hi (s := 0) (by decide)
      refine ⟨(0, nI (i + 1), A'), ⟨A', Or.inr ⟨rfl, gRing_n g1 _ (by omega)⟩⟩, fun rec => ?_⟩
      rw [bod, j65 _ _ q1 rec]
      split
      · rfl
      · split <;> rfl
  · rintro a ⟨A, ⟨st', rfl, g1, g2⟩ | ⟨rfl, g1⟩⟩
    · refine ⟨(1, A), Or.inl ⟨st', g1, rfl, g2⟩, fun rec => ?_⟩
      unfold f_X2_drawStraight_L24b
      dsimp only
      rw [ilep (hC.1 1 (by omega)) rfl (Nat.le_refl _) (by omega)]
    · refine ⟨(0, A), Or.inr ⟨g1, rfl⟩, fun rec => ?_⟩
      unfold f_X2_drawStraight_L24b
      dsimp only
      rw [ilep (hC.1 1 (by omega)) rfl (Nat.le_refl _) (by omega)]
  · exact ⟨T, Or.inl ⟨st, rfl, rfl, hT⟩⟩
theorem e_drawStraight {S0 T : Nat → Nat → Int32} {K : Nat → Nat → Nat} (hK : wfK K) (hC : repC S0 K) : ∃ T', f_X2_drawStraight S0 T = some T' ∧ drC K T' (tr1 K) := by
  obtain ⟨T1, e1, e2⟩ := e_clearBut (T := T) hK hC
  obtain ⟨ex, h1, h3⟩ := e_ringsC hK (okS K) (ring := fun r T => f_X2_drawStraight_L24 S0 r zfuel (1, 0, T)) (fun r T st hr1 hr hT hI => e_strRing hK hC hr1 hr hT hI) (body := fun rec a => f_X2_drawStraight_L12b S0 rec a) (fun rec f x T => by
      show f_X2_drawStraight_L12b S0 rec (f, x, T) = _
      by_cases q : f = 1
      · rw [if_pos q, q]; rfl
      · rw [if_neg q]
        unfold f_X2_drawStraight_L12b
        dsimp only
        by_cases q1 : x < 1
        · rw [if_pos q1, if_pos q1]
        · rw [if_neg q1, if_neg q1]
          by_cases q2 : f = 0
          · rw [if_pos q2, if_pos q2]
          · rw [if_neg q2, if_neg q2]) e2
  unfold f_X2_drawStraight
  rw [e1, Option.bind_some, zlet_eq, hC.1 0 (by omega)]
  show ∃ T', (zloop (fun rec a => f_X2_drawStraight_L12b S0 rec a) zfuel (1, nI (K 0 0), T1)).bind _ = some T' ∧ _
  rw [h3, Option.bind_some]
  unfold f_X2_drawStraight_J86
  rcases h1 with ⟨st', q1, q2, q3⟩ | ⟨q1, q2⟩
  · obtain ⟨T', f1, f2⟩ := e_finish1 hK hC q3 (gAll_wf hK (okS K) q1)
    refine ⟨T', by rw [q2, f1]; rfl, ?_⟩
    rw [show tr1 K = some st' from q1]; exact f2
  · obtain ⟨T', f1, f2⟩ := e_finish0 (T := ex.2) (S1 := S0) (K := K)
    refine ⟨T', by rw [q2, f1]; rfl, ?_⟩
    rw [show tr1 K = none from q1]; exact f2
end ST2
