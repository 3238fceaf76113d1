/-! the leaning tree, of both -/
section LE3
def tr2 (K : Nat → Nat → Nat) : Option zT := gAll (choL K) K (K 0 0) (pb0 K, fun _ => 3)
theorem e_laysLean {M : Nat → Nat → Int32} {K : Nat → Nat → Nat} (hK : wfK K) (hM : repM M K) (hT : treeM M K (pb0 K) (fun _ => 3)) : ∃ f M', f_X7_laysLean M = some (f, M') ∧ drM K M' f (tr2 K) ∧ ∀ k, k ≠ 26 → k ≠ 27 → M' k = M k := by
  have h9 := hK.1.2.1
  have h24 := hK.1.2.2.2.1
  obtain ⟨ex, ⟨h1, h2⟩, h3⟩ := e_ringsM hK (okL hK) (ring := fun r M => f_X7_laysLean_L11 r zfuel (0, M)) (fun r M st hr1 hr hM hT hI => e_ringM hK (okL hK) hr1 hr (body := fun rec a => f_X7_laysLean_L11b (nI r) rec a)
      (fun A rec hA => by
        show f_X7_laysLean_L11b (nI r) rec (nI (K 1 0), A) = _
        unfold f_X7_laysLean_L11b
        dsimp only
        rw [ilep hA.1.2.1 rfl (Nat.le_refl _) (by omega)])
      (fun A i rec hA hi h0 => by
        show f_X7_laysLean_L11b (nI r) rec (nI i, A) = _
        unfold f_X7_laysLean_L11b f_X7_laysLean_J67
        dsimp only
        rw [ilen hA.1.2.1 rfl hi (by omega), e_cellM, Option.bind_some, zix_nI (by omega) (by decide), nI_clamp (by omega), if_pos (show A 27 (24 * r + i) ≤ 0 by rw [h0]; decide), nI_1])
      (fun A b w i rec hA hi hT hI h0 => by
        show f_X7_laysLean_L11b (nI r) rec (nI i, A) = _
        have hbP := (hI.1 (24 * r + i) (by omega)).1
        have hpos := amtK_pos (fun p hp => (hK.2.1 p hp).2.2.2.1) hbP h0
        have ham := amt_le hK (b (24 * r + i))
        have j53 : ∀ s, s < 4 → f_X7_laysLean_J53 rec A (nI r) (nI i) (sdI s) = if s = 3 then some (0, A) else (f_X7_steps A (nI r) (nI i) (nI s)).bind fun R => rec (nI (i + 1), R) := by
          intro s hs
          unfold f_X7_laysLean_J53 f_X7_laysLean_J67
          by_cases e : s = 3
          · rw [if_neg (fun q => (sd_ge hs).mp q e), if_pos e]
          · rw [if_pos ((sd_ge hs).mpr e), if_neg e, sd_ne e, nI_1]
        have hlt : choL K b r i < 4 := by rcases okL hK b r i hr1 hr hi with q | q <;> omega
        refine Eq.trans ?_ (j53 (choL K b r i) hlt)
        unfold f_X7_laysLean_L11b choL
        dsimp only
        rw [ilen hA.1.2.1 rfl hi (by omega), e_cellM, Option.bind_some, zix_nI (by omega) (by decide), nI_clamp (by omega), if_neg (show ¬ A 27 (24 * r + i) ≤ 0 by rw [(hT _ (by omega)).2]; exact nI_nle (by omega) (by omega))]
        by_cases e : r = 1
        · rw [if_pos e, if_pos ((nq1 (by omega)).mpr e)]; rfl
        · rw [if_neg e, if_neg (fun q => e ((nq1 (by omega)).mp q)), e_wantsM hK hA hT (fun c hc => (hI.1 c hc).1) (by omega) hi, Option.bind_some, e_goesBy hK hA hr1 hr hi (wnt_lt K b r i), Option.bind_some])
      hM hT hI) (body := fun rec a => f_X7_laysLean_L5b rec a) (fun rec a => rfl) hM hT
  unfold f_X7_laysLean
  rw [zlet_eq, hM.1.1]
  show ∃ f M', (zloop (fun rec a => f_X7_laysLean_L5b rec a) zfuel (nI (K 0 0), M)).bind _ = some (f, M') ∧ _
  rw [h3, Option.bind_some]
  rcases h1 with ⟨st', q1, q2, q3⟩ | ⟨q1, q2⟩
  · refine ⟨1, ex.2, by rw [if_neg (by omega)], ⟨fun q => ?_, fun st q => ?_⟩, h2⟩
    · rw [show tr2 K = some st' from q1] at q; cases q
    · rw [show tr2 K = some st' from q1] at q; cases q; exact ⟨rfl, q3⟩
  · refine ⟨0, ex.2, by rw [if_pos q2], ⟨fun _ => rfl, fun st q => ?_⟩, h2⟩
    rw [show tr2 K = none from q1] at q; cases q
theorem e_leanRing {S0 T : Nat → Nat → Int32} {K : Nat → Nat → Nat} (hK : wfK K) (hC : repC S0 K) {r : Nat} (hr1 : 1 ≤ r) (hr : r ≤ K 0 0) {st : zT} (hT : treeC T st.1 st.2) (hI : stI K r 0 st.1 st.2) : ∃ ex : Int32 × (Nat → Nat → Int32), ((∃ st', gRing (choL K) K r (K 1 0) st = some st' ∧ ex.1 = 1 ∧ treeC ex.2 st'.1 st'.2) ∨ (gRing (choL K) K r (K 1 0) st = none ∧ ex.1 = 0)) ∧ f_X2_leanRing S0 T (nI r) = some ex := by
  have h9 := hK.1.2.1
  have h24 := hK.1.2.2.2.1
  have h6 := hK.1.2.2.1
  have hpw := pw_le (wf7 hK)
  have key : ∃ ex : Nat × (Nat → Nat → Int32), ((∃ st', gRing (choL K) K r (K 1 0) st = some st' ∧ ex.1 = 1 ∧ treeC ex.2 st'.1 st'.2) ∨ (gRing (choL K) K r (K 1 0) st = none ∧ ex.1 = 0)) ∧ zloop (fun rec a => f_X2_leanRing_L2b S0 (nI r) rec a) zfuel (0, T) = some ex := by
    refine zinvE (I := fun i a => ∃ A st', a = (nI i, A) ∧ gRing (choL K) K r i st = some st' ∧ treeC A st'.1 st'.2) _ (K 1 0) (by omega) ?_ ?_ ?_
    · rintro i hi a ⟨A, st', rfl, g1, g2⟩
      have hS := gRing_inv hK (okL hK) hr1 hr hI i (by omega) st' g1
      have hbP := (hS.1 (24 * r + i) (by omega)).1
      have hn := gRing_s g1
      by_cases e : st'.1 (24 * r + i) = 0
      · rw [if_pos e] at hn
        refine Or.inl ⟨(nI (i + 1), A), ⟨A, st', rfl, hn, g2⟩, fun rec => ?_⟩
        unfold f_X2_leanRing_L2b f_X2_leanRing_J71
        dsimp only
        rw [ilen (hC.1 1 (by omega)) rfl hi (by omega), e_cellOf, Option.bind_some, zix_nI (by omega) (by decide), nI_clamp (by omega), if_pos (show A 3 (24 * r + i) = 0 by rw [(g2 _ (by omega)).1, e]; rfl), nI_1]
      · rw [if_neg e] at hn
        have hlt : choL K st'.1 r i < 4 := by rcases okL hK st'.1 r i hr1 hr hi with q | q <;> omega
        have bod : ∀ rec, f_X2_leanRing_L2b S0 (nI r) rec (nI i, A) = if choL K st'.1 r i = 3 then some (0, A) else (f_X2_go S0 A (nI r) (nI i) (nI (choL K st'.1 r i))).bind fun R => rec (nI (i + 1), R) := by
          intro rec
          have j42 : ∀ s, s < 3 → f_X2_leanRing_J42 rec S0 A (nI r) (nI i) (nI s) = if pas K r i s = 3 then some (0, A) else (f_X2_go S0 A (nI r) (nI i) (nI (pas K r i s))).bind fun R => rec (nI (i + 1), R) := by
            intro s hs
            unfold f_X2_leanRing_J42 f_X2_leanRing_J71
            rw [e_passable hK hC hr hi hs, Option.bind_some]
            by_cases q : pas K r i s = 3
            · rw [if_pos q, q, if_pos (by decide)]
            · have : pas K r i s < 4 := by
                unfold pas at q ⊢
                by_cases z : K 9 (tg (K 1 0) r i s) = 0
                · rw [if_pos z]; omega
                · rw [if_neg z]; rcases fre_ok K r i with y | y <;> omega
              rw [if_neg q, sd_ne q, if_neg (nI_nm1 (by omega)), nI_1]
          unfold f_X2_leanRing_L2b choL
          dsimp only
          rw [ilen (hC.1 1 (by omega)) rfl hi (by omega), e_cellOf, Option.bind_some, zix_nI (by omega) (by decide), nI_clamp (by omega), if_neg (show ¬ A 3 (24 * r + i) = 0 by rw [(g2 _ (by omega)).1]; exact nI_ne0 (by omega) (by omega))]
          by_cases q : r = 1
          · have hp : pas K r i 0 = 0 := by
              unfold pas tg; rw [if_pos (show r ≤ 1 by omega), if_pos (rk0 hK)]
            have := j42 0 (by decide)
            rw [hp] at this
            rw [if_pos ((nq1 (by omega)).mpr q), if_pos q]
            exact this
          · rw [if_neg (fun z => q ((nq1 (by omega)).mp z)), if_neg q, e_wanted hK hC g2 (fun c hc => by have := (hS.1 c hc).1; omega) (by omega) hi, Option.bind_some]
            exact j42 _ (wnt_lt K st'.1 r i)
        rcases okL hK st'.1 r i hr1 hr hi with q | ⟨q1, q2, q3⟩
        · rw [if_pos q] at hn
          refine Or.inr ⟨(0, A), Or.inr ⟨gRing_n hn _ (by omega), rfl⟩, fun rec => ?_⟩
          rw [bod, if_pos q]
        · rw [if_neg (by omega)] at hn
          obtain ⟨A', e1, e2⟩ := e_go hK hC g2 hr hi q1 (by omega) e
          refine Or.inl ⟨(nI (i + 1), A'), ⟨A', _, rfl, hn, e2⟩, fun rec => ?_⟩
          rw [bod, if_neg (by omega), e1]; rfl
    · rintro a ⟨A, st', rfl, g1, g2⟩
      refine ⟨(1, A), Or.inl ⟨st', g1, rfl, g2⟩, fun rec => ?_⟩
      unfold f_X2_leanRing_L2b
      dsimp only
      rw [ilep (hC.1 1 (by omega)) rfl (Nat.le_refl _) (by omega)]
    · exact ⟨T, st, rfl, rfl, hT⟩
  obtain ⟨ex, h1, h3⟩ := key
  unfold f_X2_leanRing
  show ∃ ex' : Int32 × (Nat → Nat → Int32), _ ∧ (zloop (fun rec a => f_X2_leanRing_L2b S0 (nI r) rec a) zfuel (0, T)).bind _ = some ex'
  rw [h3, Option.bind_some]
  rcases h1 with ⟨st', q1, q2, q3⟩ | ⟨q1, q2⟩
  · exact ⟨(1, ex.2), Or.inl ⟨st', q1, rfl, q3⟩, by rw [if_neg (by omega)]⟩
  · exact ⟨(0, ex.2), Or.inr ⟨q1, rfl⟩, by rw [if_pos q2]⟩
theorem e_drawLean {S0 T : Nat → Nat → Int32} {K : Nat → Nat → Nat} (hK : wfK K) (hC : repC S0 K) : ∃ T', f_X2_drawLean S0 T = some T' ∧ drC K T' (tr2 K) := by
  obtain ⟨T1, e1, e2⟩ := e_clearBut (T := T) hK hC
  obtain ⟨ex, h1, h3⟩ := e_ringsC hK (okL hK) (ring := fun r T => f_X2_leanRing S0 T r) (fun r T st hr1 hr hT hI => e_leanRing hK hC hr1 hr hT hI) (body := fun rec a => f_X2_drawLean_L12b S0 rec a) (fun rec f x T => by
      show f_X2_drawLean_L12b S0 rec (f, x, T) = _
      by_cases q : f = 1
      · rw [if_pos q, q]; rfl
      · rw [if_neg q]
        unfold f_X2_drawLean_L12b
        dsimp only
        by_cases q1 : x < 1
        · rw [if_pos q1, if_pos q1]
        · rw [if_neg q1, if_neg q1]
          by_cases q2 : f = 0
          · rw [if_pos q2, if_pos q2]
          · rw [if_neg q2, if_neg q2]) e2
  unfold f_X2_drawLean
  rw [e1, Option.bind_some, zlet_eq, hC.1 0 (by omega)]
  show ∃ T', (zloop (fun rec a => f_X2_drawLean_L12b S0 rec a) zfuel (1, nI (K 0 0), T1)).bind _ = some T' ∧ _
  rw [h3, Option.bind_some]
  unfold f_X2_drawLean_J34
  rcases h1 with ⟨st', q1, q2, q3⟩ | ⟨q1, q2⟩
  · obtain ⟨T', f1, f2⟩ := e_finish1 hK hC q3 (gAll_wf hK (okL hK) q1)
    refine ⟨T', by rw [q2, f1]; rfl, ?_⟩
    rw [show tr2 K = some st' from q1]; exact f2
  · obtain ⟨T', f1, f2⟩ := e_finish0 (T := ex.2) (S1 := S0) (K := K)
    refine ⟨T', by rw [q2, f1]; rfl, ?_⟩
    rw [show tr2 K = none from q1]; exact f2
end LE3
