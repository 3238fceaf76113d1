/-! the class's fill -/
section FI4
theorem m1n (n : Nat) : nI (n + 1) + -nI 1 = nI n := pk_m1 n
/-- the rows of rings above r stand, and of ring r those ahead of turn i -/
def tabA (S : Nat → Nat → Int32) (K : Nat → Nat → Nat) (r i : Nat) : Prop := ∀ r' t', r' ≤ K 0 0 → t' < wid K r' → (r < r' ∨ (r' = r ∧ t' < i)) → tabR S K r' t'
theorem Rt_src {K : Nat → Nat → Nat} (hK : wfK K) : Rt K 0 0 = (List.range (K 1 0)).foldl (fun a x => a ||| Rt K 1 x) 0 := by
  rw [Rt_fix hK (Nat.zero_le _)]
  have h9 : K 9 (24 * 0 + 0) = 0 := by
    have h1 := hK.2.2.2.1 (24 * 0 + 0)
    have h2 := hK.2.2.2.2 (24 * 0 + 0)
    omega
  rw [if_neg (by omega)]
  have hp : pbK K 0 0 = 0 := by unfold pbK; rw [plc_src hK, if_neg (by omega)]
  rw [hp]
  unfold stx
  rw [if_pos rfl]
  refine foldl_cg _ _ fun x _ b => ?_
  unfold frm; rw [if_pos rfl]
theorem e_reachSource {S S1 : Nat → Nat → Int32} {K : Nat → Nat → Nat} (hK : wfK K) (hC : repC S1 K) (hA : tabA S K 0 0) : f_X0_reachingSource S S1 = some (nI (Rt K 0 0)) := by
  have h24 := hK.1.2.2.2.1
  have h2 := hK.1.1
  have hl : f_X0_reachingSource_L4 S S1 zfuel (0, 0) = some (nI (Rt K 0 0)) := by
    refine zfor0 (fun i => (nI ((List.range i).foldl (fun a x => a ||| Rt K 1 x) 0), nI i)) (K 1 0) _ (by omega) (fun i hi rec => ?_) (fun rec => ?_)
    · show f_X0_reachingSource_L4b S S1 rec (_, nI i) = rec (_, nI (i + 1))
      unfold f_X0_reachingSource_L4b
      dsimp only
      have hw : i < wid K 1 := by unfold wid; rw [if_neg (by decide)]; exact hi
      have hr := (hA 1 i (by omega) hw (Or.inl (by decide))).1
      rw [hC.1 1 (by omega), if_neg (nI_ge hi (by omega)), l_1, e_cellOf, Option.bind_some, zix_nI (by omega) (by decide), nI_clamp (by omega), zlet_eq, hr, nx_or, nI_add, List.range_succ, List.foldl_append]
      rfl
    · show f_X0_reachingSource_L4b S S1 rec (_, nI (K 1 0)) = _
      unfold f_X0_reachingSource_L4b
      dsimp only
      rw [hC.1 1 (by omega), if_pos (nI_le (Nat.le_refl _) (by omega)), Rt_src hK]
  unfold f_X0_reachingSource
  rw [hl]; rfl
theorem e_reachOut {S S1 : Nat → Nat → Int32} {K : Nat → Nat → Nat} (hK : wfK K) (hC : repC S1 K) {r t : Nat} (hr1 : 1 ≤ r) (hr : r ≤ K 0 0) (ht : t < K 1 0) (hk : K 9 (24 * r + t) = 0) (hO : r < K 0 0 → ∀ t', t' < K 1 0 → tabR S K (r + 1) t') : ∃ z, f_X0_reachingFromOutside S S1 (nI r) (nI t) = some (nI z) ∧ pbK K r t ||| z = Rt K r t := by
  have h24 := hK.1.2.2.2.1
  have h9 := hK.1.2.1
  have hN := hK.1.2.2.1
  rw [Rt_fix hK hr, if_neg (by omega)]
  unfold f_X0_reachingFromOutside stx
  rw [hC.1 0 (by omega), if_neg (show ¬ r = 0 by omega)]
  by_cases e : r < K 0 0
  · have hn1 := nb_lt 1 ht
    have hn2 := nb_lt 2 ht
    have f0 : frm K r t 0 = t := by unfold frm nb; rw [if_neg (by omega)]; rfl
    have f1 : frm K r t 1 = nb (K 1 0) t 1 := by unfold frm; rw [if_neg (by omega)]
    have f2 : frm K r t 2 = nb (K 1 0) t 2 := by unfold frm; rw [if_neg (by omega)]
    refine ⟨Rt K (r + 1) t ||| Rt K (r + 1) (nb (K 1 0) t 1) ||| Rt K (r + 1) (nb (K 1 0) t 2), ?_, ?_⟩
    · rw [if_pos (nI_lt e (by omega)), l_1, nI_add, e_cellOf, Option.bind_some, zix_nI (by omega) (by decide), e_turnBeside hC (by omega) (by omega) ht (by omega), Option.bind_some, e_cellOf, Option.bind_some, zix_nI (by omega) (by decide), l_2, e_turnBeside hC (by omega) (by omega) ht (by omega), Option.bind_some, e_cellOf, Option.bind_some, zix_nI (by omega) (by decide), nI_clamp (by omega), nI_clamp (by omega), nI_clamp (by omega), (hO e t ht).1, (hO e _ hn1).1, (hO e _ hn2).1, nx_or, nx_or]
    · rw [if_pos e]
      show _ = ((pbK K r t ||| Rt K (r + 1) (frm K r t 0)) ||| Rt K (r + 1) (frm K r t 1)) ||| Rt K (r + 1) (frm K r t 2)
      rw [f0, f1, f2, Nat.or_assoc, Nat.or_assoc, Nat.or_assoc]
  · refine ⟨0, ?_, ?_⟩
    · rw [if_neg (nI_nlt (by omega) (by omega))]; rfl
    · rw [if_neg e, Nat.or_zero]; rfl
theorem e_fillRing {S S1 : Nat → Nat → Int32} {K : Nat → Nat → Nat} (hK : wfK K) (hC : repC S1 K) {r : Nat} (hr1 : 1 ≤ r) (hr : r ≤ K 0 0) (hT : tabP S K) (hA : tabA S K r 0) : ∃ S', f_X0_fill_L22 S1 (nI r) zfuel (0, S) = some S' ∧ tabP S' K ∧ tabA S' K (r - 1) 0 ∧ S' 0 = S 0 ∧ S' 10 = S 10 := by
  have h24 := hK.1.2.2.2.1
  have h9 := hK.1.2.1
  have hwr : wid K r = K 1 0 := by unfold wid; rw [if_neg (by omega)]
  have key : ∃ ex, (tabP ex K ∧ tabA ex K (r - 1) 0 ∧ ex 0 = S 0 ∧ ex 10 = S 10) ∧ zloop (fun rec a => f_X0_fill_L22b S1 (nI r) rec a) zfuel (0, S) = some ex := by
    refine zinv (I := fun i a => ∃ A, a = (nI i, A) ∧ tabP A K ∧ tabA A K r i ∧ A 0 = S 0 ∧ A 10 = S 10) _ (K 1 0) (by omega) ?_ ?_ ?_
    · rintro i hi a ⟨A, rfl, g1, g2, g3, g4⟩
      have hc := cellR hK hr (t := i) (by omega)
      have hO : r < K 0 0 → ∀ t', t' < K 1 0 → tabR A K (r + 1) t' := fun e t' ht' => g2 (r + 1) t' (by omega) (by unfold wid; rw [if_neg (by omega)]; exact ht') (Or.inl (by omega))
      have body : ∀ v, v = nI (Rt K r i) → ∃ a', (∃ A', a' = (nI (i + 1), A') ∧ tabP A' K ∧ tabA A' K r (i + 1) ∧ A' 0 = S 0 ∧ A' 10 = S 10) ∧ ∀ rec, f_X0_fill_J72 rec A S1 (nI r) (nI i) (nI (24 * r + i)) v = rec a' := by
        intro v hv
        obtain ⟨S', e1, e2, e3, e4⟩ := e_fillCell (S := zst A 5 (24 * r + i) v) hK hC hr (t := i) (by omega) (by rw [zst_same, hv]) (tabP_fr (zst_ne _ (by omega) _ _) (zst_ne _ (by omega) _ _) (zst_ne _ (by omega) _ _) g1) (fun e t' ht' => tabR_fr hK (c := 24 * r + i) (by omega) (by rw [zst_row, upd_ne _ (by omega)]) (fun j _ => by rw [zst_ne _ (by omega)]) (hO e t' ht'))
        refine ⟨(nI (i + 1), S'), ⟨S', rfl, ?_, ?_, ?_, ?_⟩, fun rec => ?_⟩
        · exact tabP_fr (by rw [e3 6 (by omega), zst_ne _ (by omega)]) (by rw [e3 8 (by omega), zst_ne _ (by omega)]) (by rw [e3 9 (by omega), zst_ne _ (by omega)]) g1
        · intro r' t' hr' ht' hor
          have hw' := wid_le hK r'
          by_cases ec : 24 * r' + t' = 24 * r + i
          · have q1 : r' = r := by omega
            have q2 : t' = i := by omega
            rw [q1, q2]; exact e2
          · refine tabR_fr hK (c := 24 * r + i) ec (by rw [e3 5 (by omega), zst_row, upd_ne _ ec]) (fun j hj => by rw [e4 j hj, zst_ne _ (by omega)]) (g2 r' t' hr' ht' ?_)
            rcases hor with q | ⟨q1, q2⟩
            · exact Or.inl q
            · exact Or.inr ⟨q1, by subst q1; omega⟩
        · rw [e3 0 (by omega), zst_ne _ (by omega)]; exact g3
        · rw [e3 10 (by omega), zst_ne _ (by omega)]; exact g4
        · unfold f_X0_fill_J72
          rw [zix_nI hc (by decide), zlet_eq, e1, Option.bind_some, nI_1]
      by_cases ek : K 9 (24 * r + i) = 0
      · obtain ⟨z, hz1, hz2⟩ := e_reachOut hK hC hr1 hr hi ek hO
        obtain ⟨a', ha1, ha2⟩ := body (nI (pbK K r i ||| z)) (by rw [hz2])
        refine ⟨a', ha1, fun rec => ?_⟩
        unfold f_X0_fill_L22b
        dsimp only
        rw [hC.1 1 (by omega), if_neg (nI_ge hi (by omega)), e_cellOf, Option.bind_some, zix_nI hc (by decide), nI_clamp (by omega), hC.2.2 _ hc, ek, if_pos nI_0, zix_nI hc (by decide), hz1, Option.bind_some, g1.1 r i hr (by omega), nx_or]
        exact ha2 rec
      · obtain ⟨a', ha1, ha2⟩ := body 0 (by rw [Rt_fix hK hr, if_pos ek]; rfl)
        refine ⟨a', ha1, fun rec => ?_⟩
        have hk1 := hK.2.2.2.1 (24 * r + i)
        unfold f_X0_fill_L22b
        dsimp only
        rw [hC.1 1 (by omega), if_neg (nI_ge hi (by omega)), e_cellOf, Option.bind_some, zix_nI hc (by decide), nI_clamp (by omega), hC.2.2 _ hc, if_neg (nI_ne0 (by omega) (by omega))]
        exact ha2 rec
    · rintro a ⟨A, rfl, g1, g2, g3, g4⟩
      refine ⟨A, ⟨g1, fun r' t' hr' ht' hor => g2 r' t' hr' ht' ?_, g3, g4⟩, fun rec => ?_⟩
      · by_cases q : r' = r
        · refine Or.inr ⟨q, ?_⟩; rw [q, hwr] at ht'; exact ht'
        · exact Or.inl (by omega)
      · unfold f_X0_fill_L22b
        dsimp only
        rw [hC.1 1 (by omega), if_pos (nI_le (Nat.le_refl _) (by omega))]
    · exact ⟨S, rfl, hT, hA, rfl, rfl⟩
  obtain ⟨S', hq, hz⟩ := key
  exact ⟨S', hz, hq⟩
/-- the table stands -/
def tabF (S : Nat → Nat → Int32) (K : Nat → Nat → Nat) : Prop := tabP S K ∧ ∀ r t, r ≤ K 0 0 → t < wid K r → tabR S K r t
theorem e_fill {S S1 : Nat → Nat → Int32} {K : Nat → Nat → Nat} (hK : wfK K) (hC : repC S1 K) : ∃ S', f_X0_fill S S1 = some S' ∧ tabF S' K ∧ S' 0 0 = 1 := by
  have h24 := hK.1.2.2.2.1
  have h9 := hK.1.2.1
  obtain ⟨Sa, ea, pa, fa⟩ := e_notePlaces (S := S) hK hC
  obtain ⟨Sb, eb, pb, fb⟩ := e_noteSteps (S := Sa) hK hC
  have hT : tabP Sb K := ⟨fun r t hr ht => by rw [fb 6 (by omega) (by omega)]; exact pa r t hr ht, pb⟩
  have key : ∃ ex, (tabP ex K ∧ tabA ex K 0 0) ∧ zloop (fun rec a => f_X0_fill_L15b S1 rec a) zfuel (nI (K 0 0), Sb) = some ex := by
    refine zinv (I := fun i a => ∃ A, a = (nI (K 0 0 - i), A) ∧ tabP A K ∧ tabA A K (K 0 0 - i) 0) _ (K 0 0) (by omega) ?_ ?_ ?_
    · rintro i hi a ⟨A, rfl, g1, g2⟩
      obtain ⟨S', e1, e2, e3, _⟩ := e_fillRing hK hC (r := K 0 0 - i) (by omega) (by omega) g1 g2
      refine ⟨(nI (K 0 0 - (i + 1)), S'), ⟨S', rfl, e2, e3⟩, fun rec => ?_⟩
      unfold f_X0_fill_L15b
      dsimp only
      rw [l_1, if_neg (nI_nlt (by omega) (by omega)), e1, Option.bind_some]
      obtain ⟨m, hm⟩ : ∃ m, K 0 0 - i = m + 1 := ⟨K 0 0 - i - 1, by omega⟩
      rw [hm, m1n, show K 0 0 - (i + 1) = m by omega]
    · rintro a ⟨A, rfl, g1, g2⟩
      refine ⟨A, ⟨g1, by rw [Nat.sub_self] at g2; exact g2⟩, fun rec => ?_⟩
      unfold f_X0_fill_L15b
      dsimp only
      rw [Nat.sub_self, l_1, if_pos (nI_lt (by omega) (by omega))]
    · refine ⟨Sb, rfl, hT, fun r' t' hr' ht' hor => ?_⟩
      rcases hor with q | ⟨_, q⟩
      · omega
      · omega
  obtain ⟨Sc, ⟨hc1, hc2⟩, hz⟩ := key
  have hs := e_reachSource hK hC hc2
  have hw0 : wid K 0 = 1 := by unfold wid; rw [if_pos rfl]
  obtain ⟨Sd, d1, d2, d3, d4⟩ := e_fillCell (S := zst Sc 5 0 (nI (Rt K 0 0))) hK hC (r := 0) (t := 0) (Nat.zero_le _) (by omega) (zst_same _ _ _ _) (tabP_fr (zst_ne _ (by omega) _ _) (zst_ne _ (by omega) _ _) (zst_ne _ (by omega) _ _) hc1) (fun e t' ht' => tabR_fr hK (c := 24 * 0 + 0) (by omega) (by rw [zst_row, upd_ne _ (by omega)]) (fun j _ => by rw [zst_ne _ (by omega)]) (hc2 (0 + 1) t' (by omega) (by unfold wid; rw [if_neg (by omega)]; exact ht') (Or.inl (by omega))))
  refine ⟨zst Sd 0 0 1, ?_, ⟨?_, fun r t hr ht => ?_⟩, zst_same _ _ _ _⟩
  · unfold f_X0_fill
    rw [ea, Option.bind_some, eb, Option.bind_some, zlet_eq, hC.1 0 (by omega)]
    show (zloop (fun rec a => f_X0_fill_L15b S1 rec a) zfuel (nI (K 0 0), Sb)).bind _ = _
    rw [hz, Option.bind_some, hs, Option.bind_some]
    show (f_X0_fillCell (zst Sc 5 0 (nI (Rt K 0 0))) S1 (nI 0) (nI 0)).bind _ = _
    rw [d1]; rfl
  · exact tabP_fr (by rw [zst_ne _ (by omega), d3 6 (by omega), zst_ne _ (by omega)]) (by rw [zst_ne _ (by omega), d3 8 (by omega), zst_ne _ (by omega)]) (by rw [zst_ne _ (by omega), d3 9 (by omega), zst_ne _ (by omega)]) hc1
  · have hwd := wid_le hK r
    by_cases e : 24 * r + t = 24 * 0 + 0
    · have q1 : r = 0 := by omega
      have q2 : t = 0 := by omega
      rw [q1, q2]
      exact ⟨by rw [zst_ne _ (by omega)]; exact d2.1, fun s s0 hs => by rw [zst_ne _ (by omega)]; exact d2.2 s s0 hs⟩
    · have hr0 : 0 < r := by
        rcases Nat.eq_zero_or_pos r with q | q
        · rw [q, hw0] at ht; omega
        · exact q
      refine tabR_fr hK (c := 24 * 0 + 0) e (by rw [zst_ne _ (by omega), d3 5 (by omega), zst_row, upd_ne _ (by omega)]) (fun j hj => by rw [zst_ne _ (by omega), d4 j hj, zst_ne _ (by omega)]) (hc2 r t hr ht (Or.inl hr0))
theorem e_inkOf {S : Nat → Nat → Int32} {K : Nat → Nat → Nat} (hK : wfK K) (hT : tabF S K) {r t s : Nat} (hr : r ≤ K 0 0) (ht : t < wid K r) (hs : s < 2 ^ K 5 0) : f_X0_inkOf S (nI (24 * r + t)) (nI s) = some (if s = 0 then 0 else if (Bt K r t s).1 < 1000000000 then nI (Bt K r t s).1 else -2) := by
  have hpw := pw_le (wf7 hK)
  have hc := cellR hK hr ht
  have hX := Rt_128 hK r t
  obtain ⟨h5, h7⟩ := hT.2 r t hr ht
  unfold f_X0_inkOf
  by_cases e : s = 0
  · rw [e, if_pos nI_0, if_pos rfl]
  · rw [if_neg (nI_ne0 (by omega) (by omega)), if_neg e, e_comesTo hc (by omega) hX h5, Option.bind_some]
    have hb := (Bt_ok hK (r := r) (t := t) (s := s) (by omega) hs).1
    by_cases e2 : s &&& Rt K r t = s
    · rw [if_pos e2, if_neg (by decide), if_pos (hb.mpr e2), l_128, pk_mul, nI_add, zix_nI (by omega) (by decide), nI_clamp (by omega), show (24 * r + t) * 128 + s = 128 * (24 * r + t) + s by omega, h7 s (by omega) e2]
    · rw [if_neg e2, if_pos rfl, if_neg (fun q => e2 (hb.mp q))]
end FI4
