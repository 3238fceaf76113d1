/-! the class's drawLeast -/
section DRL
/-- the set at a cell of ring r, if there is one: the source's, or an entry's -/
def setAt (K : Nat → Nat → Nat) (r t S : Nat) : Prop := (r = 0 ∧ t = 0 ∧ S = allK K) ∨ ∃ sd, (r, t, S, sd) ∈ EE K
def told (K : Nat → Nat → Nat) (r i : Nat) (q : zEn) : Prop := q ∈ EE K ∧ (q.1 ≤ r ∨ ∃ t' S', t' < i ∧ setAt K r t' S' ∧ q ∈ IM K r t' S')
def dlI (K : Nat → Nat → Nat) (T : Nat → Nat → Int32) (r i : Nat) : Prop := T 3 0 = nI (allK K) ∧ T 4 0 = -1 ∧ (∀ q, told K r i q → T 3 (kc q) = nI q.2.2.1 ∧ T 4 (kc q) = nI q.2.2.2) ∧ ∀ c, 0 < c → c < 240 → (T 3 c = 0 ∧ T 4 c = -1) ∨ ∃ q, q ∈ EE K ∧ kc q = c ∧ T 3 c = nI q.2.2.1 ∧ T 4 c = nI q.2.2.2
theorem setAt_v {K : Nat → Nat → Nat} (hK : wfK K) (hv : vld K 0 0 (allK K)) {r t S : Nat} (h : setAt K r t S) : vld K r t S ∧ ∀ q, q ∈ IM K r t S → q ∈ EE K := by
  rcases h with ⟨e1, e2, e3⟩ | ⟨sd, h⟩
  · subst e1 e2 e3
    exact ⟨hv, fun q hq => (FO_lev hK 0 0 _ hv q).mpr (Or.inl hq)⟩
  · exact ⟨(EE_ent hK hv h).1.2.1, fun q hq => (FO_lev hK 0 0 _ hv q).mpr (Or.inr ⟨_, h, hq⟩)⟩
theorem e_drawLeast1 {S S1 T : Nat → Nat → Int32} {K : Nat → Nat → Nat} (hK : wfK K) (hC : repC S1 K) (hS : tabF S K) (hv : vld K 0 0 (allK K)) (hI : dlI K T 0 0) : ∃ S' T', f_X2_drawLeast_L31 S1 1 zfuel (0, S, T) = some (S', T') ∧ tabF S' K ∧ S' 0 = S 0 ∧ treeC T' (bE K) (wE K) := by
  have h9 := hK.1.2.1
  have h24 := hK.1.2.2.2.1
  have h2 := hK.1.1
  have hP1 := (vld_P hK hv).1
  have hpw := pw_le (wf7 hK)
  -- one cell
  have cell : ∀ r i (A B : Nat → Nat → Int32), r < K 0 0 → i < wid K r → tabF A K → A 0 = S 0 → dlI K B r i → ∃ A' B', f_X0_unfold A S1 B (nI r) (nI i) = some (A', B') ∧ tabF A' K ∧ A' 0 = S 0 ∧ dlI K B' r (i + 1) := by
    intro r i A B hr hi hA hA0 hB
    obtain ⟨b1, b2, b3, b4⟩ := hB
    have hwd := wid_le hK r
    have hw0 : r = 0 → i = 0 := fun e => by rw [e] at hi; have : wid K 0 = 1 := by unfold wid; rw [if_pos rfl]
                                            omega
    -- is there a set?
    have hset : (∃ s, setAt K r i s ∧ B 3 (24 * r + i) = nI s) ∨ ((∀ s, ¬ setAt K r i s) ∧ B 3 (24 * r + i) = 0) := by
      by_cases er : r = 0
      · have := hw0 er
        subst er this
        exact Or.inl ⟨allK K, Or.inl ⟨rfl, rfl, rfl⟩, b1⟩
      · rcases ee_cases K (24 * r + i) with ⟨q, hq, hk⟩ | h
        · obtain ⟨e1, e2, e3, e4, e5, e6, e7⟩ := EE_ent hK hv hq
          rw [hk] at e4 e5
          have hq1 : q.1 = r := by omega
          have hq2 : q.2.1 = i := by omega
          refine Or.inl ⟨q.2.2.1, Or.inr ⟨q.2.2.2, ?_⟩, ?_⟩
          · rw [← hq1, ← hq2]; exact hq
          · rw [← hk]; exact (b3 q ⟨hq, Or.inl (by omega)⟩).1
        · refine Or.inr ⟨fun s hs => ?_, ?_⟩
          · rcases hs with ⟨z, _⟩ | ⟨sd, z⟩
            · exact er z
            · exact h _ z rfl
          · rcases b4 (24 * r + i) (by omega) (by omega) with z | ⟨q, z1, z2, _⟩
            · exact z.1
            · exact absurd z2 (h q z1)
    rcases hset with ⟨s, hs, hbs⟩ | ⟨hno, hb0⟩
    · obtain ⟨v1, v2⟩ := setAt_v hK hv hs
      obtain ⟨A', u1, u2, u3⟩ := e_unfold1 hK hC hA v1 hbs
      refine ⟨A', _, u1, u2, by rw [u3]; exact hA0, ?_⟩
      have huniq : ∀ q, q ∈ EE K → ∀ q', q' ∈ IM K r i s → kc q' = kc q → q' = q := fun q hq q' hq' he => FO_uniq hK hv (v2 q' hq') hq he
      have h0 : ∀ q, q ∈ IM K r i s → kc q ≠ 0 := fun q hq z => by have := (EE_ent hK hv (v2 q hq)).2.1; omega
      obtain ⟨f1, f2⟩ := fwc_out (IM K r i s) B h0
      refine ⟨by rw [f1]; exact b1, by rw [f2]; exact b2, fun q hq => ?_, fun c hc0 hc => ?_⟩
      · refine fwc_in (IM K r i s) B (huniq q hq.1) ?_
        rcases hq.2 with z | ⟨t', S', z1, z2, z3⟩
        · exact Or.inr (b3 q ⟨hq.1, Or.inl z⟩)
        · by_cases e : t' = i
          · left
            have : S' = s := by
              subst e
              rcases z2 with ⟨y1, y2, y3⟩ | ⟨sd, y⟩
              · rcases hs with ⟨x1, x2, x3⟩ | ⟨sd', x⟩
                · rw [y3, x3]
                · have := (EE_ent hK hv x).1.1; omega
              · rcases hs with ⟨x1, x2, x3⟩ | ⟨sd', x⟩
                · have := (EE_ent hK hv y).1.1; omega
                · have := FO_uniq hK hv y x rfl
                  exact congrArg (fun z => z.2.2.1) this
            rw [← this, ← e]; exact z3
          · exact Or.inr (b3 q ⟨hq.1, Or.inr ⟨t', S', by omega, z2, z3⟩⟩)
      · rcases Classical.em (∃ q, q ∈ IM K r i s ∧ kc q = c) with ⟨q, hq, hk⟩ | h
        · have := fwc_in (IM K r i s) B (huniq q (v2 q hq)) (Or.inl hq)
          rw [hk] at this
          exact Or.inr ⟨q, v2 q hq, hk, this⟩
        · obtain ⟨g1, g2⟩ := fwc_out (c := c) (IM K r i s) B fun q hq z => h ⟨q, hq, z⟩
          rw [g1, g2]; exact b4 c hc0 hc
    · obtain ⟨A', u1, u2, u3⟩ := e_unfold0 (S1 := S1) (T := B) hA (r := r) (t := i) (by omega) hb0
      refine ⟨A', B, u1, u2, by rw [u3]; exact hA0, b1, b2, fun q hq => b3 q ⟨hq.1, ?_⟩, b4⟩
      rcases hq.2 with z | ⟨t', S', z1, z2, z3⟩
      · exact Or.inl z
      · by_cases e : t' = i
        · rw [e] at z2; exact absurd z2 (hno S')
        · exact Or.inr ⟨t', S', by omega, z2, z3⟩
  -- one ring
  have ring : ∀ r (A B : Nat → Nat → Int32), r < K 0 0 → tabF A K → A 0 = S 0 → dlI K B r 0 → ∃ ex : (Nat → Nat → Int32) × (Nat → Nat → Int32), (tabF ex.1 K ∧ ex.1 0 = S 0 ∧ dlI K ex.2 (r + 1) 0) ∧ zloop (fun rec a => f_X2_drawLeast_L43b S1 1 (nI r) rec a) zfuel (0, A, B) = some ex := by
    intro r A B hr hA hA0 hB
    have hwd := wid_le hK r
    refine zinv (I := fun i a => ∃ A' B', a = (nI i, A', B') ∧ tabF A' K ∧ A' 0 = S 0 ∧ dlI K B' r i) _ (wid K r) (by omega) ?_ ?_ ?_
    · rintro i hi a ⟨A', B', rfl, g1, g2, g3⟩
      obtain ⟨A2, B2, u1, u2, u3, u4⟩ := cell r i A' B' hr hi g1 g2 g3
      refine ⟨(nI (i + 1), A2, B2), ⟨A2, B2, rfl, u2, u3, u4⟩, fun rec => ?_⟩
      unfold f_X2_drawLeast_L43b
      dsimp only
      rw [e_turnsOf hC (by omega), Option.bind_some, if_neg (nI_ge hi (by omega)), u1, Option.bind_some, nI_1]
    · rintro a ⟨A', B', rfl, g1, g2, g3, g4, g5, g6⟩
      refine ⟨(A', B'), ⟨g1, g2, g3, g4, fun q hq => g5 q ⟨hq.1, ?_⟩, g6⟩, fun rec => ?_⟩
      · rcases hq.2 with z | ⟨t', S', z1, _⟩
        · by_cases e : q.1 ≤ r
          · exact Or.inl e
          · have hq1 : q.1 = r + 1 := by omega
            rcases (FO_lev hK 0 0 _ hv q).mp hq.1 with y | ⟨q', y1, y2⟩
            · have := ((IM_sp hK 0 0 _ hv).1 q y).1
              have hr0 : r = 0 := by omega
              subst hr0
              exact Or.inr ⟨0, allK K, by omega, Or.inl ⟨rfl, rfl, rfl⟩, y⟩
            · obtain ⟨e1, e2, e3, e4, e5, e6, e7⟩ := EE_ent hK hv y1
              have := ((IM_sp hK _ _ _ e1.2.1).1 q y2).1
              have hr' : q'.1 = r := by omega
              refine Or.inr ⟨q'.2.1, q'.2.2.1, ?_, Or.inr ⟨q'.2.2.2, by rw [← hr']; exact y1⟩, by rw [← hr']; exact y2⟩
              have := e1.2.1.2.1
              rw [hr'] at this; exact this
        · omega
      · unfold f_X2_drawLeast_L43b
        dsimp only
        rw [e_turnsOf hC (by omega), Option.bind_some, if_pos (nI_le (Nat.le_refl _) (by omega))]
    · exact ⟨A, B, rfl, hA, hA0, hB⟩
  have key : ∃ ex : (Nat → Nat → Int32) × (Nat → Nat → Int32), (tabF ex.1 K ∧ ex.1 0 = S 0 ∧ dlI K ex.2 (K 0 0) 0) ∧ zloop (fun rec a => f_X2_drawLeast_L31b S1 1 rec a) zfuel (0, S, T) = some ex := by
    refine zinv (I := fun i a => ∃ A' B', a = (nI i, A', B') ∧ tabF A' K ∧ A' 0 = S 0 ∧ dlI K B' i 0) _ (K 0 0) (by omega) ?_ ?_ ?_
    · rintro i hi a ⟨A', B', rfl, g1, g2, g3⟩
      obtain ⟨ex, ⟨u2, u3, u4⟩, u1⟩ := ring i A' B' hi g1 g2 g3
      refine ⟨(nI (i + 1), ex.1, ex.2), ⟨ex.1, ex.2, rfl, u2, u3, u4⟩, fun rec => ?_⟩
      unfold f_X2_drawLeast_L31b
      dsimp only
      rw [ilen (hC.1 0 (by omega)) rfl hi (by omega)]
      show (zloop (fun rec a => f_X2_drawLeast_L43b S1 1 (nI i) rec a) zfuel (0, A', B')).bind _ = _
      rw [u1, Option.bind_some, nI_1]
    · rintro a ⟨A', B', rfl, g1, g2, g3⟩
      refine ⟨(A', B'), ⟨g1, g2, g3⟩, fun rec => ?_⟩
      unfold f_X2_drawLeast_L31b
      dsimp only
      rw [ilep (hC.1 0 (by omega)) rfl (Nat.le_refl _) (by omega)]
    · exact ⟨S, T, rfl, hS, rfl, hI⟩
  obtain ⟨ex, ⟨k1, k2, k3⟩, k4⟩ := key
  refine ⟨ex.1, ex.2, k4, k1, k2, fun c hc => ?_⟩
  obtain ⟨d1, d2, d3, d4⟩ := k3
  rcases ee_cases K c with ⟨q, hq, hk⟩ | h
  · obtain ⟨e1, e2, e3, e4, e5, e6, e7⟩ := EE_ent hK hv hq
    have hd := d3 q ⟨hq, Or.inl e1.2.1.1⟩
    obtain ⟨y1, y2⟩ := bw_in hK hv hq
    rw [hk] at hd y1 y2
    rw [y1, y2, sd_ne (by have := e1.2.2.2.2.1; omega)]; exact hd
  · obtain ⟨y1, y2⟩ := bw_out h
    rw [y2]
    by_cases z : c = 0
    · rw [z, d1, d2]; unfold bE; rw [if_pos rfl]; exact ⟨rfl, rfl⟩
    · rw [y1 z]
      rcases d4 c (by omega) hc with w | ⟨q, w1, w2, _⟩
      · exact w
      · exact absurd w2 (h q w1)
theorem e_drawLeast0 {S S1 T : Nat → Nat → Int32} {K : Nat → Nat → Nat} (hK : wfK K) (hC : repC S1 K) (hS : tabF S K) (hz : ∀ c, c < 240 → T 3 c = 0) : ∃ S', f_X2_drawLeast_L31 S1 1 zfuel (0, S, T) = some (S', T) ∧ tabF S' K ∧ S' 0 = S 0 := by
  have h9 := hK.1.2.1
  have ring : ∀ r (A : Nat → Nat → Int32), r < K 0 0 → tabF A K → A 0 = S 0 → ∃ ex : (Nat → Nat → Int32) × (Nat → Nat → Int32), (tabF ex.1 K ∧ ex.1 0 = S 0 ∧ ex.2 = T) ∧ zloop (fun rec a => f_X2_drawLeast_L43b S1 1 (nI r) rec a) zfuel (0, A, T) = some ex := by
    intro r A hr hA hA0
    have hwd := wid_le hK r
    refine zinv (I := fun i a => ∃ A', a = (nI i, A', T) ∧ tabF A' K ∧ A' 0 = S 0) _ (wid K r) (by omega) ?_ ?_ ?_
    · rintro i hi a ⟨A', rfl, g1, g2⟩
      obtain ⟨A2, u1, u2, u3⟩ := e_unfold0 (S1 := S1) (T := T) g1 (r := r) (t := i) (by omega) (hz _ (by omega))
      refine ⟨(nI (i + 1), A2, T), ⟨A2, rfl, u2, by rw [u3]; exact g2⟩, fun rec => ?_⟩
      unfold f_X2_drawLeast_L43b
      dsimp only
      rw [e_turnsOf hC (by omega), Option.bind_some, if_neg (nI_ge hi (by omega)), u1, Option.bind_some, nI_1]
    · rintro a ⟨A', rfl, g1, g2⟩
      refine ⟨(A', T), ⟨g1, g2, rfl⟩, fun rec => ?_⟩
      unfold f_X2_drawLeast_L43b
      dsimp only
      rw [e_turnsOf hC (by omega), Option.bind_some, if_pos (nI_le (Nat.le_refl _) (by omega))]
    · exact ⟨A, rfl, hA, hA0⟩
  have key : ∃ ex : (Nat → Nat → Int32) × (Nat → Nat → Int32), (tabF ex.1 K ∧ ex.1 0 = S 0 ∧ ex.2 = T) ∧ zloop (fun rec a => f_X2_drawLeast_L31b S1 1 rec a) zfuel (0, S, T) = some ex := by
    refine zinv (I := fun i a => ∃ A', a = (nI i, A', T) ∧ tabF A' K ∧ A' 0 = S 0) _ (K 0 0) (by omega) ?_ ?_ ?_
    · rintro i hi a ⟨A', rfl, g1, g2⟩
      obtain ⟨ex, ⟨u2, u3, u4⟩, u1⟩ := ring i A' hi g1 g2
      refine ⟨(nI (i + 1), ex.1, T), ⟨ex.1, rfl, u2, u3⟩, fun rec => ?_⟩
      unfold f_X2_drawLeast_L31b
      dsimp only
      rw [ilen (hC.1 0 (by omega)) rfl hi (by omega)]
      show (zloop (fun rec a => f_X2_drawLeast_L43b S1 1 (nI i) rec a) zfuel (0, A', T)).bind _ = _
      rw [u1, Option.bind_some, nI_1, u4]
    · rintro a ⟨A', rfl, g1, g2⟩
      refine ⟨(A', T), ⟨g1, g2, rfl⟩, fun rec => ?_⟩
      unfold f_X2_drawLeast_L31b
      dsimp only
      rw [ilep (hC.1 0 (by omega)) rfl (Nat.le_refl _) (by omega)]
    · exact ⟨S, rfl, hS, rfl⟩
  obtain ⟨ex, ⟨k1, k2, k3⟩, k4⟩ := key
  refine ⟨ex.1, ?_, k1, k2⟩
  exact Eq.trans k4 (congrArg some (Prod.ext rfl k3))
theorem e_drawLeast {S S1 T : Nat → Nat → Int32} {K : Nat → Nat → Nat} (hK : wfK K) (hC : repC S1 K) (hS : tabF S K) : ∃ S' T', f_X2_drawLeast S1 S T = some (S', T') ∧ tabF S' K ∧ S' 0 = S 0 ∧ drC K T' (tr4 K) := by
  have h7 := wf7 hK
  have hpw := pw_le h7
  obtain ⟨T1, c1, c2, _⟩ := e_clear5 (T := T)
  have hR0 := (hS.2 0 0 (Nat.zero_le _) (by unfold wid; rw [if_pos rfl]; decide)).1
  have hX := Rt_128 hK 0 0
  have hct := e_comesTo (S := S) (c := 0) (s := allK K) (X := Rt K 0 0) (by decide) (by unfold allK; omega) hX hR0
  have hall : f_X1_allPlaces S1 = some (nI (allK K)) := e_allPlaces hC h7
  unfold f_X2_drawLeast f_X2_drawLeast_J76
  rw [c1, Option.bind_some, hall, Option.bind_some]
  show ∃ S' T', ((f_X0_comesTo S (nI 0) (nI (allK K))).bind _) = some (S', T') ∧ _
  rw [hct, Option.bind_some, Option.bind_some]
  by_cases e0 : K 5 0 = 0
  · have ha : allK K = 0 := by unfold allK; rw [e0]
    have hs : tr4 K = some (pb0 K, fun _ => 3) := by unfold tr4; rw [if_pos e0]
    have hz0 : ∀ c, pb0 K c = 0 := fun c => by unfold pb0 pbK; rw [if_neg (by omega)]
    have hT2 : ∀ c, c < 240 → zst T1 3 0 (nI (allK K)) 3 c = 0 := fun c hc => by
      by_cases z : c = 0
      · rw [z, zst_same, ha]; rfl
      · rw [zst_row, upd_ne _ z]; exact (c2 c hc).1
    obtain ⟨S', u1, u2, u3⟩ := e_drawLeast0 (T := zst T1 3 0 (nI (allK K))) hK hC hS hT2
    have hTC : treeC (zst T1 3 0 (nI (allK K))) (pb0 K) (fun _ => 3) := fun c hc => by
      rw [hT2 c hc, zst_ne _ (by decide), (c2 c hc).2, hz0]; exact ⟨rfl, rfl⟩
    obtain ⟨T', f1, f2⟩ := e_finish1 hK hC hTC (tr4_wf hK hs)
    refine ⟨S', T', ?_, u2, u3, ?_⟩
    · rw [if_pos (show allK K &&& Rt K 0 0 = allK K by rw [ha]; exact Nat.zero_and _), if_neg (show ¬ (1 : Int32) = 0 by decide)]
      show ((f_X2_drawLeast_L31 S1 1 zfuel (0, S, zst T1 3 0 (nI (allK K)))).bind _) = _
      rw [u1, Option.bind_some]
      dsimp only
      rw [f1]; rfl
    · rw [hs]; exact f2
  · by_cases e2 : (Bt K 0 0 (allK K)).1 < 1000000000
    · have hv := vld_src hK e0 e2
      have hs : tr4 K = some (bE K, wE K) := by unfold tr4; rw [if_neg e0, if_pos e2]
      have hI : dlI K (zst T1 3 0 (nI (allK K))) 0 0 := by
        refine ⟨zst_same _ _ _ _, by rw [zst_ne _ (by decide)]; exact (c2 0 (by decide)).2, fun q hq => ?_, fun c hc0 hc => Or.inl ?_⟩
        · rcases hq.2 with z | ⟨t', S', z1, _⟩
          · have := (EE_ent hK hv hq.1).1.1; omega
          · omega
        · rw [zst_row, upd_ne _ (by omega), zst_ne _ (by decide)]; exact c2 c hc
      obtain ⟨S', T2, u1, u2, u3, u4⟩ := e_drawLeast1 hK hC hS hv hI
      obtain ⟨T', f1, f2⟩ := e_finish1 hK hC u4 (tr4_wf1 hK hv)
      refine ⟨S', T', ?_, u2, u3, ?_⟩
      · rw [if_pos (show allK K &&& Rt K 0 0 = allK K from hv.2.2.2), if_neg (show ¬ (1 : Int32) = 0 by decide)]
        show ((f_X2_drawLeast_L31 S1 1 zfuel (0, S, zst T1 3 0 (nI (allK K)))).bind _) = _
        rw [u1, Option.bind_some]
        dsimp only
        rw [f1]; rfl
      · rw [hs]; exact f2
    · have hs : tr4 K = none := by unfold tr4; rw [if_neg e0, if_neg e2]
      have h1 : 1 < 2 ^ K 5 0 := Nat.one_lt_two_pow (by omega)
      have hnb : ¬ (allK K &&& Rt K 0 0 = allK K) := fun z => e2 ((Bt_ok hK (by unfold allK; omega) (by unfold allK; omega)).1.mpr z)
      obtain ⟨T', f1, f2⟩ := e_finish0 (T := T1) (S1 := S1) (K := K)
      refine ⟨S, T', ?_, hS, rfl, ?_⟩
      · rw [if_neg hnb, if_pos rfl, f1]; rfl
      · rw [hs]; exact f2
end DRL
