/-! the straightened tree's loops, of both -/
section SN2
theorem e_once {S0 T : Nat → Nat → Int32} {K : Nat → Nat → Nat} (hK : wfK K) (hC : repC S0 K) {st : zT} (hT : treeC T st.1 st.2) (hW : wfT K st.1 st.2) : ∃ T', f_X2_straightenOnce S0 T = some (nI (sGo K (K 0 0 - 2) (0, st)).1, T') ∧ treeC T' (sGo K (K 0 0 - 2) (0, st)).2.1 (sGo K (K 0 0 - 2) (0, st)).2.2 := by
  have h9 := hK.1.2.1
  have h2 := hK.1.1
  have h24 := hK.1.2.2.2.1
  have row : ∀ r (A : Nat → Nat → Int32) (x : Nat × zT), 3 ≤ r → r ≤ K 0 0 → treeC A x.2.1 x.2.2 → wfT K x.2.1 x.2.2 → ∃ ex : Int32 × (Nat → Nat → Int32), (ex.1 = nI (sRow K r (K 1 0) x).1 ∧ treeC ex.2 (sRow K r (K 1 0) x).2.1 (sRow K r (K 1 0) x).2.2) ∧ zloop (fun rec a => f_X2_straightenOnce_L15b S0 (nI r) rec a) zfuel (nI x.1, 0, A) = some ex := by
    intro r A x hr3 hr hA hx
    refine zinv (I := fun i a => ∃ B, a = (nI (sRow K r i x).1, nI i, B) ∧ treeC B (sRow K r i x).2.1 (sRow K r i x).2.2) _ (K 1 0) (by omega) ?_ ?_ ?_
    · rintro i hi a ⟨B, rfl, g1⟩
      have hok := (sRow_ok hK hr3 hr hx i (by omega)).1
      rw [sRow]
      generalize sRow K r i x = y at *
      by_cases e : det K y.2.1 y.2.2 r i
      · obtain ⟨B', e1, e2⟩ := e_straighten hK hC g1 hok hr3 hr hi e
        rw [if_pos e]
        refine ⟨(nI 1, nI (i + 1), B'), ⟨B', rfl, e2⟩, fun rec => ?_⟩
        unfold f_X2_straightenOnce_L15b f_X2_straightenOnce_J45
        dsimp only
        rw [ilen (hC.1 1 (by omega)) rfl hi (by omega), e_isDetour hK hC g1 hok hr3 hr hi, Option.bind_some, if_pos e, if_neg (by decide), e1, Option.bind_some, nI_1]; rfl
      · rw [if_neg e]
        refine ⟨(nI y.1, nI (i + 1), B), ⟨B, rfl, g1⟩, fun rec => ?_⟩
        unfold f_X2_straightenOnce_L15b f_X2_straightenOnce_J45
        dsimp only
        rw [ilen (hC.1 1 (by omega)) rfl hi (by omega), e_isDetour hK hC g1 hok hr3 hr hi, Option.bind_some, if_neg e, if_pos rfl, nI_1]
    · rintro a ⟨B, rfl, g1⟩
      refine ⟨(nI (sRow K r (K 1 0) x).1, B), ⟨rfl, g1⟩, fun rec => ?_⟩
      unfold f_X2_straightenOnce_L15b
      dsimp only
      rw [ilep (hC.1 1 (by omega)) rfl (Nat.le_refl _) (by omega)]
    · exact ⟨A, rfl, hA⟩
  have key : ∃ ex : Int32 × (Nat → Nat → Int32), (ex.1 = nI (sGo K (K 0 0 - 2) (0, st)).1 ∧ treeC ex.2 (sGo K (K 0 0 - 2) (0, st)).2.1 (sGo K (K 0 0 - 2) (0, st)).2.2) ∧ zloop (fun rec a => f_X2_straightenOnce_L7b S0 rec a) zfuel (0, nI (K 0 0), T) = some ex := by
    refine zinv (I := fun i a => ∃ B, a = (nI (sGo K i (0, st)).1, nI (K 0 0 - i), B) ∧ treeC B (sGo K i (0, st)).2.1 (sGo K i (0, st)).2.2) _ (K 0 0 - 2) (by omega) ?_ ?_ ?_
    · rintro i hi a ⟨B, rfl, g1⟩
      have hok := (sGo_ok hK (x := (0, st)) hW i (by omega)).1
      obtain ⟨ex, ⟨e1, e2⟩, e3⟩ := row (K 0 0 - i) B (sGo K i (0, st)) (by omega) (by omega) g1 hok
      refine ⟨(nI (sGo K (i + 1) (0, st)).1, nI (K 0 0 - (i + 1)), ex.2), ⟨ex.2, rfl, e2⟩, fun rec => ?_⟩
      unfold f_X2_straightenOnce_L7b
      dsimp only
      obtain ⟨m, hm⟩ : ∃ m, K 0 0 - i = m + 1 := ⟨K 0 0 - i - 1, by omega⟩
      rw [if_neg (show ¬ nI (K 0 0 - i) < 3 from nI_nlt (b := 3) (by omega) (by omega))]
      show (zloop (fun rec a => f_X2_straightenOnce_L15b S0 (nI (K 0 0 - i)) rec a) zfuel (nI (sGo K i (0, st)).1, 0, B)).bind _ = _
      rw [e3, Option.bind_some, e1, hm, pk_m1, show K 0 0 - (i + 1) = m by omega, ← hm]; rfl
    · rintro a ⟨B, rfl, g1⟩
      refine ⟨(nI (sGo K (K 0 0 - 2) (0, st)).1, B), ⟨rfl, g1⟩, fun rec => ?_⟩
      unfold f_X2_straightenOnce_L7b
      dsimp only
      rw [if_pos (show nI (K 0 0 - (K 0 0 - 2)) < 3 from nI_lt (b := 3) (by omega) (by omega))]
    · exact ⟨T, rfl, hT⟩
  obtain ⟨ex, ⟨e1, e2⟩, e3⟩ := key
  refine ⟨ex.2, ?_, e2⟩
  have hf : (sGo K (K 0 0 - 2) (0, st)).1 = 0 ∨ (sGo K (K 0 0 - 2) (0, st)).1 = 1 := by
    rcases (sGo_ok hK (x := (0, st)) hW _ (Nat.le_refl _)).2 with ⟨q, _⟩ | ⟨q, _⟩
    · exact Or.inl q
    · exact Or.inr q
  unfold f_X2_straightenOnce
  rw [zlet_eq, hC.1 0 (by omega)]
  show (zloop (fun rec a => f_X2_straightenOnce_L7b S0 rec a) zfuel (0, nI (K 0 0), T)).bind _ = _
  rw [e3, Option.bind_some, e1]
  rcases hf with q | q
  · rw [q]; exact zbo_0
  · rw [q]; exact zbo_1
theorem e_drawStraightened {S0 L T : Nat → Nat → Int32} {K : Nat → Nat → Nat} (hK : wfK K) (hC : repC S0 K) (hL : drC K L (tr2 K)) : ∃ T', f_X2_drawStraightened S0 L T = some T' ∧ drC K T' (tr3 K) := by
  have hcp : ∀ (f g : Nat → Int32) c, c < 240 → va_cpy f g 0 0 240 c = f c := fun f g c hc => by rw [pk_cpy_in (by omega) (by omega)]; congr 1; omega
  have hcopy : f_X5_copyFrom T L = some (zsa (zsa T 3 (va_cpy (L 3) (T 3) 0 0 240)) 4 (va_cpy (L 4) (T 4) 0 0 240)) := rfl
  have hc34 : ∀ c, c < 240 → zsa (zsa T 3 (va_cpy (L 3) (T 3) 0 0 240)) 4 (va_cpy (L 4) (T 4) 0 0 240) 3 c = L 3 c ∧ zsa (zsa T 3 (va_cpy (L 3) (T 3) 0 0 240)) 4 (va_cpy (L 4) (T 4) 0 0 240) 4 c = L 4 c := fun c hc => by
    rw [zsa_ne _ (show (3 : Nat) ≠ 4 by decide), zsa_same, zsa_same, hcp _ _ c hc, hcp _ _ c hc]; exact ⟨rfl, rfl⟩
  generalize zsa (zsa T 3 (va_cpy (L 3) (T 3) 0 0 240)) 4 (va_cpy (L 4) (T 4) 0 0 240) = T1 at *
  unfold f_X2_drawStraightened f_X2_drawStraightened_J37
  rw [hcopy, Option.bind_some, zlet_eq]
  obtain ⟨l1, l2, l3⟩ := hL
  cases ht2 : tr2 K with
  | none =>
    rw [l2 ht2]
    obtain ⟨T', f1, f2⟩ := e_finish0 (T := T1) (S1 := S0) (K := K)
    refine ⟨T', ?_, ?_⟩
    · show (f_X2_drawStraightened_L13b S0 L (zloop (fun rec a => f_X2_drawStraightened_L13b S0 L rec a) 999) (0, 0, T1)).bind _ = _
      show (some T1).bind _ = _
      rw [Option.bind_some, f1]; rfl
    · unfold tr3; rw [ht2]; exact f2
  | some st =>
    obtain ⟨x1, x2, x3⟩ := l3 st ht2
    have hW : wfT K st.1 st.2 := gAll_wf hK (okL hK) ht2
    have hT1 : treeC T1 st.1 st.2 := fun c hc => by rw [(hc34 c hc).1, (hc34 c hc).2]; exact x3 c hc
    rw [x1]
    have key : ∃ ex, treeC ex (itr K st 240).1 (itr K st 240).2 ∧ zloop (fun rec a => f_X2_drawStraightened_L13b S0 L rec a) zfuel (1, 0, T1) = some ex := by
      refine zinvE (I := fun i a => ∃ B, a = (if i = 0 then 1 else nI (flg K st (i - 1)), nI i, B) ∧ treeC B (itr K st i).1 (itr K st i).2) _ 240 (by omega) ?_ ?_ ?_
      · rintro i hi a ⟨B, rfl, g1⟩
        have stop : ∀ f : Int32, f = 0 → ∀ rec, f_X2_drawStraightened_L13b S0 L rec (f, nI i, B) = some B := by
          intro f hf rec
          unfold f_X2_drawStraightened_L13b
          dsimp only
          rw [l_240, if_neg (nI_ge hi (by omega)), if_pos hf]
        by_cases e : i ≠ 0 ∧ flg K st (i - 1) = 0
        · refine Or.inr ⟨B, ?_, fun rec => ?_⟩
          · have h1 := (flg_st hK hW e.2 240 (by omega)).1
            have h2 := (flg_st hK hW e.2 i (by omega)).1
            rw [h1, ← h2]; exact g1
          · rw [if_neg e.1, e.2]; exact stop _ rfl rec
        · have hf : (if i = 0 then (1 : Int32) else nI (flg K st (i - 1))) = 1 := by
            by_cases q : i = 0
            · rw [if_pos q]
            · rw [if_neg q]
              rcases flg_sp hK hW (i - 1) with ⟨z, _⟩ | ⟨z, _⟩
              · exact absurd ⟨q, z⟩ e
              · rw [z]; rfl
          obtain ⟨B', e1, e2⟩ := e_once hK hC g1 (itr_wf hK hW i)
          refine Or.inl ⟨(if i + 1 = 0 then 1 else nI (flg K st (i + 1 - 1)), nI (i + 1), B'), ⟨B', rfl, e2⟩, fun rec => ?_⟩
          rw [hf, if_neg (by omega)]
          unfold f_X2_drawStraightened_L13b
          dsimp only
          rw [l_240, if_neg (nI_ge hi (by omega)), if_neg (by decide), e1, Option.bind_some, nI_1]; rfl
      · rintro a ⟨B, rfl, g1⟩
        refine ⟨B, g1, fun rec => ?_⟩
        unfold f_X2_drawStraightened_L13b
        dsimp only
        rw [l_240, if_pos (nI_le (Nat.le_refl _) (by omega))]
      · exact ⟨T1, rfl, hT1⟩
    obtain ⟨T2, k1, k2⟩ := key
    obtain ⟨T', f1, f2⟩ := e_finish1 hK hC k1 (itr_wf hK hW 240)
    refine ⟨T', ?_, ?_⟩
    · show (zloop (fun rec a => f_X2_drawStraightened_L13b S0 L rec a) zfuel (1, 0, T1)).bind _ = _
      rw [k2, Option.bind_some, f1]; rfl
    · unfold tr3; rw [ht2]; exact f2
theorem e_onceM {M : Nat → Nat → Int32} {K : Nat → Nat → Nat} (hK : wfK K) (hM : repM M K) {st : zT} (hT : treeM M K st.1 st.2) (hW : wfT K st.1 st.2) : ∃ M', f_X7_laysStraightened_L22 zfuel (0, nI (K 0 0), M) = some (nI (sGo K (K 0 0 - 2) (0, st)).1, M') ∧ treeM M' K (sGo K (K 0 0 - 2) (0, st)).2.1 (sGo K (K 0 0 - 2) (0, st)).2.2 ∧ ∀ k, k ≠ 26 → k ≠ 27 → M' k = M k := by
  have h9 := hK.1.2.1
  have h2 := hK.1.1
  have h24 := hK.1.2.2.2.1
  have row : ∀ r (A : Nat → Nat → Int32) (x : Nat × zT), 3 ≤ r → r ≤ K 0 0 → repM A K → x.1 ≤ 1 → treeM A K x.2.1 x.2.2 → wfT K x.2.1 x.2.2 → ∃ ex : Int32 × (Nat → Nat → Int32), (ex.1 = nI (sRow K r (K 1 0) x).1 ∧ treeM ex.2 K (sRow K r (K 1 0) x).2.1 (sRow K r (K 1 0) x).2.2 ∧ ∀ k, k ≠ 26 → k ≠ 27 → ex.2 k = A k) ∧ zloop (fun rec a => f_X7_laysStraightened_L29b (nI r) rec a) zfuel (nI x.1, 0, A) = some ex := by
    intro r A x hr3 hr hAM hx1 hA hx
    refine zinv (I := fun i a => ∃ B, a = (nI (sRow K r i x).1, nI i, B) ∧ treeM B K (sRow K r i x).2.1 (sRow K r i x).2.2 ∧ ∀ k, k ≠ 26 → k ≠ 27 → B k = A k) _ (K 1 0) (by omega) ?_ ?_ ?_
    · rintro i hi a ⟨B, rfl, g1, g2⟩
      have hB : repM B K := repM_fr (fun k hk => g2 k (by omega) (by omega)) hAM
      have hok := sRow_ok hK hr3 hr hx i (by omega)
      have hf1 : (sRow K r i x).1 ≤ 1 := by rcases hok.2 with ⟨q, _⟩ | ⟨q, _⟩ <;> omega
      rw [sRow]
      generalize sRow K r i x = y at *
      obtain ⟨s1, s2⟩ := e_straightens hK hB g1 hok.1 hr3 hr hi
      by_cases e : det K y.2.1 y.2.2 r i
      · obtain ⟨B', e1, e2, e3⟩ := s1 e
        rw [if_pos e]
        refine ⟨(nI 1, nI (i + 1), B'), ⟨B', rfl, e2, fun k k1 k2 => by rw [e3 k k1 k2]; exact g2 k k1 k2⟩, fun rec => ?_⟩
        unfold f_X7_laysStraightened_L29b f_X7_laysStraightened_J50 f_X7_laysStraightened_J55
        dsimp only
        rw [ilen hB.1.2.1 rfl hi (by omega), e1, Option.bind_some, if_neg (show ¬ (1 : Int32) = 0 by decide), nI_1]; rfl
      · rw [if_neg e]
        refine ⟨(nI y.1, nI (i + 1), B), ⟨B, rfl, g1, g2⟩, fun rec => ?_⟩
        unfold f_X7_laysStraightened_L29b f_X7_laysStraightened_J50 f_X7_laysStraightened_J55
        dsimp only
        rw [ilen hB.1.2.1 rfl hi (by omega), s2 e, Option.bind_some, if_pos rfl, nI_1]
        by_cases q : y.1 = 0
        · rw [q, if_pos nI_0]; rfl
        · rw [if_neg (nI_ne0 (by omega) (by omega)), show y.1 = 1 by omega]; rfl
    · rintro a ⟨B, rfl, g1, g2⟩
      have hB : repM B K := repM_fr (fun k hk => g2 k (by omega) (by omega)) hAM
      refine ⟨(nI (sRow K r (K 1 0) x).1, B), ⟨rfl, g1, g2⟩, fun rec => ?_⟩
      unfold f_X7_laysStraightened_L29b
      dsimp only
      rw [ilep hB.1.2.1 rfl (Nat.le_refl _) (by omega)]
    · exact ⟨A, rfl, hA, fun _ _ _ => rfl⟩
  have key : ∃ ex : Int32 × (Nat → Nat → Int32), (ex.1 = nI (sGo K (K 0 0 - 2) (0, st)).1 ∧ treeM ex.2 K (sGo K (K 0 0 - 2) (0, st)).2.1 (sGo K (K 0 0 - 2) (0, st)).2.2 ∧ ∀ k, k ≠ 26 → k ≠ 27 → ex.2 k = M k) ∧ zloop (fun rec a => f_X7_laysStraightened_L22b rec a) zfuel (0, nI (K 0 0), M) = some ex := by
    refine zinv (I := fun i a => ∃ B, a = (nI (sGo K i (0, st)).1, nI (K 0 0 - i), B) ∧ treeM B K (sGo K i (0, st)).2.1 (sGo K i (0, st)).2.2 ∧ ∀ k, k ≠ 26 → k ≠ 27 → B k = M k) _ (K 0 0 - 2) (by omega) ?_ ?_ ?_
    · rintro i hi a ⟨B, rfl, g1, g2⟩
      have hB : repM B K := repM_fr (fun k hk => g2 k (by omega) (by omega)) hM
      have hok := sGo_ok hK (x := (0, st)) hW i (by omega)
      have hf1 : (sGo K i (0, st)).1 ≤ 1 := by rcases hok.2 with ⟨q, _⟩ | ⟨q, _⟩ <;> (rw [q]; first | exact Nat.zero_le _ | exact Nat.le_refl _)
      obtain ⟨ex, ⟨e1, e2, e4⟩, e3⟩ := row (K 0 0 - i) B (sGo K i (0, st)) (by omega) (by omega) hB hf1 g1 hok.1
      refine ⟨(nI (sGo K (i + 1) (0, st)).1, nI (K 0 0 - (i + 1)), ex.2), ⟨ex.2, rfl, e2, fun k k1 k2 => by rw [e4 k k1 k2]; exact g2 k k1 k2⟩, fun rec => ?_⟩
      unfold f_X7_laysStraightened_L22b
      dsimp only
      obtain ⟨m, hm⟩ : ∃ m, K 0 0 - i = m + 1 := ⟨K 0 0 - i - 1, by omega⟩
      rw [if_neg (show ¬ nI (K 0 0 - i) ≤ 2 from nI_ge (a := 2) (by omega) (by omega))]
      show (zloop (fun rec a => f_X7_laysStraightened_L29b (nI (K 0 0 - i)) rec a) zfuel (nI (sGo K i (0, st)).1, 0, B)).bind _ = _
      rw [e3, Option.bind_some, e1, hm, pk_m1, show K 0 0 - (i + 1) = m by omega, ← hm]; rfl
    · rintro a ⟨B, rfl, g1, g2⟩
      refine ⟨(nI (sGo K (K 0 0 - 2) (0, st)).1, B), ⟨rfl, g1, g2⟩, fun rec => ?_⟩
      unfold f_X7_laysStraightened_L22b
      dsimp only
      rw [if_pos (show nI (K 0 0 - (K 0 0 - 2)) ≤ 2 from nI_le (b := 2) (by omega) (by omega))]
    · exact ⟨M, rfl, hT, fun _ _ _ => rfl⟩
  obtain ⟨ex, ⟨e1, e2, e4⟩, e3⟩ := key
  refine ⟨ex.2, ?_, e2, e4⟩
  show zloop (fun rec a => f_X7_laysStraightened_L22b rec a) zfuel (0, nI (K 0 0), M) = _
  rw [e3, ← e1]
theorem e_laysStraightened {M : Nat → Nat → Int32} {K : Nat → Nat → Nat} (hK : wfK K) (hM : repM M K) (hT : treeM M K (pb0 K) (fun _ => 3)) : ∃ f M', f_X7_laysStraightened M = some (f, M') ∧ drM K M' f (tr3 K) ∧ ∀ k, k ≠ 26 → k ≠ 27 → M' k = M k := by
  obtain ⟨f, M1, e1, ⟨e2, e3⟩, e4⟩ := e_laysLean hK hM hT
  unfold f_X7_laysStraightened
  rw [e1, Option.bind_some]
  cases ht2 : tr2 K with
  | none =>
    refine ⟨0, M1, by rw [e2 ht2, if_pos rfl], ⟨fun _ => rfl, fun st q => ?_⟩, e4⟩
    unfold tr3 at q; rw [ht2] at q; cases q
  | some st =>
    obtain ⟨x1, x2⟩ := e3 st ht2
    have hW : wfT K st.1 st.2 := gAll_wf hK (okL hK) ht2
    have hM1 : repM M1 K := repM_fr (fun k hk => e4 k (by omega) (by omega)) hM
    have key : ∃ ex, (treeM ex K (itr K st 240).1 (itr K st 240).2 ∧ ∀ k, k ≠ 26 → k ≠ 27 → ex k = M k) ∧ zloop (fun rec a => f_X7_laysStraightened_L11b rec a) zfuel (1, M1) = some ex := by
      refine zinvE (I := fun i a => ∃ B, a = (if i = 0 then 1 else nI (flg K st (i - 1)), B) ∧ treeM B K (itr K st i).1 (itr K st i).2 ∧ ∀ k, k ≠ 26 → k ≠ 27 → B k = M k) _ 241 (by omega) ?_ ?_ ?_
      · rintro i hi a ⟨B, rfl, g1, g2⟩
        have hB : repM B K := repM_fr (fun k hk => g2 k (by omega) (by omega)) hM
        by_cases e : i ≠ 0 ∧ flg K st (i - 1) = 0
        · refine Or.inr ⟨B, ⟨?_, g2⟩, fun rec => ?_⟩
          · have h1 := (flg_st hK hW e.2 240 (by omega)).1
            have h2 := (flg_st hK hW e.2 i (by omega)).1
            rw [h1, ← h2]; exact g1
          · rw [if_neg e.1, e.2]; rfl
        · have hf : (if i = 0 then (1 : Int32) else nI (flg K st (i - 1))) = 1 := by
            by_cases q : i = 0
            · rw [if_pos q]
            · rw [if_neg q]
              rcases flg_sp hK hW (i - 1) with ⟨z, _⟩ | ⟨z, _⟩
              · exact absurd ⟨q, z⟩ e
              · rw [z]; rfl
          obtain ⟨B', b1, b2, b3⟩ := e_onceM hK hB g1 (itr_wf hK hW i)
          refine Or.inl ⟨(if i + 1 = 0 then 1 else nI (flg K st (i + 1 - 1)), B'), ⟨B', rfl, b2, fun k k1 k2 => by rw [b3 k k1 k2]; exact g2 k k1 k2⟩, fun rec => ?_⟩
          rw [hf, if_neg (by omega)]
          unfold f_X7_laysStraightened_L11b
          dsimp only
          rw [if_neg (by decide), zlet_eq, hB.1.1, b1, Option.bind_some]; rfl
      · rintro a ⟨B, rfl, g1, g2⟩
        have hz := flg_240 hK hW
        refine ⟨B, ⟨?_, g2⟩, fun rec => ?_⟩
        · rw [← (flg_st hK hW hz 241 (by omega)).1]; exact g1
        · rw [if_neg (by omega), show 241 - 1 = 240 from rfl, hz]; rfl
      · exact ⟨M1, rfl, x2, e4⟩
    obtain ⟨M2, ⟨k1, k2⟩, k3⟩ := key
    refine ⟨1, M2, ?_, ⟨fun q => ?_, fun s q => ?_⟩, k2⟩
    · rw [x1, if_neg (show ¬ (1 : Int32) = 0 by decide)]
      show (zloop (fun rec a => f_X7_laysStraightened_L11b rec a) zfuel (1, M1)).bind _ = _
      rw [k3]; rfl
    · unfold tr3 at q; rw [ht2] at q; cases q
    · unfold tr3 at q; rw [ht2] at q; cases q; exact ⟨rfl, k1⟩
theorem tr3_wf {K : Nat → Nat → Nat} (hK : wfK K) {st : zT} (h : tr3 K = some st) : wfT K st.1 st.2 := by
  unfold tr3 at h
  cases ht2 : tr2 K with
  | none => rw [ht2] at h; cases h
  | some s => rw [ht2] at h; cases h; exact itr_wf hK (gAll_wf hK (okL hK) ht2) 240
end SN2
