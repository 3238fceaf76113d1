/-! the reference's follows, laysLeast -/
section FLW
def wrM (K : Nat → Nat → Nat) (M : Nat → Nat → Int32) (q : zEn) : Nat → Nat → Int32 := zst (zst M 26 (kc q) (nI q.2.2.2)) 27 (kc q) (nI (amtK K q.2.2.1))
theorem wrM_ne {K : Nat → Nat → Nat} {M : Nat → Nat → Int32} {q : zEn} {k : Nat} (h1 : k ≠ 26) (h2 : k ≠ 27) : wrM K M q k = M k := by
  unfold wrM; rw [zst_ne _ h2, zst_ne _ h1]
theorem fwr_ne {K : Nat → Nat → Nat} {k : Nat} (h1 : k ≠ 26) (h2 : k ≠ 27) : ∀ (l : List zEn) (M : Nat → Nat → Int32), l.foldl (wrM K) M k = M k := by
  intro l
  induction l with
  | nil => intro M; rfl
  | cons x xs ih => intro M; rw [List.foldl_cons, ih, wrM_ne h1 h2]
theorem fwr_out {K : Nat → Nat → Nat} {c : Nat} : ∀ (l : List zEn) (M : Nat → Nat → Int32), (∀ q, q ∈ l → kc q ≠ c) → l.foldl (wrM K) M 26 c = M 26 c ∧ l.foldl (wrM K) M 27 c = M 27 c := by
  intro l
  induction l with
  | nil => intro M _; exact ⟨rfl, rfl⟩
  | cons x xs ih =>
    intro M h
    have hx : c ≠ kc x := fun z => h x List.mem_cons_self z.symm
    obtain ⟨i1, i2⟩ := ih (wrM K M x) fun q hq => h q (List.mem_cons_of_mem _ hq)
    rw [List.foldl_cons, i1, i2]
    unfold wrM
    rw [zst_ne _ (show (26 : Nat) ≠ 27 by decide), zst_row, upd_ne _ hx, zst_row, upd_ne _ hx, zst_ne _ (show (27 : Nat) ≠ 26 by decide)]
    exact ⟨rfl, rfl⟩
theorem fwr_in {K : Nat → Nat → Nat} : ∀ (l : List zEn) (M : Nat → Nat → Int32), (l.map kc).Nodup → ∀ q, q ∈ l → l.foldl (wrM K) M 26 (kc q) = nI q.2.2.2 ∧ l.foldl (wrM K) M 27 (kc q) = nI (amtK K q.2.2.1) := by
  intro l
  induction l with
  | nil => intro M _ q hq; exact absurd hq List.not_mem_nil
  | cons x xs ih =>
    intro M hn q hq
    rw [List.map_cons, List.nodup_cons] at hn
    rw [List.foldl_cons]
    rcases List.mem_cons.mp hq with e | h
    · subst e
      obtain ⟨i1, i2⟩ := fwr_out (K := K) (c := kc q) xs (wrM K M q) fun y hy z => hn.1 (List.mem_map.mpr ⟨y, hy, z⟩)
      rw [i1, i2]
      unfold wrM
      rw [zst_ne _ (show (26 : Nat) ≠ 27 by decide), zst_same, zst_same]; exact ⟨rfl, rfl⟩
    · exact ih (wrM K M x) hn.2 q h
theorem neg_lt0 : ∀ p, p < 128 → 0 < p → ¬ (0 : Int32) ≤ -(nI p) := by decide +kernel
theorem add_neg' {s p : Nat} (h : p ≤ s) : nI s + -(nI p) = nI (s - p) := by rw [← Int32.sub_eq_add_neg, pk_sub h]
theorem mF_fr {M M' : Nat → Nat → Int32} {K : Nat → Nat → Nat} (h8 : M' 28 = M 28) (h9 : M' 29 = M 29) (h0 : M' 30 = M 30) (h : mF M K) : mF M' K := by
  unfold mF mR; rw [h8, h9, h0]; exact h
theorem e_follows {K : Nat → Nat → Nat} (hK : wfK K) : ∀ n r t s, vld K r t s → foF K r s ≤ n → ∀ M, repM M K → mF M K → f_X7_follows n M (nI r) (nI t) (nI s) = some ((fo K n r t s).foldl (wrM K) M) := by
  have h9 := hK.1.2.1
  have h24 := hK.1.2.2.2.1
  have h6 := hK.1.2.2.1
  intro n
  induction n with
  | zero => intro r t s h hf; have := foF_le hK h; omega
  | succ n ih =>
    intro r t s h hf M hM hF
    obtain ⟨p1, p2, p3, p4, p5⟩ := vld_P hK h
    have hch := (hF.2 r t h.1 h.2.1 s h.2.2.1 p1).2
    have hwd := wid_le hK r
    show f_X7_follows_b (f_X7_follows n) M (nI r) (nI t) (nI s) = _
    unfold f_X7_follows_b
    rw [e_cellM, Option.bind_some, l_128, pk_mul, nI_add, zix_nI (by omega) (by decide), zlet_eq, nI_clamp (by omega), hch, fo]
    rcases vcase hK h with ⟨q1, q2⟩ | ⟨p, q1, q2, q3, q4⟩ | ⟨x, q1, q2, q3⟩
    · rw [q2]; rfl
    · obtain ⟨z1, z2, z3, z4, _⟩ := pts_ok s p2 p q1
      obtain ⟨c1, c2, c3, _⟩ := cnt_pts s p2 p q1
      unfold foF at hf
      rw [q2]
      dsimp only
      rw [chos_1, if_neg (neg_lt0 p (by omega) z1), Int32.neg_neg, add_neg' (by omega), z3, if_neg (by decide), if_pos rfl, ih r t p q3 (by unfold foF; omega) M hM hF, Option.bind_some, ih r t (s ^^^ p) q4 (by unfold foF; omega) _ (repM_fr (fun k hk => fwr_ne (by omega) (by omega) _ _) hM) (mF_fr (fwr_ne (by decide) (by decide) _ _) (fwr_ne (by decide) (by decide) _ _) (fwr_ne (by decide) (by decide) _ _) hF), Option.bind_some, List.foldl_append]
    · have hR := stx_lt hK h.1 q1
      have hfr := frm_lt h.2.1 q1
      have v1 := q3.1
      unfold foF at hf
      rw [q2]
      dsimp only
      rw [chos_2, if_pos (nI_pos' (by have := p5; unfold stx at q1; by_cases e : r = 0
                                      · rw [if_pos e] at q1; have := List.mem_range.mp q1; omega
                                      · rw [if_neg e, if_pos hR] at q1; have : x = 0 ∨ x = 1 ∨ x = 2 := by simpa using q1
                                        omega))]
      have hx24 : x < 24 := by
        unfold stx at q1
        by_cases e : r = 0
        · rw [if_pos e] at q1; have := List.mem_range.mp q1; omega
        · rw [if_neg e, if_pos hR] at q1; have : x = 0 ∨ x = 1 ∨ x = 2 := by simpa using q1
          omega
      rw [if_neg (nI_nle (by omega) (by omega)), if_neg (show ¬ (2 : Nat) = 0 by decide), if_neg (show ¬ (2 : Nat) = 1 by decide), List.foldl_cons]
      have j133 : ∀ sd : Nat, sd = sid r x → f_X7_follows_J133 (f_X7_follows n) M (nI r) (nI s) (nI (frm K r t x)) (nI (24 * (r + 1) + frm K r t x)) (nI (24 * (r + 1) + frm K r t x)) (nI sd) = some ((fo K n (r + 1) (frm K r t x) s).foldl (wrM K) (wrM K M (r + 1, frm K r t x, s, sid r x))) := by
        intro sd hsd
        unfold f_X7_follows_J133
        rw [zix_nI (by omega) (by decide), zlet_eq, zix_nI p2 (by decide), zix_nI (by omega) (by decide), zlet_eq, nI_clamp (by omega), zst_ne _ (show (30 : Nat) ≠ 26 by decide), hF.1 s p2, nI_1, hsd]
        have := ih (r + 1) (frm K r t x) s q3 (by unfold foF; omega) (wrM K M (r + 1, frm K r t x, s, sid r x)) (repM_fr (fun k hk => wrM_ne (by omega) (by omega)) hM) (mF_fr (wrM_ne (by decide) (by decide)) (wrM_ne (by decide) (by decide)) (wrM_ne (by decide) (by decide)) hF)
        show (f_X7_follows n (wrM K M (r + 1, frm K r t x, s, sid r x)) (nI (r + 1)) (nI (frm K r t x)) (nI s)).bind _ = _
        rw [this]; rfl
      have j90 : f_X7_follows_J90 (f_X7_follows n) M (nI r) (nI s) (nI (x + 1)) (nI (frm K r t x)) = some ((fo K n (r + 1) (frm K r t x) s).foldl (wrM K) (wrM K M (r + 1, frm K r t x, s, sid r x))) := by
        unfold f_X7_follows_J90 f_X7_follows_J118
        rw [nI_1, e_cellM, Option.bind_some]
        by_cases e : r = 0
        · rw [if_pos (by rw [e]; rfl)]
          exact j133 0 (by unfold sid; rw [if_pos e])
        · have hx3 : x = 0 ∨ x = 1 ∨ x = 2 := by unfold stx at q1; rw [if_neg e, if_pos hR] at q1; simpa using q1
          rw [if_neg (nI_ne0 (by omega) (by omega))]
          rcases hx3 with rfl | rfl | rfl
          · rw [if_pos (by decide)]; exact j133 0 (by unfold sid; rw [if_neg e]; rfl)
          · rw [if_neg (by decide), if_pos (by decide)]; exact j133 2 (by unfold sid; rw [if_neg e]; rfl)
          · rw [if_neg (by decide), if_neg (by decide)]; exact j133 1 (by unfold sid; rw [if_neg e]; rfl)
      by_cases e : r = 0
      · have hfx : frm K r t x = x := by unfold frm; rw [if_pos e]
        rw [if_pos (by rw [e]; rfl), show nI (x + 1) - 1 = nI x from nI_pred x]
        rw [hfx] at j90 ⊢
        exact j90
      · have htN : t < K 1 0 := by have := h.2.1; omega
        have hfx : frm K r t x = nb (K 1 0) t x := by unfold frm; rw [if_neg e]
        have hx3 : x = 0 ∨ x = 1 ∨ x = 2 := by unfold stx at q1; rw [if_neg e, if_pos hR] at q1; simpa using q1
        rw [if_neg (nI_ne0 (by omega) (by omega))]
        rw [hfx] at j90 ⊢
        rcases hx3 with rfl | rfl | rfl
        · rw [if_pos (by decide)]; exact j90
        · rw [if_neg (by decide), if_pos (by decide)]
          unfold f_X7_follows_J87
          rw [e_arL hM (by omega) (by omega) htN, Option.bind_some]; exact j90
        · rw [if_neg (by decide), if_neg (by decide)]
          unfold f_X7_follows_J87
          rw [e_arR hM (by omega) (by omega) htN, Option.bind_some]; exact j90
theorem lst_ne {K : Nat → Nat → Nat} (hK : wfK K) : (lstI K = -2 ↔ (K 5 0 ≠ 0 ∧ ¬ (Bt K 0 0 (allK K)).1 < 1000000000)) := by
  unfold lstI allK
  by_cases e : K 5 0 = 0
  · rw [if_pos e]
    exact ⟨fun z => absurd z (by decide), fun z => absurd e z.1⟩
  · rw [if_neg e]
    by_cases e2 : (Bt K 0 0 (2 ^ K 5 0 - 1)).1 < 1000000000
    · rw [if_pos e2]
      refine ⟨fun z => ?_, fun z => absurd e2 z.2⟩
      have := congrArg Int32.toInt z
      rw [nI_toInt (by omega)] at this
      have h2 : (-2 : Int32).toInt = -2 := by decide
      omega
    · rw [if_neg e2]; exact ⟨fun _ => ⟨e, e2⟩, fun _ => rfl⟩
theorem e_laysLeast {M : Nat → Nat → Int32} {K : Nat → Nat → Nat} (hK : wfK K) (hM : repM M K) (hT : treeM M K (pb0 K) (fun _ => 3)) : ∃ f M', f_X7_laysLeast M = some (f, M') ∧ drM K M' f (tr4 K) ∧ ∀ k, k ≠ 26 → k ≠ 27 → k ≠ 28 → k ≠ 29 → k ≠ 30 → M' k = M k := by
  obtain ⟨M1, e1, e2, e3⟩ := e_leastInk hK hM
  have hM1 : repM M1 K := repM_fr (fun k hk => e3 k (by omega) (by omega) (by omega)) hM
  have hT1 : treeM M1 K (pb0 K) (fun _ => 3) := fun c hc => by rw [e3 26 (by decide) (by decide) (by decide), e3 27 (by decide) (by decide) (by decide)]; exact hT c hc
  have hpw := pw_le (wf7 hK)
  unfold f_X7_laysLeast
  rw [e1, Option.bind_some]
  by_cases h2 : lstI K = -2
  · have hn : tr4 K = none := by
      have := (lst_ne hK).mp h2
      unfold tr4; rw [if_neg this.1, if_neg this.2]
    refine ⟨0, M1, if_pos h2, ⟨fun _ => rfl, fun st q => ?_⟩, fun k k1 k2 k3 k4 k5 => e3 k k3 k4 k5⟩
    rw [hn] at q; cases q
  · rw [if_neg h2]
    dsimp only
    by_cases e0 : K 5 0 = 0
    · have hs : tr4 K = some (pb0 K, fun _ => 3) := by unfold tr4; rw [if_pos e0]
      rw [if_pos (show M1 9 0 ≤ 0 by rw [hM1.1.2.2.2.2.2, e0]; decide)]
      refine ⟨1, M1, rfl, ⟨fun q => ?_, fun st q => ?_⟩, fun k k1 k2 k3 k4 k5 => e3 k k3 k4 k5⟩
      · rw [hs] at q; cases q
      · rw [hs] at q; cases q; exact ⟨rfl, hT1⟩
    · have hf : (Bt K 0 0 (allK K)).1 < 1000000000 := by
        rcases Nat.lt_or_ge (Bt K 0 0 (allK K)).1 1000000000 with z | z
        · exact z
        · exact absurd ((lst_ne hK).mpr ⟨e0, by omega⟩) h2
      have hs : tr4 K = some (bE K, wE K) := by unfold tr4; rw [if_neg e0, if_pos hf]
      have hv := vld_src hK e0 hf
      have h7 := wf7 hK
      have hfo := e_follows hK 40 0 0 (allK K) hv (by have := foF_le hK hv; omega) M1 hM1 e2
      have hst := (fo_st hK 0 0 _ hv 40 20 (by have := foF_le hK hv; omega) (by have := foF_le hK hv; omega)).1
      have hst' : fo K 40 0 0 (allK K) = EE K := hst
      rw [hst'] at hfo
      have hnd : ((EE K).map kc).Nodup := FO_nodup hK hv
      have hall : allK K < 128 := (vld_P hK hv).2.1
      have hM2 : repM ((EE K).foldl (wrM K) M1) K := repM_fr (fun k hk => fwr_ne (by omega) (by omega) _ _) hM1
      rw [if_neg (show ¬ M1 9 0 ≤ 0 by rw [hM1.1.2.2.2.2.2]; exact nI_nle (by omega) (by omega)), e_all hM1 h7, Option.bind_some]
      show ∃ f M', ((f_X7_follows 40 M1 (nI 0) (nI 0) (nI (allK K))).bind _) = some (f, M') ∧ _
      rw [hfo, Option.bind_some, e_all hM2 h7, Option.bind_some]
      show ∃ f M', (zix (nI (allK K)) 128 fun _ => zix (nI 0) 240 fun j => zlet (zst ((EE K).foldl (wrM K) M1) 27 j ((EE K).foldl (wrM K) M1 30 (Int32.toNatClampNeg (nI (allK K))))) fun S0_5 => some (1, S0_5)) = some (f, M') ∧ _
      rw [zix_nI hall (by decide), zix_nI (by decide) (by decide), zlet_eq, nI_clamp (by omega), fwr_ne (show (30 : Nat) ≠ 26 by decide) (by decide), e2.1 _ hall]
      refine ⟨1, _, rfl, ⟨fun q => ?_, fun st q => ?_⟩, fun k k1 k2 k3 k4 k5 => ?_⟩
      · rw [hs] at q; cases q
      · rw [hs] at q
        cases q
        refine ⟨rfl, fun c hc => ?_⟩
        rw [zst_ne _ (show (26 : Nat) ≠ 27 by decide)]
        rcases ee_cases K c with ⟨q, hq, hk⟩ | h
        · obtain ⟨x1, x2⟩ := fwr_in (EE K) M1 hnd q hq
          obtain ⟨y1, y2⟩ := bw_in hK hv hq
          obtain ⟨z1, z2, z3, z4, z5, z6, z7⟩ := EE_ent hK hv hq
          rw [hk] at x1 x2 y1 y2
          rw [zst_row, upd_ne _ (show c ≠ 0 by omega), x1, x2]
          show nI q.2.2.2 = sdI (wE K c) ∧ nI (amtK K q.2.2.1) = nI (amtK K (bE K c))
          rw [y1, y2, sd_ne (by have := z1.2.2.2.2.1; omega)]; exact ⟨rfl, rfl⟩
        · obtain ⟨x1, x2⟩ := fwr_out (K := K) (EE K) M1 h
          obtain ⟨y1, y2⟩ := bw_out h
          rw [x1]
          show M1 26 c = sdI (wE K c) ∧ _ = nI (amtK K (bE K c))
          rw [y2, (hT1 c hc).1]
          refine ⟨rfl, ?_⟩
          by_cases z : c = 0
          · rw [z, zst_same]; unfold bE; rw [if_pos rfl]
          · rw [zst_row, upd_ne _ z, x2, (hT1 c hc).2, y1 z]
            have hp0 : pb0 K c = 0 := by
              rcases Nat.eq_zero_or_pos (pb0 K c) with q | q
              · exact q
              · obtain ⟨p, hp, hb⟩ := bit_ex (pbK_lt K (c / 24) (c % 24)) (show pbK K (c / 24) (c % 24) ≠ 0 from by unfold pb0 at q; omega)
                have hpc := (pb0_bit hK (c := c) hp).mp hb
                rcases FO_plc hK 0 0 _ hv p hp (all_bit hp) with y | ⟨q', y1, y2, y3, y4⟩
                · have := (hK.2.1 p hp).1; omega
                · exact absurd (show kc q' = c by unfold kc; rw [y2, y3, hpc.1, hpc.2]; omega) (h q' y1)
            rw [hp0]
      · rw [zst_ne _ k2, fwr_ne k1 k2]; exact e3 k k3 k4 k5
end FLW
