/-! more: the class's findWay, whole -/
section MO4
theorem e_findWay {S S1 T : Nat → Nat → Int32} {K : Nat → Nat → Nat} {b w : Nat → Nat} (hK : wfK K) (hC : repC S1 K) (hT : treeC T b w) (hW : wfT K b w) {a R t : Nat} (ha1 : 1 ≤ a) (ha : a ≤ 99) (hR1 : 1 ≤ R) (hR : R ≤ K 0 0) (ht : t < K 1 0) (hk : K 9 (24 * R + t) = 0) : ∃ S', f_X3_findWay S S1 T (nI R) (nI t) (nI a) = some (if mvF K w a R t < INF then 1 else 0, S') ∧ (mvF K w a R t < INF → S' 0 0 = nI (mvF K w a R t / 240) ∧ S' 1 0 = nI (mvF K w a R t % 240 / 24) ∧ S' 2 0 = nI (mvF K w a R t % 240 % 24)) := by
  have h9 := hK.1.2.1
  have h24 := hK.1.2.2.2.1
  have h6 := hK.1.2.2.1
  have hpw := pw_le (wf7 hK)
  have hc : 24 * R + t < 240 := by omega
  have hbP := (hW.1 (24 * R + t) hc).1
  have hwc := hW.2.2.1 (24 * R + t) (by omega) hc
  unfold f_X3_findWay
  rw [zlet_eq, e_cellOf, Option.bind_some, zix_nI hc (by decide), nI_clamp (by omega), (hT _ hc).1]
  by_cases hon : w (24 * R + t) = 3
  · have hb0 : b (24 * R + t) = 0 := by
      rcases Nat.eq_zero_or_pos (b (24 * R + t)) with q | q
      · exact q
      · exact absurd hon (hwc.1.mp (by omega))
    obtain ⟨Q, hQ, hQ0⟩ := e_fillA (N := 240) (by decide) (f := zst S 3 0 0 4) (v := -1)
    rw [hb0, if_pos nI_0, hQ, Option.bind_some, zlet_eq, zix_nI hc (by decide), zlet_eq]
    have hF := (mv_inf hK hW ha R t hR ht).1
    have hff : FF K w a (24 * R + t) = mvF K w a R t := ff_c (by omega)
    have h0 : nwR (zst (zsa (zst S 3 0 0) 4 (Q 0)) 4 (24 * R + t) 0) (fun x => if x = 24 * R + t then 0 else NW) INF := by
      refine ⟨fun c hcc => ?_, Nat.le_refl _, fun _ => ?_, fun z => absurd z (Nat.lt_irrefl _)⟩
      · show (if c = 24 * R + t then 0 else NW) ≤ NW ∧ _ = if (if c = 24 * R + t then 0 else NW) = NW then -1 else nI (if c = 24 * R + t then 0 else NW)
        by_cases q : c = 24 * R + t
        · rw [if_pos q, q, zst_same, if_neg (by decide)]; exact ⟨Nat.zero_le _, rfl⟩
        · rw [if_neg q, zst_row, upd_ne _ q, zsa_same, hQ0, if_pos rfl]; exact ⟨Nat.le_refl _, if_pos hcc⟩
      · rw [zst_ne _ (by decide), zsa_ne _ (by decide), zst_same]
    have hi0 : nInv K w a (mvF K w a R t) R R 0 (fun x => if x = 24 * R + t then 0 else NW) INF False := by
      have only : ∀ c, (fun x => if x = 24 * R + t then 0 else NW) c ≠ NW → c = 24 * R + t := by
        intro c h
        by_cases q : c = 24 * R + t
        · exact q
        · exact absurd (if_neg q) h
      refine ⟨fun c h => ?_, hF, fun c h _ => ?_, fun _ => Or.inr (Or.inl ⟨24 * R + t, ?_, ?_, ?_⟩)⟩
      · rw [only c h]
        refine ⟨by omega, by omega, by omega, hc, hon, hk, ?_⟩
        show (if 24 * R + t = 24 * R + t then 0 else NW) ≤ _
        rw [if_pos rfl]; exact Nat.zero_le _
      · rw [only c h, hff]; omega
      · show (if 24 * R + t = 24 * R + t then 0 else NW) ≠ NW
        rw [if_pos rfl]; decide
      · unfold unp; omega
      · rw [hff]
        show _ = 240 * ((if 24 * R + t = 24 * R + t then 0 else NW) * _) + _
        rw [if_pos rfl, Nat.zero_mul, Nat.mul_zero, Nat.zero_add]
    generalize zst (zsa (zst S 3 0 0) 4 (Q 0)) 4 (24 * R + t) 0 = A0 at *
    generalize (fun x => if x = 24 * R + t then 0 else NW : Nat → Nat) = ow0 at *
    have ring : ∀ r (A : Nat → Nat → Int32) ow e, 1 ≤ r → r ≤ R → nwR A ow e → nInv K w a (mvF K w a R t) R r 0 ow e False → ∃ ex : Nat → Nat → Int32, (∃ ow' e', nwR ex ow' e' ∧ nInv K w a (mvF K w a R t) R (r - 1) 0 ow' e' False) ∧ zloop (fun rec x => f_X3_findWay_L71b S1 T (nI a) (nI r) rec x) zfuel (0, A) = some ex := by
      intro r A ow e hr1 hr hA hI
      refine zinv (I := fun i x => ∃ B ow' e', x = (nI i, B) ∧ nwR B ow' e' ∧ nInv K w a (mvF K w a R t) R r i ow' e' False) _ (K 1 0) (by omega) ?_ ?_ ?_
      · rintro i hi x ⟨B, ow', e', rfl, g1, g2⟩
        obtain ⟨n1, n2⟩ := g1.1 (24 * r + i) (by omega)
        by_cases q : ow' (24 * r + i) = NW
        · rw [if_pos q] at n2
          obtain ⟨i1, i2, i3, i4⟩ := g2
          refine ⟨(nI (i + 1), B), ⟨B, ow', e', rfl, g1, i1, i2, fun c hcc hu => i3 c hcc (by unfold unp at *; omega), fun hlt => ?_⟩, fun rec => ?_⟩
          · rcases i4 hlt with z | ⟨c, z1, z2, z3⟩ | z
            · exact Or.inl z
            · have hne : c ≠ 24 * r + i := fun y => z1 (by rw [y]; exact q)
              exact Or.inr (Or.inl ⟨c, z1, by unfold unp at *; omega, z3⟩)
            · exact z.elim
          · unfold f_X3_findWay_L71b f_X3_findWay_J108
            dsimp only
            rw [ilen (hC.1 1 (by omega)) rfl hi (by omega), e_cellOf, Option.bind_some, zix_nI (by omega) (by decide), nI_clamp (by omega), if_pos n2, nI_1]
        · rw [if_neg q] at n2
          obtain ⟨B', ow2, e2, u1, u2, u3⟩ := e_goOn hK hC hT hW ha1 ha hR hr1 hr hi hF g1 g2 q
          refine ⟨(nI (i + 1), B'), ⟨B', ow2, e2, rfl, u2, u3⟩, fun rec => ?_⟩
          unfold f_X3_findWay_L71b f_X3_findWay_J108
          dsimp only
          rw [ilen (hC.1 1 (by omega)) rfl hi (by omega), e_cellOf, Option.bind_some, zix_nI (by omega) (by decide), nI_clamp (by omega), if_neg (show ¬ B 4 (24 * r + i) = -1 by rw [n2]; exact nI_nm1 (by unfold NW at n1; omega)), u1, Option.bind_some, nI_1]
      · rintro x ⟨B, ow', e', rfl, g1, i1, i2, i3, i4⟩
        refine ⟨B, ⟨ow', e', g1, i1, i2, fun c hcc hu => i3 c hcc (by unfold unp at *; omega), fun hlt => ?_⟩, fun rec => ?_⟩
        · rcases i4 hlt with z | ⟨c, z1, z2, z3⟩ | z
          · exact Or.inl z
          · have := (i1 c z1).2.2.1
            exact Or.inr (Or.inl ⟨c, z1, by unfold unp at *; omega, z3⟩)
          · exact z.elim
        · unfold f_X3_findWay_L71b
          dsimp only
          rw [ilep (hC.1 1 (by omega)) rfl (Nat.le_refl _) (by omega)]
      · exact ⟨A, ow, e, rfl, hA, hI⟩
    have key : ∃ ex : Nat → Nat → Int32, (∃ ow', nwR ex ow' (mvF K w a R t)) ∧ zloop (fun rec x => f_X3_findWay_L62b S1 T (nI a) rec x) zfuel (nI R, A0) = some ex := by
      refine zinv (I := fun i x => ∃ B ow' e', x = (nI (R - i), B) ∧ nwR B ow' e' ∧ nInv K w a (mvF K w a R t) R (R - i) 0 ow' e' False) _ R (by omega) ?_ ?_ ?_
      · rintro i hi x ⟨B, ow', e', rfl, g1, g2⟩
        obtain ⟨ex, ⟨ow2, e2, u1, u2⟩, u3⟩ := ring (R - i) B ow' e' (by omega) (by omega) g1 g2
        refine ⟨(nI (R - (i + 1)), ex), ⟨ex, ow2, e2, rfl, u1, by rw [show R - (i + 1) = R - i - 1 by omega]; exact u2⟩, fun rec => ?_⟩
        unfold f_X3_findWay_L62b
        dsimp only
        obtain ⟨m, hm⟩ : ∃ m, R - i = m + 1 := ⟨R - i - 1, by omega⟩
        rw [if_neg (show ¬ nI (R - i) < 1 from nI_nlt (b := 1) (by omega) (by omega))]
        show (zloop (fun rec x => f_X3_findWay_L71b S1 T (nI a) (nI (R - i)) rec x) zfuel (0, B)).bind _ = _
        rw [u3, Option.bind_some, hm, pk_m1, show R - (i + 1) = m by omega]
      · rintro x ⟨B, ow', e', rfl, g1, i1, i2, i3, i4⟩
        have he : e' = mvF K w a R t := by
          rcases Nat.lt_or_ge (mvF K w a R t) INF with q | q
          · rcases i4 q with z | ⟨c, z1, z2, _⟩ | z
            · exact z
            · have := (i1 c z1).1
              unfold unp at z2; omega
            · exact z.elim
          · have := g1.2.1; omega
        refine ⟨B, ⟨ow', by rw [← he]; exact g1⟩, fun rec => ?_⟩
        unfold f_X3_findWay_L62b
        dsimp only
        rw [Nat.sub_self, if_pos (show nI 0 < 1 by decide)]
      · exact ⟨A0, ow0, INF, rfl, h0, hi0⟩
    obtain ⟨S', ⟨ow', k1⟩, hz⟩ := key
    refine ⟨S', ?_, fun q => (k1.2.2.2 q).2⟩
    show (zloop (fun rec x => f_X3_findWay_L62b S1 T (nI a) rec x) zfuel (nI R, A0)).bind _ = _
    rw [hz, Option.bind_some]
    by_cases q : mvF K w a R t < INF
    · rw [(k1.2.2.2 q).1, if_pos q]; exact zbo_1
    · rw [k1.2.2.1 (by omega), if_neg q]; exact zbo_0
  · have hb0 := hwc.1.mpr hon
    obtain ⟨ρ, rfl⟩ : ∃ ρ, R = ρ + 1 := ⟨R - 1, by omega⟩
    obtain ⟨m1, m2⟩ := mv_tree hK hW (a := a) ρ t hR ht hon
    have hlf := e_lengthFrom (r := ρ + 1) (t := t) hK hC hT (by omega) ht (pth_w hK hW (ρ + 1) t hR ht (fun _ => hon))
    have hal : a * lnF K w (ρ + 1) t ≤ 99 * 450 := Nat.mul_le_mul ha (by omega)
    -- an offer to nothing
    have hoff : ∃ S', f_X3_offer (zst S 3 0 0) (nI (ρ + 1)) (nI t) (nI (a * lnF K w (ρ + 1) t)) = some S' ∧ S' 0 0 = nI (a * lnF K w (ρ + 1) t) ∧ S' 1 0 = nI (ρ + 1) ∧ S' 2 0 = nI t := by
      have h30 : zst S 3 0 0 3 0 = 0 := zst_same _ _ _ _
      have j29 : ∀ k, f_X3_offer_J29 (zst S 3 0 0) (nI (ρ + 1)) (nI t) (nI (a * lnF K w (ρ + 1) t)) k = some (zst (zst (zst (zst (zst S 3 0 0) 3 0 1) 0 0 (nI (a * lnF K w (ρ + 1) t))) 1 0 (nI (ρ + 1))) 2 0 (nI t)) := fun k => by
        unfold f_X3_offer_J29; rw [if_pos h30]; rfl
      refine ⟨zst (zst (zst (zst (zst S 3 0 0) 3 0 1) 0 0 (nI (a * lnF K w (ρ + 1) t))) 1 0 (nI (ρ + 1))) 2 0 (nI t), ?_, ?_, ?_, ?_⟩
      · unfold f_X3_offer f_X3_offer_J24 f_X3_offer_J28
        rw [j29, j29]
        split
        · rfl
        · split
          · split <;> rfl
          · rfl
      · rw [zst_ne _ (by decide), zst_ne _ (by decide), zst_same]
      · rw [zst_ne _ (by decide), zst_same]
      · rw [zst_same]
    obtain ⟨S', f1, f2, f3, f4⟩ := hoff
    refine ⟨S', ?_, fun _ => ?_⟩
    · rw [if_neg (nI_ne0 (by omega) (by omega)), hlf, Option.bind_some, pk_mul, f1, Option.bind_some, if_pos (by rw [m1]; unfold INF; omega)]
    · rw [m1, f2, f3, f4, show (240 * (a * lnF K w (ρ + 1) t) + (24 * (ρ + 1) + t)) / 240 = a * lnF K w (ρ + 1) t by omega, show (240 * (a * lnF K w (ρ + 1) t) + (24 * (ρ + 1) + t)) % 240 / 24 = ρ + 1 by omega, show (240 * (a * lnF K w (ρ + 1) t) + (24 * (ρ + 1) + t)) % 240 % 24 = t by omega]
      exact ⟨rfl, rfl, rfl⟩
end MO4
