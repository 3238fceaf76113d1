/-! the text: the line of a place -/
section PLN
theorem lnFa {S M S' D' M' : Nat → Nat → Int32} {y : Nat → Nat} {n p f : Nat} {cS : Option ((Nat → Nat → Int32) × (Nat → Nat → Int32))} {cM : Option (Int32 × (Nat → Nat → Int32))} (h1 : cS = some (S', D')) (h2 : cM = some (0, M')) (h3 : ∀ k, k < 3 → S' k = S k) (h4 : ∀ k, k < 14 → M' k = M k) (f1 : 0 < f) (f2 : f < 2 ^ 31) (h5 : S' 7 0 = nI f) (h6 : M' 18 0 = nI f) : lnQ S M y n p cS cM := ⟨S', D', M', 0, h1, h2, h3, h4, Or.inr ⟨rfl, f, f1, f2, h5, h6⟩⟩
theorem n0 {f : Nat} {x : Int32} (f1 : 0 < f) (f2 : f < 2 ^ 31) (h : x = nI f) : ¬ x = 0 := by rw [h]; exact nI_ne0 (by omega) (by omega)
theorem prd {a : Nat} (h : 1 ≤ a) : nI a - 1 = nI (a - 1) := by
  obtain ⟨c, rfl⟩ : ∃ c, a = c + 1 := ⟨a - 1, by omega⟩
  exact nI_pred c
theorem J71_f {S D : Nat → Nat → Int32} {a b : Int32} (h : ¬ S 7 0 = 0) : f_X4_readPlace_J71 S D a b = some (S, D) := by
  unfold f_X4_readPlace_J71
  rw [e_rdN h, Option.bind_some]
  exact if_neg h
theorem J14_f {S D : Nat → Nat → Int32} (h : ¬ S 7 0 = 0) : f_X4_readPlace_J14 S D = some (S, D) := by
  unfold f_X4_readPlace_J14
  rw [e_rdN h, Option.bind_some]
  dsimp only
  rw [e_rdN h, Option.bind_some]
  dsimp only
  rw [if_neg h, J71_f h]
theorem e_placeL {S D M : Nat → Nat → Int32} {y : Nat → Nat} {n e s R N b d h : Nat} {rk : Nat → Nat} {pl : List zQ} (hS : prC S y n e) (h5 : S 5 0 = nI s) (hs : s ≤ 500) (hB : bytM M y n) (h14 : M 14 0 = nI s) (h15 : M 15 0 = nI e) (h18 : M 18 0 = 0) (hD : repC D (chP R N b d h rk pl)) (hR : rdM M R N b d h rk pl) (hw : wfP R N b d h rk pl) : lnQ S M y n e (f_X4_readPlace S D) (f_X7_placeLine M) := by
  have hn := hB.1
  have hl := hw.2.2.2
  obtain ⟨b1, b2, b3, b4, _⟩ := hw.1
  have hDc := repC_ch.mp hD
  by_cases e7 : pl.length = 7
  · have q1 : f_X4_readPlace S D = some (zst S 7 0 (nI (8 * s + 4)), D) := by
      unfold f_X4_readPlace
      rw [iltn hDc.2.2.2.2.2.1 (l_7) (by omega) (by omega), show f_X4_fail S 4 = _ from e_fail (k := 4) hS.2.2.2 h5, Option.bind_some]
      exact J14_f (n0 (f := 8 * s + 4) (by omega) (by omega) (zst_same _ _ _ _))
    have q2 : f_X7_placeLine M = some (0, zst M 18 0 (nI (8 * s + 4))) := by
      unfold f_X7_placeLine
      rw [ieqp hR.2.2.1 l_7 e7, h14, show f_X7_bad M 4 (nI s) = _ from e_bad (k := 4) h18, Option.bind_some, zbo_0]
    exact lnFa (f := 8 * s + 4) q1 q2 (fun k hk => zst_ne _ (by omega) _ _) (fun k hk => zst_ne _ (by omega) _ _) (by omega) (by omega) (zst_same _ _ _ _) (zst_same _ _ _ _)
  · have hep := hS.2.1
    obtain ⟨M1, g1, g2, g3⟩ := e_goT hB hep h15 h18
    have hR1 : rdM M1 R N b d h rk pl := rdM_fr (fun k _ _ => g3 k (by omega)) hR
    obtain ⟨v1, S1, a1, a2, a3, a4⟩ := e_readNumber (lo := 1) (hi := R) hS (by omega) (by omega)
    have a1 : f_X4_readNumber S 1 (nI R) = some (v1, S1) := a1
    obtain ⟨m1, m2⟩ := e_numberM (lo := 1) (hi := R) g2 (by omega) (by omega)
    have qS : f_X4_readPlace S D = (f_X4_readNumber S1 0 (nI (N - 1))).bind fun r_2 => if (r_2.2 7 0) = 0 then ((f_X6_cellOf v1 r_2.1).bind fun r_5 => zix r_5 240 fun _ => if (D 9 (Int32.toNatClampNeg r_5)) = 0 then ((f_X1_placeAt D v1 r_2.1).bind fun r_7 => if r_7 = (-1) then (f_X4_readPlace_J71 r_2.2 D v1 r_2.1) else (f_X4_readPlace_J66 r_2.2 D v1 r_2.1)) else (f_X4_readPlace_J66 r_2.2 D v1 r_2.1)) else (f_X4_readPlace_J71 r_2.2 D v1 r_2.1) := by
      unfold f_X4_readPlace
      rw [iltp hDc.2.2.2.2.2.1 (l_7) (by omega) (by omega)]
      unfold f_X4_readPlace_J14
      rw [hDc.1, a1, Option.bind_some, hDc.2.1, prd (by omega)]
    by_cases o1 : nOK y n e 1 R
    · obtain ⟨c1, c2, c3⟩ := a2 o1
      obtain ⟨M2, d1, d2, d3, d4⟩ := m1 o1
      have d1 : f_X7_number M1 1 (nI R) = some (1, M2) := d1
      have hR2 : rdM M2 R N b d h rk pl := rdM_fr (fun k _ _ => d4 k (by omega)) hR1
      obtain ⟨k1, k2, k3, k4, k5, k6, k7⟩ := tk_lt (y := y) hep
      have hp1 := k5
      have ht1 := k6 (by omega)
      obtain ⟨j1, j2, j3, j4, j5, j6, j7⟩ := tk_lt (y := y) hp1
      obtain ⟨v2, S2, a5, a6, a7, a8⟩ := e_readNumber (lo := 0) (hi := N - 1) c2 (by omega) (by omega)
      have a5 : f_X4_readNumber S1 0 (nI (N - 1)) = some (v2, S2) := a5
      obtain ⟨i1, i2⟩ := e_isNumberM (lo := 0) (hi := N - 1) d2 (by omega) (by omega)
      have qM : f_X7_placeLine M = (f_X7_isNumber M2 0 (nI (N - 1))).bind fun r_4 => if r_4.1 = 0 then (some (0, r_4.2)) else (zlet (r_4.2 25 0) fun u_5 => (f_X7_isRead r_4.2 v1 u_5).bind fun r_6 => if r_6 = 0 then ((f_X7_cell v1 u_5).bind fun r_8 => zix r_8 240 fun _ => if (r_4.2 23 (Int32.toNatClampNeg r_8)) = 0 then ((f_X7_go r_4.2).bind fun r_9 => (f_X7_number r_9 1 99).bind fun r_10 => if r_10.1 = 0 then (some (0, r_10.2)) else (zix (3 * (r_10.2 21 0)) 21 fun j => zlet (zst r_10.2 22 j v1) fun S0_11 => zix ((3 * (S0_11 21 0)) + 1) 21 fun j => zlet (zst S0_11 22 j u_5) fun S0_12 => zix ((3 * (S0_12 21 0)) + 2) 21 fun j => zlet (zst S0_12 22 j (S0_12 25 0)) fun S0_13 => zlet (zst S0_13 21 0 ((S0_13 21 0) + 1)) fun S0_14 => some (1, S0_14))) else (f_X7_placeLine_J85 r_4.2)) else (f_X7_placeLine_J85 r_4.2)) := by
        unfold f_X7_placeLine
        rw [ieqn hR.2.2.1 l_7 e7 (by omega) (by omega), g1, Option.bind_some, hR1.1, d1, Option.bind_some, if_neg (show ¬ (1 : Int32) = 0 by decide), zlet_eq]
        dsimp only
        rw [hR2.2.1, prd (by omega), d3, c1]
      by_cases o2 : nOK y n (tkE y n e) 0 (N - 1)
      · obtain ⟨c4, c5, c6⟩ := a6 o2
        have i1 : f_X7_isNumber M2 0 (nI (N - 1)) = _ := i1 o2
        have hv1 : tkV y n e < 10 := by have := o1.2.2; omega
        have hv2 : tkV y n (tkE y n e) < 24 := by have := o2.2.2; omega
        rw [a5, Option.bind_some] at qS
        dsimp only at qS
        rw [if_pos c5.2.2.2, c1, c4, e_cellOf, Option.bind_some, zix_nI (by omega) (by decide), nI_clamp (by omega), hDc.2.2.2.2.2.2.2 _ (by omega)] at qS
        rw [i1, Option.bind_some, if_neg (show ¬ (1 : Int32) = 0 by decide), zlet_eq] at qM
        dsimp only at qM
        rw [zst_same] at qM
        have hR3 : rdM (zst M2 25 0 (nI (tkV y n (tkE y n e)))) R N b d h rk pl := rdM_fr (fun k _ _ => zst_ne _ (by omega) _ _) hR2
        obtain ⟨w1, x1, x2, x3⟩ := e_isRead hR3 hw (r := tkV y n e) (t := tkV y n (tkE y n e)) (by omega) (by omega)
        obtain ⟨w2, x4, x5, x6⟩ := e_placeAtP hD hw (r := tkV y n e) (t := tkV y n (tkE y n e)) (by omega) (by omega)
        rw [c1, x1, Option.bind_some] at qM
        rw [x4, Option.bind_some] at qS
        have hf1 : ∀ k, k < 3 → S2 k = S k := fun k hk => by rw [a8 k hk, a4 k hk]
        have hf2 : ∀ k, k < 14 → (zst M2 25 0 (nI (tkV y n (tkE y n e)))) k = M k := fun k hk => by rw [zst_ne _ (by omega), d4 k (by omega), g3 k (by omega)]
        by_cases o3 : inP pl (tkV y n e) (tkV y n (tkE y n e)) ∨ ¬ rk (24 * tkV y n e + tkV y n (tkE y n e)) = 0
        · have rS : f_X4_readPlace S D = some (zst S2 7 0 (nI (8 * skp y n (tkE y n e) + 3)), D) := by
            have : f_X4_readPlace_J66 S2 D (nI (tkV y n e)) (nI (tkV y n (tkE y n e))) = some (zst S2 7 0 (nI (8 * skp y n (tkE y n e) + 3)), D) := by
              unfold f_X4_readPlace_J66
              rw [show f_X4_fail S2 3 = _ from e_fail (k := 3) c5.2.2.2 c6, Option.bind_some, J71_f (n0 (f := 8 * skp y n (tkE y n e) + 3) (by omega) (by omega) (zst_same _ _ _ _))]
            rw [qS, this]
            by_cases z : rk (24 * tkV y n e + tkV y n (tkE y n e)) = 0
            · rw [if_pos (show nI (rk (24 * tkV y n e + tkV y n (tkE y n e))) = 0 by rw [z]; rfl)]
              rcases o3 with o3 | o3
              · rw [if_neg (x5 o3)]
              · exact absurd z o3
            · have := hw.2.2.1.1 (24 * tkV y n e + tkV y n (tkE y n e))
              rw [if_neg (fun u => z ((nq0 (by omega)).mp u))]
          have rM : f_X7_placeLine M = some (0, zst (zst M2 25 0 (nI (tkV y n (tkE y n e)))) 18 0 (nI (8 * skp y n (tkE y n e) + 3))) := by
            have : f_X7_placeLine_J85 (zst M2 25 0 (nI (tkV y n (tkE y n e)))) = some (0, zst (zst M2 25 0 (nI (tkV y n (tkE y n e)))) 18 0 (nI (8 * skp y n (tkE y n e) + 3))) := by
              unfold f_X7_placeLine_J85
              rw [zst_ne _ (show (14 : Nat) ≠ 25 by decide), d2.2.2.2.1, show f_X7_bad (zst M2 25 0 (nI (tkV y n (tkE y n e)))) 3 (nI (skp y n (tkE y n e))) = _ from e_bad (k := 3) (by rw [zst_ne _ (by decide)]; exact d2.2.2.2.2.2.2), Option.bind_some, zbo_0]
            rw [qM, this]
            by_cases z : inP pl (tkV y n e) (tkV y n (tkE y n e))
            · rw [x2 z, if_neg (show ¬ (1 : Int32) = 0 by decide)]
            · rw [x3 z, if_pos rfl, e_cellM, Option.bind_some, zix_nI (by omega) (by decide), nI_clamp (by omega)]
              have := hw.2.2.1.1 (24 * tkV y n e + tkV y n (tkE y n e))
              rw [ieqn (hR3.2.2.2.2.1 _ (by omega)) l_0 (o3.resolve_left z) (by omega) (by omega)]
          exact lnFa (f := 8 * skp y n (tkE y n e) + 3) rS rM (fun k hk => by rw [zst_ne _ (by omega)]; exact hf1 k hk) (fun k hk => by rw [zst_ne _ (by omega)]; exact hf2 k hk) (by omega) (by omega) (zst_same _ _ _ _) (zst_same _ _ _ _)
        · have o4 : ¬ inP pl (tkV y n e) (tkV y n (tkE y n e)) := fun z => o3 (Or.inl z)
          have o5 : rk (24 * tkV y n e + tkV y n (tkE y n e)) = 0 := Decidable.of_not_not fun z => o3 (Or.inr z)
          have hp2 := j5
          have ht2 := j6 (by omega)
          obtain ⟨l1, l2, l3, l4, l5, l6, l7⟩ := tk_lt (y := y) hp2
          rw [if_pos (show nI (rk (24 * tkV y n e + tkV y n (tkE y n e))) = 0 by rw [o5]; rfl), if_pos (x6 o4)] at qS
          rw [x3 o4, if_pos rfl, e_cellM, Option.bind_some, zix_nI (by omega) (by decide), nI_clamp (by omega), ieqp (hR3.2.2.2.2.1 _ (by omega)) l_0 o5] at qM
          obtain ⟨M3, g4, g5, g6⟩ := e_goT (M := zst M2 25 0 (nI (tkV y n (tkE y n e)))) (bytM_fr (by rw [zst_ne _ (by decide)]) (by rw [zst_ne _ (by decide)]) d2.1) hp2 (by rw [zst_ne _ (by decide)]; exact d2.2.2.2.2.1 (by omega)) (by rw [zst_ne _ (by decide)]; exact d2.2.2.2.2.2.2)
          have hR4 : rdM M3 R N b d h rk pl := rdM_fr (fun k _ _ => g6 k (by omega)) hR3
          obtain ⟨v3, S3, a9, a10, a11, a12⟩ := e_readNumber (lo := 1) (hi := 99) c5 (by omega) (by omega)
          obtain ⟨m3, m4⟩ := e_numberM (lo := 1) (hi := 99) g5 (by omega) (by omega)
          rw [g4, Option.bind_some] at qM
          unfold f_X4_readPlace_J71 at qS
          rw [show f_X4_readNumber S2 1 99 = _ from a9, Option.bind_some] at qS
          dsimp only at qS
          by_cases o6 : nOK y n (tkE y n (tkE y n e)) 1 99
          · obtain ⟨c7, c8, c9⟩ := a10 o6
            obtain ⟨M4, d5, d6, d7, d8⟩ := m3 o6
            have hR5 : rdM M4 R N b d h rk pl := rdM_fr (fun k _ _ => d8 k (by omega)) hR4
            have hK := chP_wf hw.1 pl hw.2.2.2 hw.2.1 hw.2.2.1
            have hc5 := chP_5 R N b d h rk pl
            obtain ⟨D', ad1, ad2⟩ := e_addPlace hK hD (by omega) (r := tkV y n e) (t := tkV y n (tkE y n e)) (a := tkV y n (tkE y n (tkE y n e))) (by omega) (by omega)
            rw [if_pos c8.2.2.2, c7, ad1, Option.bind_some] at qS
            have hlen := hR5.2.2.1
            rw [show f_X7_number M3 1 99 = _ from d5, Option.bind_some, if_neg (show ¬ (1 : Int32) = 0 by decide)] at qM
            dsimp only at qM
            rw [hlen, l_3, pk_mul, zix_nI (by omega) (by decide), zlet_eq, zst_ne _ (show (21 : Nat) ≠ 22 by decide), hlen, pk_mul, l_1, nI_add, zix_nI (by omega) (by decide), zlet_eq, zst_ne _ (show (21 : Nat) ≠ 22 by decide), zst_ne _ (show (21 : Nat) ≠ 22 by decide), hlen, pk_mul, l_2, nI_add, zix_nI (by omega) (by decide), zlet_eq, zlet_eq] at qM
            rw [zst_ne _ (show (25 : Nat) ≠ 22 by decide), zst_ne _ (show (25 : Nat) ≠ 22 by decide), d7, zst_ne _ (show (21 : Nat) ≠ 22 by decide), zst_ne _ (show (21 : Nat) ≠ 22 by decide), zst_ne _ (show (21 : Nat) ≠ 22 by decide), hlen, nI_add] at qM
            have hne : ∀ k, k ≠ 21 → k ≠ 22 → ∀ u v w z : Int32, (zst (zst (zst (zst M4 22 (3 * pl.length) u) 22 (3 * pl.length + 1) v) 22 (3 * pl.length + 2) w) 21 0 z) k = M4 k := fun k z1 z2 u v w z => by rw [zst_ne _ z1, zst_ne _ z2, zst_ne _ z2, zst_ne _ z2]
            refine ⟨S3, D', _, 1, qS, qM, fun k hk => by rw [a12 k hk, hf1 k hk], fun k hk => by rw [hne k (by omega) (by omega), d8 k (by omega), g6 k (by omega), hf2 k hk], Or.inl ⟨rfl, tkE y n (tkE y n (tkE y n e)), ?_, R, N, b, d, h, rk, (tkV y n e, tkV y n (tkE y n e), tkV y n (tkE y n (tkE y n e))) :: pl, c8, ?_, ?_, ?_, ?_⟩⟩
            · have := l6 (by omega)
              omega
            · obtain ⟨t1, t2, t3, t4, t5, t6, t7⟩ := d6
              exact ⟨bytM_fr (hne 11 (by decide) (by decide) _ _ _ _) (hne 13 (by decide) (by decide) _ _ _ _) t1, t2, by rw [hne 16 (by decide) (by decide)]; exact t3, by rw [hne 14 (by decide) (by decide)]; exact t4, fun z => by rw [hne 15 (by decide) (by decide)]; exact t5 z, fun z => by rw [hne 17 (by decide) (by decide)]; exact t6 z, by rw [hne 18 (by decide) (by decide)]; exact t7⟩
            · rw [chP_cons]
              rw [hc5] at ad2
              exact ad2
            · obtain ⟨r1, r2, r3, r4, r5, r6, r7, r8⟩ := hR5
              refine ⟨by rw [hne 19 (by decide) (by decide)]; exact r1, by rw [hne 20 (by decide) (by decide)]; exact r2, by rw [zst_same]; rfl, ⟨rwM_fr pl (fun j hj => ?_) r4, ?_, ?_, ?_⟩, fun c hc => by rw [hne 23 (by decide) (by decide)]; exact r5 c hc, by rw [hne 24 (by decide) (by decide)]; exact r6, by rw [hne 24 (by decide) (by decide)]; exact r7, by rw [hne 24 (by decide) (by decide)]; exact r8⟩
              · rw [zst_ne _ (show (22 : Nat) ≠ 21 by decide), zst_row, zst_row, zst_row, upd_ne _ (by omega), upd_ne _ (by omega), upd_ne _ (by omega)]
              · rw [zst_ne _ (show (22 : Nat) ≠ 21 by decide), zst_row, zst_row, zst_row, upd_ne _ (by omega), upd_ne _ (by omega), upd_same]
              · rw [zst_ne _ (show (22 : Nat) ≠ 21 by decide), zst_row, zst_row, zst_row, upd_ne _ (by omega), upd_same]
              · rw [zst_ne _ (show (22 : Nat) ≠ 21 by decide), zst_row, upd_same]
            · refine ⟨hw.1, ⟨hw.2.1, o1.2.1, o1.2.2, ?_, o6.2.1, o6.2.2, o4⟩, ⟨hw.2.2.1.1, hw.2.2.1.2.1, fun q hq => ?_⟩, by rw [List.length_cons]; omega⟩
              · have := o2.2.2
                show tkV y n (tkE y n e) < N
                omega
              · rcases List.mem_cons.mp hq with z | z
                · rw [z]; exact o5
                · exact hw.2.2.1.2.2 q z
          · obtain ⟨M4, d5, d6, d7⟩ := m4 o6
            obtain ⟨f1, f2⟩ := nFl_b (y := y) hn hp2
            rw [show f_X7_number M3 1 99 = _ from d5, Option.bind_some, if_pos rfl] at qM
            rw [if_neg (n0 f1 f2 (a11 o6))] at qS
            exact lnFa (M' := M4) qS qM (fun k hk => by rw [a12 k hk, hf1 k hk]) (fun k hk => by rw [d7 k (by omega) (by omega), g6 k (by omega), hf2 k hk]) f1 f2 (a11 o6) d6
      · obtain ⟨M3, d5, d6, d7⟩ := i2 o2
        obtain ⟨f1, f2⟩ := nFl_b (y := y) hn hp1
        rw [show f_X7_isNumber M2 0 (nI (N - 1)) = _ from d5, Option.bind_some, if_pos rfl] at qM
        rw [a5, Option.bind_some] at qS
        dsimp only at qS
        rw [if_neg (n0 f1 f2 (a7 o2)), J71_f (n0 f1 f2 (a7 o2))] at qS
        exact lnFa (M' := M3) qS qM (fun k hk => by rw [a8 k hk, a4 k hk]) (fun k hk => by rw [d7 k (by omega) (by omega), d4 k (by omega), g3 k (by omega)]) f1 f2 (a7 o2) d6
    · obtain ⟨M2, d1, d2, d3⟩ := m2 o1
      obtain ⟨f1, f2⟩ := nFl_b (y := y) hn hep
      have f0 := n0 f1 f2 (a3 o1)
      have qM : f_X7_placeLine M = some (0, M2) := by
        unfold f_X7_placeLine
        rw [ieqn hR.2.2.1 l_7 e7 (by omega) (by omega), g1, Option.bind_some, hR1.1, show f_X7_number M1 1 (nI R) = _ from d1, Option.bind_some, if_pos rfl]
      rw [e_rdN f0, Option.bind_some] at qS
      dsimp only at qS
      rw [if_neg f0, J71_f f0] at qS
      exact lnFa qS qM a4 (fun k hk => by rw [d3 k (by omega) (by omega), g3 k (by omega)]) f1 f2 (a3 o1) d2
end PLN
