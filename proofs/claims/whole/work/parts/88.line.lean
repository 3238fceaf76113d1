/-! the text: the line of rocks, the lines that set, every line -/
section LNE
theorem e_rocksL {S D M : Nat → Nat → Int32} {y : Nat → Nat} {n e R N b d h : Nat} {rk : Nat → Nat} {pl : List zQ} (hS : prC S y n e) (hB : bytM M y n) (h15 : M 15 0 = nI e) (h18 : M 18 0 = 0) (hD : repC D (chP R N b d h rk pl)) (hR : rdM M R N b d h rk pl) (hw : wfP R N b d h rk pl) : lnQ S M y n e (f_X4_readRocks S D) (f_X7_rocksLine M) := by
  have hn := hB.1
  have hl := hw.2.2.2
  obtain ⟨b1, b2, b3, b4, _⟩ := hw.1
  have hDc := repC_ch.mp hD
  have hep := hS.2.1
  obtain ⟨M1, g1, g2, g3⟩ := e_goT hB hep h15 h18
  have hR1 : rdM M1 R N b d h rk pl := rdM_fr (fun k _ _ => g3 k (by omega)) hR
  obtain ⟨v1, S1, a1, a2, a3, a4⟩ := e_readNumber (lo := 1) (hi := R) hS (by omega) (by omega)
  have a1 : f_X4_readNumber S 1 (nI R) = some (v1, S1) := a1
  obtain ⟨m1, m2⟩ := e_numberM (lo := 1) (hi := R) g2 (by omega) (by omega)
  have qS : f_X4_readRocks S D = (f_X4_readNumber S1 0 (nI (N - 1))).bind fun r_2 => (f_X4_readNumber r_2.2 1 (nI N)).bind fun r_3 => (f_X4_readRocks_L36 v1 r_3.1 zfuel (r_2.1, 0, r_3.2, D)).bind fun y_9 => some (y_9.1, y_9.2) := by
    unfold f_X4_readRocks
    rw [hDc.1, a1, Option.bind_some, hDc.2.1, prd (by omega)]
  by_cases o1 : nOK y n e 1 R
  · obtain ⟨c1, c2, c3⟩ := a2 o1
    obtain ⟨M2, d1, d2, d3, d4⟩ := m1 o1
    have d1 : f_X7_number M1 1 (nI R) = some (1, M2) := d1
    have hR2 : rdM M2 R N b d h rk pl := rdM_fr (fun k _ _ => d4 k (by omega)) hR1
    obtain ⟨k1, k2, k3, k4, k5, k6, k7⟩ := tk_lt (y := y) hep
    have hp1 := k5
    have ht1 := k6 (by omega)
    obtain ⟨j1, j2, j3, j4, j5, j6, j7⟩ := tk_lt (y := y) hp1
    obtain ⟨v2, S2, a5, a6, a7, a8⟩ := e_readNumber (lo := 0) (hi := N - 1) c2 (by omega) (by omega)
    have a5 : f_X4_readNumber S1 0 (nI (N - 1)) = some (v2, S2) := a5
    obtain ⟨m3, m4⟩ := e_numberM (lo := 0) (hi := N - 1) d2 (by omega) (by omega)
    rw [a5, Option.bind_some] at qS
    dsimp only at qS
    have qM : f_X7_rocksLine M = (f_X7_number M2 0 (nI (N - 1))).bind fun r_4 => if r_4.1 = 0 then (some (0, r_4.2)) else (zlet (r_4.2 25 0) fun u_5 => (f_X7_isNumber r_4.2 1 (r_4.2 20 0)).bind fun r_6 => if r_6.1 = 0 then (some (0, r_6.2)) else ((f_X7_rocksLine_L60 r_6.2 v1 u_5 zfuel 0).bind fun y_8 => if y_8 = 0 then ((f_X7_bad r_6.2 3 (r_6.2 14 0)).bind fun r_9 => zbo r_9.1 (some (r_9.1, r_9.2))) else ((f_X7_rocksLine_L102 v1 u_5 zfuel (0, r_6.2)).bind fun y_12 => (f_X7_go y_12).bind fun r_13 => some (1, r_13)))) := by
      unfold f_X7_rocksLine
      rw [g1, Option.bind_some, hR1.1, d1, Option.bind_some, if_neg (show ¬ (1 : Int32) = 0 by decide), zlet_eq]
      dsimp only
      rw [hR2.2.1, prd (by omega), d3, c1]
    by_cases o2 : nOK y n (tkE y n e) 0 (N - 1)
    · obtain ⟨c4, c5, c6⟩ := a6 o2
      obtain ⟨M3, d5, d6, d7, d8⟩ := m3 o2
      have d5 : f_X7_number M2 0 (nI (N - 1)) = some (1, M3) := d5
      have hR3 : rdM M3 R N b d h rk pl := rdM_fr (fun k _ _ => d8 k (by omega)) hR2
      have hv1 : tkV y n e < 10 := by have := o1.2.2; omega
      have hv2 : tkV y n (tkE y n e) < N := by have := o2.2.2; omega
      have hp2 := j5
      have ht2 := j6 (by omega)
      obtain ⟨l1, l2, l3, l4, l5, l6, l7⟩ := tk_lt (y := y) hp2
      obtain ⟨v3, S3, a9, a10, a11, a12⟩ := e_readNumber (lo := 1) (hi := N) c5 (by omega) (by omega)
      have a9 : f_X4_readNumber S2 1 (nI N) = some (v3, S3) := a9
      obtain ⟨i1, i2⟩ := e_isNumberM (lo := 1) (hi := N) d6 (by omega) (by omega)
      rw [a9, Option.bind_some] at qS
      dsimp only at qS
      rw [d5, Option.bind_some, if_neg (show ¬ (1 : Int32) = 0 by decide), zlet_eq] at qM
      dsimp only at qM
      rw [hR3.2.1, d7, c1] at qM
      have hf1 : ∀ k, k < 3 → S3 k = S k := fun k hk => by rw [a12 k hk, a8 k hk, a4 k hk]
      have hf2 : ∀ k, k < 14 → M3 k = M k := fun k hk => by rw [d8 k (by omega), d4 k (by omega), g3 k (by omega)]
      by_cases o3 : nOK y n (tkE y n (tkE y n e)) 1 N
      · obtain ⟨c7, c8, c9⟩ := a10 o3
        have i1 : f_X7_isNumber M3 1 (nI N) = _ := i1 o3
        have hR4 : rdM (zst M3 25 0 (nI (tkV y n (tkE y n (tkE y n e))))) R N b d h rk pl := rdM_fr (fun k _ _ => zst_ne _ (by omega) _ _) hR3
        rw [i1, Option.bind_some, if_neg (show ¬ (1 : Int32) = 0 by decide)] at qM
        dsimp only at qM
        obtain ⟨v, u1, u2, u3⟩ := e_L60 (r := tkV y n e) (t := tkV y n (tkE y n e)) (m := tkV y n (tkE y n (tkE y n e))) hR4 hw o1.2.2 hv2 o3.2.2 (zst_same _ _ _ _)
        obtain ⟨S4, D4, s1, s2, s3⟩ := e_rocksC (r := tkV y n e) (t := tkV y n (tkE y n e)) (m := tkV y n (tkE y n (tkE y n e))) c8.2.2.2 c9 (by omega) hD hw o1.2.1 o1.2.2 hv2 o3.2.2
        rw [u1, Option.bind_some] at qM
        rw [c1, c4, c7, s1, Option.bind_some] at qS
        by_cases o4 : hitP pl (tkV y n e) (tkV y n (tkE y n e)) N (tkV y n (tkE y n (tkE y n e)))
        · have z3 := s3 o4
          rw [u2 o4, if_pos rfl, zst_ne _ (show (14 : Nat) ≠ 25 by decide), d6.2.2.2.1, show f_X7_bad (zst M3 25 0 (nI (tkV y n (tkE y n (tkE y n e))))) 3 (nI (skp y n (tkE y n (tkE y n e)))) = _ from e_bad (k := 3) (by rw [zst_ne _ (by decide)]; exact d6.2.2.2.2.2.2), Option.bind_some, zbo_0] at qM
          refine lnFa (f := 8 * skp y n (tkE y n (tkE y n e)) + 3) (S' := S4) (M' := zst (zst M3 25 0 (nI (tkV y n (tkE y n (tkE y n e))))) 18 0 (nI (8 * skp y n (tkE y n (tkE y n e)) + 3))) qS qM (fun k hk => by rw [z3, zst_ne _ (by omega)]; exact hf1 k hk) (fun k hk => by rw [zst_ne _ (by omega), zst_ne _ (by omega)]; exact hf2 k hk) (by omega) (by omega) (by rw [z3, zst_same]) (zst_same _ _ _ _)
        · obtain ⟨z1, z2⟩ := s2 o4
          obtain ⟨M5, q1, q2, q3⟩ := e_L102 (R := R) (r := tkV y n e) (t := tkV y n (tkE y n e)) (m := tkV y n (tkE y n (tkE y n e))) hR4.2.1 hR4.2.2.2.2.1 (zst_same _ _ _ _) b2 (by omega) b4 o1.2.2 hv2 o3.2.2
          have hne : ∀ k, k ≠ 23 → k ≠ 25 → M5 k = M3 k := fun k x1 x2 => by rw [q3 k x1, zst_ne _ x2]
          obtain ⟨M6, w1, w2, w3⟩ := e_goT (M := M5) (bytM_fr (hne 11 (by decide) (by decide)) (hne 13 (by decide) (by decide)) d6.1) l5 (by rw [hne 15 (by decide) (by decide)]; exact d6.2.2.2.2.1 (by omega)) (by rw [hne 18 (by decide) (by decide)]; exact d6.2.2.2.2.2.2)
          rw [u3 o4, if_neg (show ¬ (1 : Nat) = 0 by decide), q1, Option.bind_some, w1, Option.bind_some] at qM
          rw [z1] at qS
          refine ⟨S3, D4, M6, 1, qS, qM, hf1, fun k hk => by rw [w3 k (by omega), hne k (by omega) (by omega), hf2 k hk], Or.inl ⟨rfl, tkE y n (tkE y n (tkE y n e)), ?_, R, N, b, d, h, _, pl, c8, w2, z2, ?_, rkA_ok hw o1.2.1 o1.2.2 _ o4⟩⟩
          · have := l6 (by omega)
            omega
          · obtain ⟨r1, r2, r3, r4, r5, r6, r7, r8⟩ := hR3
            have hx : ∀ k, 19 ≤ k → k ≤ 24 → k ≠ 23 → M6 k = M3 k := fun k x1 x2 x3 => by rw [w3 k (by omega), hne k x3 (by omega)]
            exact ⟨by rw [hx 19 (by decide) (by decide) (by decide)]; exact r1, by rw [hx 20 (by decide) (by decide) (by decide)]; exact r2, by rw [hx 21 (by decide) (by decide) (by decide)]; exact r3, rwM_fr pl (fun j hj => by rw [hx 22 (by decide) (by decide) (by decide)]) r4, fun c hc => by rw [w3 23 (by decide)]; exact q2 c hc, by rw [hx 24 (by decide) (by decide) (by decide)]; exact r6, by rw [hx 24 (by decide) (by decide) (by decide)]; exact r7, by rw [hx 24 (by decide) (by decide) (by decide)]; exact r8⟩
      · obtain ⟨M4, d9, d10, d11⟩ := i2 o3
        obtain ⟨f1, f2⟩ := nFl_b (y := y) hn hp2
        rw [show f_X7_isNumber M3 1 (nI N) = _ from d9, Option.bind_some, if_pos rfl] at qM
        rw [L36_f (n0 f1 f2 (a11 o3)), Option.bind_some] at qS
        exact lnFa (M' := M4) qS qM hf1 (fun k hk => by rw [d11 k (by omega) (by omega), hf2 k hk]) f1 f2 (a11 o3) d10
    · obtain ⟨M3, d5, d6, d7⟩ := m4 o2
      obtain ⟨f1, f2⟩ := nFl_b (y := y) hn hp1
      have f0 := n0 f1 f2 (a7 o2)
      rw [show f_X7_number M2 0 (nI (N - 1)) = _ from d5, Option.bind_some, if_pos rfl] at qM
      rw [e_rdN f0, Option.bind_some] at qS
      dsimp only at qS
      rw [L36_f f0, Option.bind_some] at qS
      exact lnFa (S' := S2) (M' := M3) qS qM (fun k hk => by rw [a8 k hk, a4 k hk]) (fun k hk => by rw [d7 k (by omega) (by omega), d4 k (by omega), g3 k (by omega)]) f1 f2 (a7 o2) d6
  · obtain ⟨M2, d1, d2, d3⟩ := m2 o1
    obtain ⟨f1, f2⟩ := nFl_b (y := y) hn hep
    have f0 := n0 f1 f2 (a3 o1)
    have qM : f_X7_rocksLine M = some (0, M2) := by
      unfold f_X7_rocksLine
      rw [g1, Option.bind_some, hR1.1, show f_X7_number M1 1 (nI R) = _ from d1, Option.bind_some, if_pos rfl]
    rw [e_rdN f0, Option.bind_some] at qS
    dsimp only at qS
    rw [e_rdN f0, Option.bind_some] at qS
    dsimp only at qS
    rw [L36_f f0, Option.bind_some] at qS
    exact lnFa (M' := M2) qS qM a4 (fun k hk => by rw [d3 k (by omega) (by omega), g3 k (by omega)]) f1 f2 (a3 o1) d2
end LNE
