/-! the text: all its lines, its head -/
section TXT
def chTx (D M : Nat → Nat → Int32) : Prop := ∃ R N b d h, ∃ rk : Nat → Nat, ∃ pl : List zQ, repC D (chP R N b d h rk pl) ∧ rdM M R N b d h rk pl ∧ wfP R N b d h rk pl
def lsQ (S M : Nat → Nat → Int32) (kK : Nat) (cS : Option (Nat × (Nat → Nat → Int32) × (Nat → Nat → Int32))) (cM : Option (Nat × (Nat → Nat → Int32) × Nat)) : Prop := ∃ tg S' D' tm M' c', cS = some (tg, S', D') ∧ cM = some (tm, M', c') ∧ c' ≤ kK ∧ (∀ k, k < 3 → S' k = S k) ∧ (∀ k, k < 14 → M' k = M k) ∧ ((tm = 1 ∧ M' 16 0 = 0 ∧ S' 7 0 = 0 ∧ chTx D' M') ∨ (∃ f, 0 < f ∧ f < 2 ^ 31 ∧ S' 7 0 = nI f ∧ ((tm = 0 ∧ M' 18 0 = nI f) ∨ (tm = 1 ∧ ¬ M' 16 0 = 0 ∧ M' 18 0 = 0 ∧ ∃ s, M' 14 0 = nI s ∧ f = 8 * s + 1))))
theorem L29_f {S D : Nat → Nat → Int32} {i : Int32} {F : Nat} (h : ¬ S 7 0 = 0) : f_X4_readText_L29 (F + 1) (i, S, D) = some (1, S, D) := by
  show f_X4_readText_L29b _ (i, S, D) = _
  unfold f_X4_readText_L29b
  by_cases z : S 2 0 < i
  · exact if_pos z
  · exact (if_neg z).trans (if_neg h)
theorem e_lines {y : Nat → Nat} {n kK : Nat} (hk : 1 + 5 * (n + 1) ≤ kK) : ∀ g p i F F' S D M, n < p + g → i ≤ p → g + 1 ≤ F → g + 1 ≤ F' → rdS S D M y n p → lsQ S M kK (f_X4_readText_L29 F (nI i, S, D)) (f_X7_reads_L72 kK F' (M, 1 + 5 * i)) := by
  intro g
  induction g with
  | zero =>
    intro p i F F' S D M hg hi hF hF' hr
    obtain ⟨_, _, _, _, _, _, _, h1, _⟩ := hr
    have := h1.2.1
    omega
  | succ g ih =>
    intro p i F F' S D M hg hi hF hF' hr
    obtain ⟨R, N, b, d, h, rk, pl, hS, hT, hD, hR, hw⟩ := hr
    obtain ⟨F, rfl⟩ : ∃ x, F = x + 1 := ⟨F - 1, by omega⟩
    obtain ⟨F', rfl⟩ : ∃ x, F' = x + 1 := ⟨F' - 1, by omega⟩
    obtain ⟨hB, hp, h3, h7⟩ := hS
    obtain ⟨S1, e1, t4, t5, t3, t6, to⟩ := e_readToken hB hp h3
    obtain ⟨k1, k2, k3, k4, k5, k6, k7⟩ := tk_lt (y := y) hp
    have hn := hB.1
    have h71 : S1 7 0 = 0 := by rw [to 7 (by omega)]; exact h7
    have hf : ∀ k, k < 3 → S1 k = S k := fun k hk => to k (by omega)
    have hT' := hT
    obtain ⟨hBM, _, u16, u14, u15, u17, u18⟩ := hT'
    have qS : f_X4_readText_L29 (F + 1) (nI i, S, D) = if (S1 4 0) = 0 then (some (0, S1, D)) else (if (S1 4 0) = 3 then ((f_X4_readLine S1 D).bind fun r_7 => f_X4_readText_L29 F (nI (i + 1), r_7.1, r_7.2)) else ((f_X4_fail S1 1).bind fun r_6 => f_X4_readText_L29 F (nI (i + 1), r_6, D))) := by
      show f_X4_readText_L29b (f_X4_readText_L29 F) (nI i, S, D) = _
      unfold f_X4_readText_L29b f_X4_readText_J79
      rw [iltn (a := n) (b := i) hB.2.1 rfl (by omega) (by omega), if_pos h7, e1, Option.bind_some, l_1, nI_add]
    have qM : f_X7_reads_L72 kK (F' + 1) (M, 1 + 5 * i) = if (M 16 0) = 3 then ((f_X7_go M).bind fun r_8 => zcap (1 + 5 * (i + 1)) kK ((f_X7_line r_8).bind fun r_9 => if r_9.1 = 0 then (some (0, r_9.2, (1 + 5 * (i + 1)))) else (f_X7_reads_L72 kK F' (r_9.2, (1 + 5 * (i + 1)))))) else (some (1, M, 1 + 5 * i)) := by
      show f_X7_reads_L72b kK (f_X7_reads_L72 kK F') (M, 1 + 5 * i) = _
      unfold f_X7_reads_L72b zcap
      exact if_pos (show 1 + 5 * i ≤ kK by omega)
    rw [qS, qM]
    by_cases e0 : tkK y n p = 0
    · rw [ieqp t4 l_0 e0, ieqn u16 l_3 (by omega) (by omega) (by omega)]
      exact ⟨0, S1, D, 1, M, 1 + 5 * i, rfl, rfl, by omega, hf, fun _ _ => rfl, Or.inl ⟨rfl, by rw [u16, e0]; rfl, h71, R, N, b, d, h, rk, pl, hD, hR, hw⟩⟩
    rw [ieqn t4 l_0 e0 (by omega) (by omega)]
    obtain ⟨F, rfl⟩ : ∃ x, F = x + 1 := ⟨F - 1, by omega⟩
    by_cases e3 : tkK y n p = 3
    · rw [ieqp t4 l_3 e3, ieqp u16 l_3 e3]
      have hpe := k6 e0
      obtain ⟨M1, g1, g2, g3⟩ := e_goT hBM k5 (u15 (by omega)) u18
      have hR1 : rdM M1 R N b d h rk pl := rdM_fr (fun k _ _ => g3 k (by omega)) hR
      obtain ⟨S', D', M', v, q1, q2, q3, q4, q5⟩ := e_line (S := S1) (D := D) (M := M1) ⟨bytC_fr (to 1 (by omega)) (to 2 (by omega)) hB, k5, t3 (by omega), h71⟩ g2 hD hR1 hw
      unfold zcap
      rw [q1, Option.bind_some, g1, Option.bind_some, if_pos (show 1 + 5 * (i + 1) ≤ kK by omega), q2, Option.bind_some]
      dsimp only
      rcases q5 with ⟨z1, p', z2, z3⟩ | ⟨z1, f, f1, f2, f3, f4⟩
      · rw [if_neg (show ¬ v = 0 by rw [z1]; decide)]
        obtain ⟨tg, S'', D'', tm, M'', c', x1, x2, x3, x4, x5, x6⟩ := ih p' (i + 1) (F + 1) F' S' D' M' (by omega) (by omega) (by omega) (by omega) z3
        exact ⟨tg, S'', D'', tm, M'', c', x1, x2, x3, fun k hk => by rw [x4 k hk, q3 k hk, hf k hk], fun k hk => by rw [x5 k hk, q4 k hk, g3 k (by omega)], x6⟩
      · rw [if_pos z1, L29_f (n0 f1 f2 f3)]
        exact ⟨1, S', D', 0, M', _, rfl, rfl, by omega, fun k hk => by rw [q3 k hk, hf k hk], fun k hk => by rw [q4 k hk, g3 k (by omega)], Or.inr ⟨f, f1, f2, f3, Or.inl ⟨rfl, f4⟩⟩⟩
    · rw [ieqn t4 l_3 e3 (by omega) (by omega), ieqn u16 l_3 e3 (by omega) (by omega), show f_X4_fail S1 1 = _ from e_fail (k := 1) h71 t5, Option.bind_some, L29_f (n0 (f := 8 * skp y n p + 1) (by omega) (by omega) (zst_same _ _ _ _))]
      exact ⟨1, _, D, 1, M, _, rfl, rfl, by omega, fun k hk => by rw [zst_ne _ (by omega)]; exact hf k hk, fun _ _ => rfl, Or.inr ⟨8 * skp y n p + 1, by omega, by omega, zst_same _ _ _ _, Or.inr ⟨rfl, by rw [u16]; exact nI_ne0 (by omega) (by omega), u18, _, u14, rfl⟩⟩⟩
theorem beg_ch (R N : Nat) : begK R N = chP R N 10 4 3 (fun _ => 0) [] := by
  funext k j
  unfold begK chP mkK
  by_cases z : k = 9
  · rw [z]; rfl
  · rw [if_neg z]; rfl
theorem J18_f {S D : Nat → Nat → Int32} (h : ¬ S 7 0 = 0) : f_X4_readHead_J18 S D = some (S, D) := by
  unfold f_X4_readHead_J18
  rw [e_rdN h, Option.bind_some]
  dsimp only
  rw [e_rdN h, Option.bind_some]
  exact if_neg h
/-- what both have after a text -/
def txQ (S M : Nat → Nat → Int32) (cS : Option (Int32 × (Nat → Nat → Int32) × (Nat → Nat → Int32))) (cM : Option (Int32 × (Nat → Nat → Int32))) : Prop := ∃ v S' D' w M', cS = some (v, S', D') ∧ cM = some (w, M') ∧ (∀ k, k < 2 → S' k = S k) ∧ (∀ k, k < 14 → M' k = M k) ∧ ((w = 1 ∧ v = 0 ∧ chTx D' M') ∨ (w = 0 ∧ ∃ f, 0 < f ∧ f < 2 ^ 31 ∧ v = nI f ∧ M' 18 0 = nI f))
theorem e_text1 {S D M : Nat → Nat → Int32} {y : Nat → Nat} {n kK : Nat} (hk : 1 + 5 * (n + 1) ≤ kK) (h0 : ∃ a, S 0 0 = nI a ∧ n ≤ a ∧ a ≤ 500) (hy : ∀ k, k < n → S 1 k = nI (y k) ∧ y k < 256) (hT : tokM M y n 0) (h21 : M 21 0 = 0) (h23 : ∀ c, c < 240 → M 23 c = 0) (h24 : M 24 0 = 10 ∧ M 24 1 = 4 ∧ M 24 2 = 3) : txQ S M (f_X4_readText S D (nI n)) (f_X7_reads kK M) := by
  obtain ⟨a, ha, hna, ha5⟩ := h0
  obtain ⟨hBM, _, u16, u14, u15, u17, u18⟩ := hT
  unfold f_X4_readText f_X7_reads
  rw [zlet_eq, zlet_eq, zlet_eq, iltn ha rfl hna (by omega)]
  generalize hX : zst (zst (zst S 2 0 (nI n)) 3 0 0) 7 0 0 = X
  have hXf : ∀ k, k < 2 → X k = S k := fun k hk => by rw [← hX, zst_ne _ (by omega), zst_ne _ (by omega), zst_ne _ (by omega)]
  have hB : bytC X y n := by
    refine ⟨by omega, ?_, fun k hk => by rw [hXf 1 (by decide)]; exact hy k hk⟩
    rw [← hX, zst_ne _ (by decide), zst_ne _ (by decide), zst_same]
  have h3 : X 3 0 = nI 0 := by rw [← hX, zst_ne _ (by decide), zst_same]; rfl
  have h7 : X 7 0 = 0 := by rw [← hX, zst_same]
  obtain ⟨S1, e1, hC⟩ := e_readToken hB (Nat.zero_le _) h3
  have hC' := hC
  obtain ⟨t4, t5, t3, t6, to⟩ := hC'
  have hM : tkM M M y n 0 := ⟨u16, u14, u15, u17, fun _ _ => rfl⟩
  obtain ⟨k1, k2, k3, k4, k5, k6, k7⟩ := tk_lt (y := y) (Nat.zero_le n)
  have hf : ∀ k, k < 2 → S1 k = S k := fun k hk => by rw [to k (by omega), hXf k hk]
  have h71 : S1 7 0 = 0 := by rw [to 7 (by omega)]; exact h7
  obtain ⟨r1, x1, x2, x3⟩ := e_isWord hB (Nat.zero_le _) hC (i := 0) (by decide)
  obtain ⟨q1, y1, y2, y3⟩ := e_isWordM hBM (Nat.zero_le _) hM (i := 0) (v1 := 99) (v2 := 104) (v3 := 97) (v4 := 114) (v5 := 116) (by decide) rfl rfl rfl rfl rfl
  have hfin : ∀ S' D' M' f, f_X4_readHead X D = some (S', D') → (∀ k, k < 3 → S' k = S1 k) → (∀ k, k < 14 → M' k = M k) → 0 < f → f < 2 ^ 31 → S' 7 0 = nI f → M' 18 0 = nI f → ∀ cM, cM = some (0, M') → txQ S M ((f_X4_readHead X D).bind fun r_4 => (f_X4_readText_L29 zfuel (0, r_4.1, r_4.2)).bind fun y_8 => if y_8.1 = 0 then (some ((y_8.2.1 7 0), y_8.2.1, y_8.2.2)) else (some ((y_8.2.1 7 0), y_8.2.1, y_8.2.2))) cM := by
    intro S' D' M' f z1 z2 z3 f1 f2 z4 z5 cM z6
    rw [z1, Option.bind_some]
    dsimp only
    rw [show zfuel = 999 + 1 from rfl, L29_f (n0 f1 f2 z4), Option.bind_some]
    exact ⟨S' 7 0, S', D', 0, M', if_neg (show ¬ (1 : Nat) = 0 by decide), z6, fun k hk => by rw [z2 k (by omega), hf k hk], z3, Or.inr ⟨rfl, f, f1, f2, z4, z5⟩⟩
  have hcap : ∀ {α : Type} (x : Option α), zcap 1 kK x = x := fun x => if_pos (by omega)
  rw [hcap, y1, Option.bind_some]
  by_cases o1 : isW y n 0 0
  · have oK := o1.1
    rw [y2 o1, if_neg (show ¬ (1 : Int32) = 0 by decide)]
    have qH : f_X4_readHead X D = f_X4_readHead_J18 S1 D := by
      unfold f_X4_readHead
      rw [e1, Option.bind_some, x1, Option.bind_some, x2 o1, if_neg (show ¬ (1 : Int32) = 0 by decide)]
    obtain ⟨M1, g1, g2, g3⟩ := e_goT hBM k5 (u15 (by omega)) u18
    have hS1 : prC S1 y n (tkE y n 0) := ⟨bytC_fr (to 1 (by omega)) (to 2 (by omega)) hB, k5, t3 (by omega), h71⟩
    obtain ⟨v1, S2, a1, a2, a3, a4⟩ := e_readNumber (lo := 2) (hi := 9) hS1 (by omega) (by omega)
    obtain ⟨m1, m2⟩ := e_numberM (lo := 2) (hi := 9) g2 (by omega) (by omega)
    rw [g1, Option.bind_some]
    unfold f_X4_readHead_J18 at qH
    rw [show f_X4_readNumber S1 2 9 = _ from a1, Option.bind_some] at qH
    dsimp only at qH
    by_cases o2 : nOK y n (tkE y n 0) 2 9
    · obtain ⟨c1, c2, c3⟩ := a2 o2
      obtain ⟨M2, d1, d2, d3, d4⟩ := m1 o2
      obtain ⟨j1, j2, j3, j4, j5, j6, j7⟩ := tk_lt (y := y) k5
      have hne : ∀ k, k ≠ 19 → zst M2 19 0 (nI (tkV y n (tkE y n 0))) k = M2 k := fun k hk => zst_ne _ hk _ _
      have hT2 : tokM (zst M2 19 0 (nI (tkV y n (tkE y n 0)))) y n (tkE y n (tkE y n 0)) := by
        obtain ⟨t1, t2, t3, t4, t5, t6, t7⟩ := d2
        exact ⟨bytM_fr (hne 11 (by decide)) (hne 13 (by decide)) t1, t2, by rw [hne 16 (by decide)]; exact t3, by rw [hne 14 (by decide)]; exact t4, fun z => by rw [hne 15 (by decide)]; exact t5 z, fun z => by rw [hne 17 (by decide)]; exact t6 z, by rw [hne 18 (by decide)]; exact t7⟩
      obtain ⟨v2, S3, a5, a6, a7, a8⟩ := e_readNumber (lo := 6) (hi := 24) c2 (by omega) (by omega)
      obtain ⟨m3, m4⟩ := e_numberM (lo := 6) (hi := 24) hT2 (by omega) (by omega)
      rw [show f_X7_number M1 2 9 = _ from d1, Option.bind_some, if_neg (show ¬ (1 : Int32) = 0 by decide), zlet_eq]
      dsimp only
      rw [d3]
      rw [show f_X4_readNumber S2 6 24 = _ from a5, Option.bind_some] at qH
      dsimp only at qH
      by_cases o3 : nOK y n (tkE y n (tkE y n 0)) 6 24
      · obtain ⟨c4, c5, c6⟩ := a6 o3
        obtain ⟨M3, d5, d6, d7, d8⟩ := m3 o3
        obtain ⟨i1, i2, i3, i4, i5, i6, i7⟩ := tk_lt (y := y) j5
        rw [show f_X7_number (zst M2 19 0 (nI (tkV y n (tkE y n 0)))) 6 24 = _ from d5, Option.bind_some, if_neg (show ¬ (1 : Int32) = 0 by decide), zlet_eq]
        dsimp only
        rw [d7]
        obtain ⟨D', w1, w2⟩ := e_beginAnew (S := D) (tkV y n (tkE y n 0)) (tkV y n (tkE y n (tkE y n 0)))
        rw [if_pos c5.2.2.2, c1, c4, w1, Option.bind_some] at qH
        rw [beg_ch] at w2
        have hn2 : ∀ k, k ≠ 20 → zst M3 20 0 (nI (tkV y n (tkE y n (tkE y n 0)))) k = M3 k := fun k hk => zst_ne _ hk _ _
        have hfM : ∀ k, k < 14 ∨ (20 < k ∧ k ≠ 25) → zst M3 20 0 (nI (tkV y n (tkE y n (tkE y n 0)))) k = M k := fun k hk => by rw [hn2 k (by omega), d8 k (by omega), hne k (by omega), d4 k (by omega), g3 k (by omega)]
        have hr : rdS S3 D' (zst M3 20 0 (nI (tkV y n (tkE y n (tkE y n 0))))) y n (tkE y n (tkE y n (tkE y n 0))) := by
          refine ⟨_, _, 10, 4, 3, fun _ => 0, [], c5, ?_, w2, ?_, ?_⟩
          · obtain ⟨t1, t2, t3, t4, t5, t6, t7⟩ := d6
            exact ⟨bytM_fr (hn2 11 (by decide)) (hn2 13 (by decide)) t1, t2, by rw [hn2 16 (by decide)]; exact t3, by rw [hn2 14 (by decide)]; exact t4, fun z => by rw [hn2 15 (by decide)]; exact t5 z, fun z => by rw [hn2 17 (by decide)]; exact t6 z, by rw [hn2 18 (by decide)]; exact t7⟩
          · refine ⟨by rw [hn2 19 (by decide), d8 19 (by omega), zst_same], by rw [zst_same], by rw [hfM 21 (by omega)]; exact h21, trivial, fun c hc => by rw [hfM 23 (by omega)]; exact h23 c hc, by rw [hfM 24 (by omega)]; exact h24.1, by rw [hfM 24 (by omega)]; exact h24.2.1, by rw [hfM 24 (by omega)]; exact h24.2.2⟩
          · exact ⟨⟨o2.2.1, o2.2.2, o3.2.1, o3.2.2, by decide, by decide, by decide, by decide⟩, trivial, ⟨fun _ => Nat.zero_le _, fun _ z => absurd z (show ¬ (0 : Nat) = 1 by decide), fun q hq => absurd hq List.not_mem_nil⟩, by decide⟩
        obtain ⟨tg, S4, D4, tm, M4, c', l1, l2, l3, l4, l5, l6⟩ := e_lines hk 501 (tkE y n (tkE y n (tkE y n 0))) 0 zfuel zfuel S3 D' (zst M3 20 0 (nI (tkV y n (tkE y n (tkE y n 0))))) (by omega) (Nat.zero_le _) (by decide) (by decide) hr
        have l1 : f_X4_readText_L29 zfuel (0, S3, D') = some (tg, S4, D4) := l1
        have l2 : f_X7_reads_L72 kK zfuel (zst M3 20 0 (nI (tkV y n (tkE y n (tkE y n 0)))), 1) = some (tm, M4, c') := l2
        rw [qH, Option.bind_some]
        dsimp only
        rw [l1, Option.bind_some, l2, Option.bind_some]
        unfold zcap
        rw [if_pos l3]
        have hS4 : ∀ k, k < 2 → S4 k = S k := fun k hk => by rw [l4 k (by omega), a8 k (by omega), a4 k (by omega), hf k hk]
        have hM4 : ∀ k, k < 14 → M4 k = M k := fun k hk => by rw [l5 k hk, hfM k (by omega)]
        have hv : (if (tg, S4, D4).1 = 0 then (some (((tg, S4, D4).2.1 7 0), (tg, S4, D4).2.1, (tg, S4, D4).2.2)) else (some (((tg, S4, D4).2.1 7 0), (tg, S4, D4).2.1, (tg, S4, D4).2.2))) = some (S4 7 0, S4, D4) := by
          split <;> rfl
        rw [hv]
        dsimp only
        rcases l6 with ⟨z1, z2, z3, z4⟩ | ⟨f, f1, f2, f3, ⟨z1, z2⟩ | ⟨z1, z2, z3, s, z4, z5⟩⟩
        · rw [if_neg (show ¬ tm = 0 by omega), if_pos z2]
          exact ⟨_, S4, D4, 1, M4, rfl, rfl, hS4, hM4, Or.inl ⟨rfl, z3, z4⟩⟩
        · rw [if_pos z1]
          exact ⟨_, S4, D4, 0, M4, rfl, rfl, hS4, hM4, Or.inr ⟨rfl, f, f1, f2, f3, z2⟩⟩
        · rw [if_neg (show ¬ tm = 0 by omega), if_neg z2, z4, show f_X7_bad M4 1 (nI s) = _ from e_bad (k := 1) z3, Option.bind_some, if_pos rfl]
          exact ⟨_, S4, D4, 0, zst M4 18 0 (nI (8 * s + 1)), rfl, rfl, hS4, fun k hk => by rw [zst_ne _ (by omega)]; exact hM4 k hk, Or.inr ⟨rfl, f, f1, f2, f3, by rw [z5]; exact zst_same _ _ _ _⟩⟩
      · obtain ⟨M3, d5, d6, d7⟩ := m4 o3
        obtain ⟨f1, f2⟩ := nFl_b (y := y) hBM.1 j5
        rw [if_neg (n0 f1 f2 (a7 o3))] at qH
        refine hfin S3 D M3 _ qH (fun k hk => by rw [a8 k hk, a4 k hk]) (fun k hk => by rw [d7 k (by omega) (by omega), hne k (by omega), d4 k (by omega), g3 k (by omega)]) f1 f2 (a7 o3) d6 _ ?_
        rw [show f_X7_number (zst M2 19 0 (nI (tkV y n (tkE y n 0)))) 6 24 = _ from d5, Option.bind_some, if_pos rfl]
    · obtain ⟨M2, d1, d2, d3⟩ := m2 o2
      obtain ⟨f1, f2⟩ := nFl_b (y := y) hBM.1 k5
      have f0 := n0 f1 f2 (a3 o2)
      rw [e_rdN f0, Option.bind_some] at qH
      dsimp only at qH
      rw [if_neg f0] at qH
      refine hfin S2 D M2 _ qH a4 (fun k hk => by rw [d3 k (by omega) (by omega), g3 k (by omega)]) f1 f2 (a3 o2) d2 _ ?_
      rw [show f_X7_number M1 2 9 = _ from d1, Option.bind_some, if_pos rfl]
  · rw [y3 o1, if_pos rfl, u14, show f_X7_bad M 1 (nI (skp y n 0)) = _ from e_bad (k := 1) u18, Option.bind_some, zbo_0]
    have hn := hBM.1
    refine hfin (zst S1 7 0 (nI (8 * skp y n 0 + 1))) D (zst M 18 0 (nI (8 * skp y n 0 + 1))) (8 * skp y n 0 + 1) ?_ (fun k hk => zst_ne _ (by omega) _ _) (fun k hk => zst_ne _ (by omega) _ _) (by omega) (by omega) (zst_same _ _ _ _) (zst_same _ _ _ _) _ rfl
    unfold f_X4_readHead
    rw [e1, Option.bind_some, x1, Option.bind_some, x3 o1, if_pos rfl, show f_X4_fail S1 1 = _ from e_fail (k := 1) h71 t5, Option.bind_some, J18_f (n0 (f := 8 * skp y n 0 + 1) (by omega) (by omega) (zst_same _ _ _ _))]
end TXT
