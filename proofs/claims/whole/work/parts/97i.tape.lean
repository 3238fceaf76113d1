/-! feed and text, with what the tape holds: what a text may cost -/
section TAP
def tpL (S : Nat → Nat → Int32) : Nat := (S 0 0).toNatClampNeg
def txA (S : Nat → Nat → Int32) (v : Int32) : Prop := ¬ v < 0 ∧ v.toNatClampNeg ≤ tpL S
theorem m_feed2 {K : Nat → Nat → Nat} {S1 S2 S3 S4 S5 S6 S7 S8 S9 M : Nat → Nat → Int32} (hI : ivK K S1 S2 S4 S5 S6 S7 S8 M) (v1 v2 v3 v4 v5 : Int32) : ∃ x S1' M', f_X6_feed S1 S2 S3 S4 S5 S6 S7 S8 S9 v1 v2 v3 v4 v5 = some (x, S1') ∧ f_X7_feed M v1 v2 v3 v4 v5 = some (x, M') ∧ ivK K S1' S2 S4 S5 S6 S7 S8 M' ∧ M' 0 0 = 0 ∧ tpL S1' ≤ tpL S1 + 20 := by
  obtain ⟨i1, i2, i3, ⟨a, y, t1, t2, t3, t4⟩, i5⟩ := ivK_0 hI
  unfold f_X6_feed f_X7_feed
  rw [zlet_eq]
  have ht : (zst M 0 0 0) 12 0 + 20 = nI (a + 20) := by rw [t3, show (20 : Int32) = nI 20 from rfl, nI_add]
  by_cases q : a ≤ 480
  · rw [ilep (y := 480) (b := 480) t2 rfl q (by decide), ilep (y := 500) (b := 500) ht rfl (by omega) (by decide)]
    obtain ⟨A1, B1, p1, p2, p3, p4, ⟨y1, p5⟩, p6⟩ := tp_num (v := v1) (by omega) t2 t3 t4
    obtain ⟨A2, B2, q1, q2, q3, q4, ⟨y2, q5⟩, q6⟩ := tp_num (v := v2) (by omega) p3 p4 p5
    obtain ⟨A3, B3, r1, r2, r3, r4, ⟨y3, r5⟩, r6⟩ := tp_num (v := v3) (by omega) q3 q4 q5
    obtain ⟨A4, B4, s1, s2, s3, s4, ⟨y4, s5⟩, s6⟩ := tp_num (v := v4) (by omega) r3 r4 r5
    obtain ⟨A5, B5, u1, u2, u3, u4, ⟨y5, u5⟩, u6⟩ := tp_num (v := v5) (by omega) s3 s4 s5
    rw [p1, Option.bind_some, q1, Option.bind_some, r1, Option.bind_some, s1, Option.bind_some, u1, Option.bind_some, p2, Option.bind_some, q2, Option.bind_some, r2, Option.bind_some, s2, Option.bind_some, u2, Option.bind_some, u3, u4]
    have hf : ∀ k, k ≠ 11 → k ≠ 12 → B5 k = (zst M 0 0 0) k := fun k x1 x2 => by rw [u6 k x1 x2, s6 k x1 x2, r6 k x1 x2, q6 k x1 x2, p6 k x1 x2]
    exact ⟨_, A5, B5, rfl, rfl, ⟨i1, i2, repM_f (fun k h1 h2 => hf k (by omega) (by omega)) i3, ⟨_, y5, by omega, u3, u4, u5⟩, i5⟩, by rw [hf 0 (by decide) (by decide), zst_same], by unfold tpL; rw [u3, t2, nI_clamp (by omega), nI_clamp (by omega)]; omega⟩
  · rw [ilen (y := 480) (b := 480) t2 rfl (by omega) (by omega), ilen (y := 500) (b := 500) ht rfl (by omega) (by omega)]
    exact ⟨_, S1, _, rfl, rfl, ⟨i1, i2, i3, ⟨a, y, t1, t2, t3, t4⟩, i5⟩, zst_same _ _ _ _, Nat.le_add_right _ _⟩
theorem m_text1 {K : Nat → Nat → Nat} {S1 S2 S3 S4 S5 S6 S7 S8 S9 M : Nat → Nat → Int32} {kK : Nat} (hI : ivK K S1 S2 S4 S5 S6 S7 S8 M) (v1 : Int32) (hkK : txA S1 v1 → 6 + 5 * v1.toNatClampNeg ≤ kK) : ∃ x t S1' S3' S4' S5' S6' S7' S8' M', f_X6_text S1 S2 S3 S4 S5 S6 S7 S8 S9 v1 = some (x, t, S1', S3', S4', S5', S6', S7', S8') ∧ f_X7_text kK M v1 = some (x, M') ∧ M' 0 0 = 0 ∧ (S1' 0 0 = 0 ∨ (S1' = S1 ∧ ¬ txA S1 v1)) ∧ ((t = 0 ∧ ivK K S1' S2 S4' S5' S6' S7' S8' M') ∨ (t = 1 ∧ ∃ K', ivK K' S1' S3' S4' S5' S6' S7' S8' M')) := by
  obtain ⟨i1, i2, i3, ⟨a, y, t1, t2, t3, t4⟩, i5⟩ := ivK_0 hI
  unfold f_X6_text f_X7_text f_X7_within
  rw [zlet_eq]
  by_cases q0 : v1 < 0
  · rw [if_pos q0, if_pos q0, Option.bind_some, if_pos rfl]
    exact ⟨_, _, _, _, _, _, _, _, _, _, rfl, rfl, zst_same _ _ _ _, Or.inr ⟨rfl, fun h => h.1 q0⟩, Or.inl ⟨rfl, i1, i2, i3, ⟨a, y, t1, t2, t3, t4⟩, i5⟩⟩
  obtain ⟨n, hn, rfl⟩ := nI_of q0
  rw [if_neg q0, if_neg q0]
  by_cases q1 : n ≤ a
  · have hk6 : 6 + 5 * n ≤ kK := by
      have h2 := hkK ⟨q0, by unfold tpL; rw [t2, nI_clamp hn, nI_clamp (by omega)]; exact q1⟩
      rw [nI_clamp hn] at h2; exact h2
    rw [ilep rfl t2 q1 (by omega), iltn t3 rfl q1 (by omega), Option.bind_some, if_neg (show ¬ (1 : Int32) = 0 by decide)]
    rw [zlet_eq, zlet_eq, zlet_eq, zlet_eq, zlet_eq, z3_0, zlet_eq, z3_1, zlet_eq, z3_2, zlet_eq]
    generalize hX : zst (zst (zst (zst (zst (zst (zst (zst (zst M 0 0 0) 13 0 (nI n)) 12 0 0) 15 0 0) 18 0 0) 21 0 0) 24 0 10) 24 1 4) 24 2 3 = X
    have hXf : ∀ k, k ≠ 24 → k ≠ 21 → k ≠ 18 → k ≠ 15 → k ≠ 12 → k ≠ 13 → X k = (zst M 0 0 0) k := fun k z1 z2 z3 z4 z5 z6 => by rw [← hX, zst_ne _ z1, zst_ne _ z1, zst_ne _ z1, zst_ne _ z2, zst_ne _ z3, zst_ne _ z4, zst_ne _ z5, zst_ne _ z6]
    obtain ⟨M1, c1, c2, c3⟩ := e_L68 (M := X) (kK := kK)
    have hB : bytM M1 y n := by
      refine ⟨by omega, ?_, fun k hk => ?_⟩
      · rw [c3 13 (by decide), ← hX, zst_ne _ (by decide), zst_ne _ (by decide), zst_ne _ (by decide), zst_ne _ (by decide), zst_ne _ (by decide), zst_ne _ (by decide), zst_ne _ (by decide), zst_same]
      · rw [c3 11 (by decide), hXf 11 (by decide) (by decide) (by decide) (by decide) (by decide) (by decide)]
        exact ⟨(t4 k (by omega)).2.2, (t4 k (by omega)).2.1⟩
    have x15 : M1 15 0 = nI 0 := by
      rw [c3 15 (by decide), ← hX, zst_ne _ (by decide), zst_ne _ (by decide), zst_ne _ (by decide), zst_ne _ (by decide), zst_ne _ (by decide), zst_same]; rfl
    have x18 : M1 18 0 = 0 := by
      rw [c3 18 (by decide), ← hX, zst_ne _ (by decide), zst_ne _ (by decide), zst_ne _ (by decide), zst_ne _ (by decide), zst_same]
    have x21 : M1 21 0 = 0 := by
      rw [c3 21 (by decide), ← hX, zst_ne _ (by decide), zst_ne _ (by decide), zst_ne _ (by decide), zst_same]
    have x12 : M1 12 0 = 0 := by
      rw [c3 12 (by decide), ← hX, zst_ne _ (by decide), zst_ne _ (by decide), zst_ne _ (by decide), zst_ne _ (by decide), zst_ne _ (by decide), zst_ne _ (by decide), zst_same]
    have x24 : M1 24 0 = 10 ∧ M1 24 1 = 4 ∧ M1 24 2 = 3 := by
      rw [c3 24 (by decide), ← hX, zst_row, zst_row, zst_row]
      exact ⟨by rw [upd_ne _ (by decide), upd_ne _ (by decide), upd_same], by rw [upd_ne _ (by decide), upd_same], upd_same _ _ _⟩
    obtain ⟨M2, g1, g2, g3⟩ := e_goT hB (Nat.zero_le _) x15 x18
    obtain ⟨v, S1', D', w, M3, p1, p2, p3, p4, p5⟩ := e_text1 (S := S1) (D := S3) (M := M2) (kK := kK) (y := y) (n := n) (by omega) ⟨a, t2, q1, t1⟩ (fun k hk => ⟨(t4 k (by omega)).1, (t4 k (by omega)).2.1⟩) g2 (by rw [g3 21 (by omega)]; exact x21) (fun c hc => by rw [g3 23 (by omega)]; exact c2 c hc) (by rw [g3 24 (by omega)]; exact x24)
    rw [c1, Option.bind_some, g1, Option.bind_some, p1, Option.bind_some, p2, Option.bind_some, zlet_eq]
    dsimp only
    have hfr : ∀ k, k < 14 → k ≠ 12 → k ≠ 13 → M3 k = (zst M 0 0 0) k := fun k z1 z2 z3 => by rw [p4 k z1, g3 k (by omega), c3 k (by omega), hXf k (by omega) (by omega) (by omega) (by omega) z2 z3]
    have h12 : M3 12 0 = 0 := by rw [p4 12 (by decide), g3 12 (by decide), x12]
    have htp : ∀ M4 : Nat → Nat → Int32, M4 12 0 = 0 → tpR (zst S1' 0 0 0) M4 := fun M4 z => ⟨0, fun _ => 0, by decide, zst_same _ _ _ _, z, fun k hk => absurd hk (Nat.not_lt_zero _)⟩
    have hrep : repM M3 K := repM_f (fun k z1 z2 => hfr k (by omega) (by omega) (by omega)) i3
    rcases p5 with ⟨z1, z2, R, N, b, d, h, rk, pl, z3, z4, z5⟩ | ⟨z1, f, f1, f2, z2, z3⟩
    · rw [if_pos z2, if_neg (show ¬ w = 0 by rw [z1]; decide)]
      obtain ⟨M4, w1, w2, w3⟩ := e_text2 (kK := kK) i1 hrep z4 z5
      unfold f_X6_forgetDrawings
      rw [zlet_eq, zlet_eq, zlet_eq, zlet_eq, zlet_eq, Option.bind_some]
      dsimp only
      have hc5 : D' 5 0 = nI pl.length := (repC_ch.mp z3).2.2.2.2.2.1
      refine ⟨nI pl.length, 1, _, D', _, _, _, _, _, M4, by rw [hc5], w1, ?_, Or.inl (zst_same _ _ _ _), Or.inr ⟨rfl, chP R N b d h rk pl, chP_wf z5.1 pl z5.2.2.2 z5.2.1 z5.2.2.1, z3, w2, htp M4 (by rw [w3 12 (by omega)]; exact h12), Or.inl (zst_same _ _ _ _), Or.inl (zst_same _ _ _ _), Or.inl (zst_same _ _ _ _), Or.inl (zst_same _ _ _ _), Or.inl (zst_same _ _ _ _)⟩⟩
      rw [w3 0 (by omega), hfr 0 (by decide) (by decide) (by decide), zst_same]
    · rw [if_neg (n0 f1 f2 z2), if_pos z1, z3, z2]
      refine ⟨_, 0, _, D', S4, S5, S6, S7, S8, M3, rfl, rfl, ?_, Or.inl (zst_same _ _ _ _), Or.inl ⟨rfl, i1, i2, hrep, htp M3 h12, i5⟩⟩
      rw [hfr 0 (by decide) (by decide) (by decide), zst_same]
  · rw [ilen rfl t2 (by omega) hn, iltp t3 rfl (by omega) hn, Option.bind_some, if_pos rfl]
    exact ⟨_, _, _, _, _, _, _, _, _, _, rfl, rfl, zst_same _ _ _ _, Or.inr ⟨rfl, fun h => q1 (by have h2 := h.2; unfold tpL at h2; rw [t2, nI_clamp hn, nI_clamp (by omega)] at h2; exact h2)⟩, Or.inl ⟨rfl, i1, i2, i3, ⟨a, y, t1, t2, t3, t4⟩, i5⟩⟩
theorem m_text2 {K : Nat → Nat → Nat} {S1 S2 S3 S4 S5 S6 S7 S8 S9 M : Nat → Nat → Int32} (hI : ivK K S1 S2 S4 S5 S6 S7 S8 M) (v1 : Int32) : ∃ kK x t S1' S3' S4' S5' S6' S7' S8' M', kK + 5 * tpL S1' ≤ 5 * tpL S1 + 6 ∧ f_X6_text S1 S2 S3 S4 S5 S6 S7 S8 S9 v1 = some (x, t, S1', S3', S4', S5', S6', S7', S8') ∧ f_X7_text kK M v1 = some (x, M') ∧ M' 0 0 = 0 ∧ ((t = 0 ∧ ivK K S1' S2 S4' S5' S6' S7' S8' M') ∨ (t = 1 ∧ ∃ K', ivK K' S1' S3' S4' S5' S6' S7' S8' M')) := by
  have h0 : ∀ S : Nat → Nat → Int32, S 0 0 = 0 → tpL S = 0 := fun S h => by unfold tpL; rw [h]; rfl
  by_cases hA : txA S1 v1
  · obtain ⟨x, t, S1', S3', S4', S5', S6', S7', S8', M', e1, e2, e3, e4, e5⟩ := m_text1 (S3 := S3) (S9 := S9) (kK := 6 + 5 * tpL S1) hI v1 (fun h => by have := h.2; omega)
    refine ⟨_, x, t, S1', S3', S4', S5', S6', S7', S8', M', ?_, e1, e2, e3, e5⟩
    rcases e4 with h | ⟨-, h⟩
    · rw [h0 _ h]; omega
    · exact absurd hA h
  · obtain ⟨x, t, S1', S3', S4', S5', S6', S7', S8', M', e1, e2, e3, e4, e5⟩ := m_text1 (S3 := S3) (S9 := S9) (kK := 0) hI v1 (fun h => absurd h hA)
    refine ⟨0, x, t, S1', S3', S4', S5', S6', S7', S8', M', ?_, e1, e2, e3, e5⟩
    rcases e4 with h | ⟨h, -⟩
    · rw [h0 _ h]; omega
    · rw [h]; omega
end TAP
