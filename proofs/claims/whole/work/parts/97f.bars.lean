/-! the methods of both: bars -/
section MBA
theorem roc_bk {K : Nat → Nat → Nat} {c : Nat} (h : K 9 c = 1) : rocK (rocK K c 0) c 1 = K := by
  funext k j
  unfold rocK
  by_cases z : k = 9 ∧ j = c
  · rw [if_pos z, z.1, z.2, h]
  · rw [if_neg z, if_neg z]
theorem m_bars {K : Nat → Nat → Nat} {S1 S2 S3 S4 S5 S6 S7 S8 S9 M : Nat → Nat → Int32} (hI : ivK K S1 S2 S4 S5 S6 S7 S8 M) (v1 v2 : Int32) : chgQ S1 (f_X6_bars S1 S2 S3 S4 S5 S6 S7 S8 S9 v1 v2) (f_X7_bars M v1 v2) := by
  obtain ⟨i1, i2, i3, i4, i5⟩ := ivK_0 hI
  obtain ⟨k1, k2, k3, k4, k5, k6, k7, k8, h7⟩ := i1.1
  unfold f_X7_bars
  rw [zlet_eq]
  unfold f_X6_bars
  rcases hc6 i1 i2 i3 v1 v2 with ⟨a1, a2, _⟩ | ⟨r, t, rfl, rfl, r1, r2, r3, a1, a2⟩
  · rw [a1, a2]; exact chg0 hI
  rw [a1, a2, Option.bind_some, Option.bind_some, if_neg (show ¬ (1 : Int32) = 0 by decide), if_neg (show ¬ (1 : Int32) = 0 by decide)]
  have hzx : ∀ {α : Type} (f : Nat → Option α), zix (nI (24 * r + t)) 240 f = f (24 * r + t) := fun f => zix_nI (by omega) (by decide)
  have hcl : (nI (24 * r + t)).toNatClampNeg = 24 * r + t := nI_clamp (by omega)
  simp only [e_cellOf, e_cellM, Option.bind_some, hzx, hcl]
  have hle := i1.2.2.2.1 (24 * r + t)
  by_cases q : K 9 (24 * r + t) = 0
  · rw [ieqp (i2.2.2 _ (by omega)) l_0 q, ieqp (i3.2.2 _ (by omega)) l_0 q]; exact chg0 hI
  rw [ieqn (i2.2.2 _ (by omega)) l_0 q (by omega) (by omega), ieqn (i3.2.2 _ (by omega)) l_0 q (by omega) (by omega)]
  obtain ⟨tag, A4, A5, A6, A7, A8, T, x1, x2, x3, x4⟩ := treC (S1 := S1) (S3 := S3) (S9 := S9) i1 i2 i5 (m := 4) (by decide) (by decide)
  obtain ⟨M1, b1, b2, b3⟩ := e_leastInk i1 i3
  have hM1 : repM M1 K := repM_f (fun k _ _ => b3 k (by omega) (by omega) (by omega)) i3
  have hK' : wfK (rocK K (24 * r + t) 0) := roc_wf i1 r1 r2 r3 (by decide) (fun z => absurd z (by decide))
  have hS' : repC (zst S2 9 (24 * r + t) 0) (rocK K (24 * r + t) 0) := rocC (v := 0) i2
  have hM' : repM (zst M1 10 (24 * r + t) 0) (rocK K (24 * r + t) 0) := rocM (v := 0) hM1
  obtain ⟨F, f1, f2, _⟩ := e_fill (S := A4) hK' hS'
  obtain ⟨M2, g1, g2, g3⟩ := e_leastInk hK' hM'
  have hM2 : repM M2 (rocK K (24 * r + t) 0) := repM_f (fun k _ _ => g3 k (by omega) (by omega) (by omega)) hM'
  have h5' : rocK K (24 * r + t) 0 5 0 = K 5 0 := roc_o (by decide) 0
  have hp0 : 0 < 2 ^ rocK K (24 * r + t) 0 5 0 := Nat.two_pow_pos _
  have hbk : rocK (rocK K (24 * r + t) 0) (24 * r + t) 1 = K := roc_bk (by omega)
  have hS3 : repC (zst (zst S2 9 (24 * r + t) 0) 9 (24 * r + t) 1) K := by
    have := rocC (c := 24 * r + t) (v := 1) hS'
    rw [hbk] at this; exact this
  have hM3 : repM (zst M2 10 (24 * r + t) 1) K := by
    have := rocM (c := 24 * r + t) (v := 1) hM2
    rw [hbk] at this; exact this
  have hl : f_X6_leastInkWithoutRock S1 S2 S3 A4 A5 A6 A7 A8 S9 (nI (24 * r + t)) = some (lstI (rocK K (24 * r + t) 0), zst (zst S2 9 (24 * r + t) 0) 9 (24 * r + t) 1, zst F 0 0 0) := by
    unfold f_X6_leastInkWithoutRock
    rw [hzx, zlet_eq, f1, Option.bind_some, e_allPlaces hS' (by omega), Option.bind_some, show nI (2 ^ rocK K (24 * r + t) 0 5 0 - 1) = nI (allK (rocK K (24 * r + t) 0)) from rfl, ink0 hK' f2 (by unfold allK; omega), Option.bind_some, wit_all, hzx, zlet_eq, zlet_eq]
  have x1 : f_X6_treeOf S1 S2 S3 S4 S5 S6 S7 S8 S9 4 = some (tag, A4, A5, A6, A7, A8) := x1
  rw [x1, Option.bind_some, b1, Option.bind_some]
  dsimp only
  rw [zlet_eq, g1, Option.bind_some, zlet_eq]
  dsimp only
  refine selQ (Q := fun c => chgQ S1 c _) x2 (fun T => if T 1 0 = 0 then some (-2, S2, A4, A5, A6, A7, A8) else ((f_X6_leastInkWithoutRock S1 S2 S3 A4 A5 A6 A7 A8 S9 (nI (24 * r + t))).bind fun r_5 => some (((T 2 0) - r_5.1), r_5.2.1, r_5.2.2, A5, A6, A7, A8))) ?_
  have x3 : drC K T (tr4 K) := x3
  cases ht : tr4 K with
  | none =>
    rw [if_pos (x3.2.1 ht), if_pos (tr4_n i1 ht)]
    exact ⟨_, _, _, _, _, _, _, M1, rfl, rfl, by rw [b3 0 (by decide) (by decide) (by decide), zst_same], K, i1, i2, hM1, tpR_f (b3 11 (by decide) (by decide) (by decide)) (b3 12 (by decide) (by decide) (by decide)) i4, x4⟩
  | some st =>
    obtain ⟨z1, z2, z3⟩ := x3.2.2 st ht
    obtain ⟨y1, y2⟩ := tr4_s i1 (b := st.1) (w := st.2) ht
    rw [if_neg (show ¬ T 1 0 = 0 by rw [z1]; decide), if_neg y2, hl, Option.bind_some, z2, ← y1]
    refine ⟨_, zst (zst S2 9 (24 * r + t) 0) 9 (24 * r + t) 1, zst F 0 0 0, _, _, _, _, zst M2 10 (24 * r + t) 1, rfl, rfl, ?_, K, i1, hS3, hM3, tpR_f ?_ ?_ i4, Or.inl (zst_same _ _ _ _), x4.2⟩
    · rw [zst_ne _ (by decide), g3 0 (by decide) (by decide) (by decide), zst_ne _ (by decide), b3 0 (by decide) (by decide) (by decide), zst_same]
    · rw [zst_ne _ (by decide), g3 11 (by decide) (by decide) (by decide), zst_ne _ (by decide), b3 11 (by decide) (by decide) (by decide)]
    · rw [zst_ne _ (by decide), g3 12 (by decide) (by decide) (by decide), zst_ne _ (by decide), b3 12 (by decide) (by decide) (by decide)]
end MBA
