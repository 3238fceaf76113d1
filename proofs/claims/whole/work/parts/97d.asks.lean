/-! the methods of both: width, step, borne, way, drawn -/
section MAS
theorem bl {K : Nat → Nat → Nat} (hK : wfK K) {b w : Nat → Nat} (hW : wfT K b w) : (∀ c, c < 240 → b c < 128) ∧ ∀ c, c < 240 → w c < 4 := by
  have h7 := hK.1.2.2.2.2.2.2.2.2
  have hpw : 2 ^ K 5 0 ≤ 128 := Nat.pow_le_pow_right (by decide) h7
  exact ⟨fun c hc => Nat.lt_of_lt_of_le (hW.1 c hc).1 hpw, fun c hc => (hW.1 c hc).2⟩
theorem m_width {K : Nat → Nat → Nat} {S1 S2 S3 S4 S5 S6 S7 S8 S9 M : Nat → Nat → Int32} (hI : ivK K S1 S2 S4 S5 S6 S7 S8 M) (v1 v2 v3 : Int32) : treQ K S1 S2 (f_X6_width S1 S2 S3 S4 S5 S6 S7 S8 S9 v1 v2 v3) (f_X7_width M v1 v2 v3) := by
  obtain ⟨i1, i2, i3, i4, i5⟩ := ivK_0 hI
  have h7 := i1.1.2.2.2.2.2.2.2.2
  have hR9 := i1.1.2.1
  have hN9 := i1.1.2.2.2.1
  unfold f_X7_width
  rw [zlet_eq]
  unfold f_X6_width
  rcases mn6 (zst M 0 0 0) v1 with ⟨a1, a2⟩ | ⟨m, rfl, n1, n2, a1, a2⟩
  · rw [a1, a2]; exact tre0 hI
  rw [a1, a2, Option.bind_some, Option.bind_some, if_neg (show ¬ (1 : Int32) = 0 by decide), if_neg (show ¬ (1 : Int32) = 0 by decide)]
  rcases ha6 i1 i2 i3 v2 v3 with ⟨c1, c2⟩ | ⟨r, t, rfl, rfl, r2, r3, c1, c2⟩
  · rw [c1, c2]; exact tre0 hI
  have hwd : t < 24 := by unfold wid at r3; split at r3 <;> omega
  obtain ⟨tag, A4, A5, A6, A7, A8, T, f, M', x1, x2, x3, x4, x5, x6⟩ := tre (S3 := S3) (S9 := S9) hI n1 n2
  rw [c1, c2, Option.bind_some, Option.bind_some, if_neg (show ¬ (1 : Int32) = 0 by decide), if_neg (show ¬ (1 : Int32) = 0 by decide), x1, Option.bind_some, x3, Option.bind_some]
  refine selQ (Q := fun c => treQ K S1 S2 c _) x2 (fun T => if T 1 0 = 0 then some (-2, A4, A5, A6, A7, A8) else ((f_X6_cellOf (nI r) (nI t)).bind fun r_4 => zix r_4 240 fun _ => (f_X1_amountOf S2 (T 3 (Int32.toNatClampNeg r_4))).bind fun r_5 => some (r_5, A4, A5, A6, A7, A8))) ?_
  dsimp only
  rcases x6 with ⟨z1, z2⟩ | ⟨b, w, z1, z2, z3, z4, z5, z6, _⟩
  · rw [if_pos z1, if_pos z2]
    exact ⟨_, _, _, _, _, _, M', rfl, rfl, x4, x5⟩
  · obtain ⟨hb, _⟩ := bl i1 z4
    rw [if_neg (show ¬ T 1 0 = 0 by rw [z1]; decide), if_neg (show ¬ f = 0 by rw [z5]; decide), e_cellOf, Option.bind_some, e_cellM, Option.bind_some, zix_nI (by omega) (by decide), zix_nI (by omega) (by decide), nI_clamp (by omega), (z3 _ (by omega)).1, e_amountOf i2 h7 (hb _ (by omega)), Option.bind_some, (z6 _ (by omega)).2]
    exact ⟨_, _, _, _, _, _, M', rfl, rfl, x4, x5⟩
theorem m_step {K : Nat → Nat → Nat} {S1 S2 S3 S4 S5 S6 S7 S8 S9 M : Nat → Nat → Int32} (hI : ivK K S1 S2 S4 S5 S6 S7 S8 M) (v1 v2 v3 : Int32) : treQ K S1 S2 (f_X6_step S1 S2 S3 S4 S5 S6 S7 S8 S9 v1 v2 v3) (f_X7_step M v1 v2 v3) := by
  obtain ⟨i1, i2, i3, i4, i5⟩ := ivK_0 hI
  have hR9 := i1.1.2.1
  have hN9 := i1.1.2.2.2.1
  unfold f_X7_step
  rw [zlet_eq]
  unfold f_X6_step
  rcases mn6 (zst M 0 0 0) v1 with ⟨a1, a2⟩ | ⟨m, rfl, n1, n2, a1, a2⟩
  · rw [a1, a2]; exact tre0 hI
  rw [a1, a2, Option.bind_some, Option.bind_some, if_neg (show ¬ (1 : Int32) = 0 by decide), if_neg (show ¬ (1 : Int32) = 0 by decide)]
  rcases ha6 i1 i2 i3 v2 v3 with ⟨c1, c2⟩ | ⟨r, t, rfl, rfl, r2, r3, c1, c2⟩
  · rw [c1, c2]; exact tre0 hI
  have hwd : t < 24 := by unfold wid at r3; split at r3 <;> omega
  obtain ⟨tag, A4, A5, A6, A7, A8, T, f, M', x1, x2, x3, x4, x5, x6⟩ := tre (S3 := S3) (S9 := S9) hI n1 n2
  rw [c1, c2, Option.bind_some, Option.bind_some, if_neg (show ¬ (1 : Int32) = 0 by decide), if_neg (show ¬ (1 : Int32) = 0 by decide), x1, Option.bind_some, x3, Option.bind_some]
  refine selQ (Q := fun c => treQ K S1 S2 c _) x2 (fun T => if T 1 0 = 0 then some (-2, A4, A5, A6, A7, A8) else ((f_X6_cellOf (nI r) (nI t)).bind fun r_4 => zix r_4 240 fun _ => some ((T 4 (Int32.toNatClampNeg r_4)), A4, A5, A6, A7, A8))) ?_
  dsimp only
  rcases x6 with ⟨z1, z2⟩ | ⟨b, w, z1, z2, z3, z4, z5, z6, _⟩
  · rw [if_pos z1, if_pos z2]
    exact ⟨_, _, _, _, _, _, M', rfl, rfl, x4, x5⟩
  · rw [if_neg (show ¬ T 1 0 = 0 by rw [z1]; decide), if_neg (show ¬ f = 0 by rw [z5]; decide), e_cellOf, Option.bind_some, zix_nI (by omega) (by decide), nI_clamp (by omega), (z3 _ (by omega)).2]
    by_cases e : r = 0
    · rw [ieqp rfl l_0 e, z4.2.1 _ (by omega)]
      exact ⟨_, _, _, _, _, _, M', rfl, rfl, x4, x5⟩
    · rw [ieqn rfl l_0 e (by omega) (by omega), e_cellM, Option.bind_some, zix_nI (by omega) (by decide), nI_clamp (by omega), (z6 _ (by omega)).1]
      exact ⟨_, _, _, _, _, _, M', rfl, rfl, x4, x5⟩
theorem m_borne {K : Nat → Nat → Nat} {S1 S2 S3 S4 S5 S6 S7 S8 S9 M : Nat → Nat → Int32} (hI : ivK K S1 S2 S4 S5 S6 S7 S8 M) (v1 v2 v3 : Int32) : treQ K S1 S2 (f_X6_borne S1 S2 S3 S4 S5 S6 S7 S8 S9 v1 v2 v3) (f_X7_borne M v1 v2 v3) := by
  obtain ⟨i1, i2, i3, i4, i5⟩ := ivK_0 hI
  have hR9 := i1.1.2.1
  have hN9 := i1.1.2.2.2.1
  unfold f_X7_borne
  rw [zlet_eq]
  unfold f_X6_borne
  rcases mn6 (zst M 0 0 0) v1 with ⟨a1, a2⟩ | ⟨m, rfl, n1, n2, a1, a2⟩
  · rw [a1, a2]; exact tre0 hI
  rw [a1, a2, Option.bind_some, Option.bind_some, if_neg (show ¬ (1 : Int32) = 0 by decide), if_neg (show ¬ (1 : Int32) = 0 by decide)]
  rcases hc6 i1 i2 i3 v2 v3 with ⟨c1, c2, _⟩ | ⟨r, t, rfl, rfl, r1, r2, r3, c1, c2⟩
  · rw [c1, c2]; exact tre0 hI
  obtain ⟨tag, A4, A5, A6, A7, A8, T, f, M', x1, x2, x3, x4, x5, x6⟩ := tre (S3 := S3) (S9 := S9) hI n1 n2
  rw [c1, c2, Option.bind_some, Option.bind_some, if_neg (show ¬ (1 : Int32) = 0 by decide), if_neg (show ¬ (1 : Int32) = 0 by decide), x1, Option.bind_some, x3, Option.bind_some]
  refine selQ (Q := fun c => treQ K S1 S2 c _) x2 (fun T => if T 1 0 = 0 then some (-2, A4, A5, A6, A7, A8) else ((f_X6_cellOf (nI r) (nI t)).bind fun r_4 => zix r_4 240 fun _ => some ((T 3 (Int32.toNatClampNeg r_4)), A4, A5, A6, A7, A8))) ?_
  dsimp only
  rcases x6 with ⟨z1, z2⟩ | ⟨b, w, z1, z2, z3, z4, z5, z6, _⟩
  · rw [if_pos z1, if_pos z2]
    exact ⟨_, _, _, _, _, _, M', rfl, rfl, x4, x5⟩
  · rw [if_neg (show ¬ T 1 0 = 0 by rw [z1]; decide), if_neg (show ¬ f = 0 by rw [z5]; decide), e_cellOf, Option.bind_some, zix_nI (by omega) (by decide), nI_clamp (by omega), (z3 _ (by omega)).1, e_borne i1 x5.2.2.1 z6 z4 r1 r2 r3, Option.bind_some]
    exact ⟨_, _, _, _, _, _, M', rfl, rfl, x4, x5⟩
theorem m_way {K : Nat → Nat → Nat} {S1 S2 S3 S4 S5 S6 S7 S8 S9 M : Nat → Nat → Int32} (hI : ivK K S1 S2 S4 S5 S6 S7 S8 M) (v1 v2 v3 : Int32) : treQ K S1 S2 (f_X6_way S1 S2 S3 S4 S5 S6 S7 S8 S9 v1 v2 v3) (f_X7_way M v1 v2 v3) := by
  obtain ⟨i1, i2, i3, i4, i5⟩ := ivK_0 hI
  have h7 := i1.1.2.2.2.2.2.2.2.2
  have hR9 := i1.1.2.1
  unfold f_X7_way
  rw [zlet_eq]
  unfold f_X6_way
  rcases mn6 (zst M 0 0 0) v1 with ⟨a1, a2⟩ | ⟨m, rfl, n1, n2, a1, a2⟩
  · rw [a1, a2]; exact tre0 hI
  rw [a1, a2, Option.bind_some, Option.bind_some, if_neg (show ¬ (1 : Int32) = 0 by decide), if_neg (show ¬ (1 : Int32) = 0 by decide), i3.1.2.2.2.2.2, i3.1.1, i2.1 0 (by decide)]
  rcases hp6 (S1 := S1) (S3 := S3) (S4 := S4) (S5 := S5) (S6 := S6) (S7 := S7) (S8 := S8) (S9 := S9) h7 (i2.1 5 (by decide)) v2 with ⟨c1, c2⟩ | ⟨g, hg, rfl, c1, c2⟩
  · rw [c1, c2]; exact tre0 hI
  rw [c1, c2, Option.bind_some, Option.bind_some, if_neg (show ¬ (1 : Int32) = 0 by decide), if_neg (show ¬ (1 : Int32) = 0 by decide)]
  rcases wi6 (v := v3) (lo := 0) (hi := K 0 0) (by decide) (by omega) with ⟨d1, d2⟩ | ⟨j, rfl, j1, j2, d1, d2⟩
  · rw [show f_X6_isWithin v3 0 (nI (K 0 0)) = _ from d1, show f_X7_within v3 0 (nI (K 0 0)) = _ from d2]; exact tre0 hI
  obtain ⟨tag, A4, A5, A6, A7, A8, T, f, M', x1, x2, x3, x4, x5, x6⟩ := tre (S3 := S3) (S9 := S9) hI n1 n2
  rw [show f_X6_isWithin (nI j) 0 (nI (K 0 0)) = _ from d1, show f_X7_within (nI j) 0 (nI (K 0 0)) = _ from d2, Option.bind_some, Option.bind_some, if_neg (show ¬ (1 : Int32) = 0 by decide), if_neg (show ¬ (1 : Int32) = 0 by decide), x1, Option.bind_some, x3, Option.bind_some]
  refine selQ (Q := fun c => treQ K S1 S2 c _) x2 (fun T => if T 1 0 = 0 then some (-2, A4, A5, A6, A7, A8) else (zix (nI g) 7 fun _ => if nI j ≤ (S2 6 (Int32.toNatClampNeg (nI g))) then ((f_X5_turnOnWay T S2 (nI g) (nI j)).bind fun r_5 => some (r_5, A4, A5, A6, A7, A8)) else (some ((-1), A4, A5, A6, A7, A8)))) ?_
  dsimp only
  rcases x6 with ⟨z1, z2⟩ | ⟨b, w, z1, z2, z3, z4, z5, z6, _⟩
  · rw [if_pos z1, if_pos z2]
    exact ⟨_, _, _, _, _, _, M', rfl, rfl, x4, x5⟩
  · obtain ⟨_, hw⟩ := bl i1 z4
    have hp := i1.2.1 g hg
    have hM' := x5.2.2.1
    rw [if_neg (show ¬ T 1 0 = 0 by rw [z1]; decide), if_neg (show ¬ f = 0 by rw [z5]; decide), zix_nI (by omega) (by decide), zix_nI (by omega) (by decide), nI_clamp (by omega)]
    by_cases q : j ≤ K 6 g
    · rw [ilep rfl (i2.2.1 6 g (by decide) (by decide) hg) q (by omega), ilep rfl (hM'.2.1 6 g (by decide) (by decide) hg) q (by omega), e_turnOnWay i1 i2 z3 hw hg q, e_turnAt i1 hM' z6 z4 hg q, Option.bind_some, Option.bind_some]
      exact ⟨_, _, _, _, _, _, M', rfl, rfl, x4, x5⟩
    · rw [ilen rfl (i2.2.1 6 g (by decide) (by decide) hg) (by omega) (by omega), ilen rfl (hM'.2.1 6 g (by decide) (by decide) hg) (by omega) (by omega)]
      exact ⟨_, _, _, _, _, _, M', rfl, rfl, x4, x5⟩
theorem m_drawn {K : Nat → Nat → Nat} {S1 S2 S3 S4 S5 S6 S7 S8 S9 M : Nat → Nat → Int32} (hI : ivK K S1 S2 S4 S5 S6 S7 S8 M) (v1 v2 : Int32) : treQ K S1 S2 (f_X6_drawn S1 S2 S3 S4 S5 S6 S7 S8 S9 v1 v2) (f_X7_drawn M v1 v2) := by
  obtain ⟨i1, i2, i3, i4, i5⟩ := ivK_0 hI
  unfold f_X7_drawn
  rw [zlet_eq]
  unfold f_X6_drawn
  rcases mn6 (zst M 0 0 0) v1 with ⟨a1, a2⟩ | ⟨m, rfl, n1, n2, a1, a2⟩
  · rw [a1, a2]; exact tre0 hI
  rw [a1, a2, Option.bind_some, Option.bind_some, if_neg (show ¬ (1 : Int32) = 0 by decide), if_neg (show ¬ (1 : Int32) = 0 by decide)]
  rcases wi6 (v := v2) (lo := 0) (hi := 4) (by decide) (by decide) with ⟨d1, d2⟩ | ⟨j, rfl, j1, j2, d1, d2⟩
  · rw [show f_X6_isWithin v2 0 4 = _ from d1, show f_X7_within v2 0 4 = _ from d2]; exact tre0 hI
  obtain ⟨tag, A4, A5, A6, A7, A8, T, f, M', x1, x2, x3, x4, x5, x6⟩ := tre (S3 := S3) (S9 := S9) hI n1 n2
  rw [show f_X6_isWithin (nI j) 0 4 = _ from d1, show f_X7_within (nI j) 0 4 = _ from d2, Option.bind_some, Option.bind_some, if_neg (show ¬ (1 : Int32) = 0 by decide), if_neg (show ¬ (1 : Int32) = 0 by decide), x1, Option.bind_some, x3, Option.bind_some]
  refine selQ (Q := fun c => treQ K S1 S2 c _) x2 (fun T => if T 1 0 = 0 then some (-2, A4, A5, A6, A7, A8) else (if nI j = 0 then ((f_X5_bends T).bind fun r_4 => some (r_4, A4, A5, A6, A7, A8)) else (if nI j = 1 then ((f_X5_couplesAcross T S2).bind fun r_5 => some (r_5, A4, A5, A6, A7, A8)) else (if nI j = 2 then ((f_X5_steps T S2).bind fun r_6 => some (r_6, A4, A5, A6, A7, A8)) else (if nI j = 3 then ((f_X5_mostOfOneRing T S2).bind fun r_7 => some (r_7, A4, A5, A6, A7, A8)) else ((f_X5_greatestWidth T S2).bind fun r_8 => some (r_8, A4, A5, A6, A7, A8))))))) ?_
  dsimp only
  rcases x6 with ⟨z1, z2⟩ | ⟨b, w, z1, z2, z3, z4, z5, z6, _⟩
  · rw [if_pos z1, if_pos z2]
    exact ⟨_, _, _, _, _, _, M', rfl, rfl, x4, x5⟩
  · obtain ⟨hb, hw⟩ := bl i1 z4
    have hM' := x5.2.2.1
    rw [if_neg (show ¬ T 1 0 = 0 by rw [z1]; decide), if_neg (show ¬ f = 0 by rw [z5]; decide)]
    by_cases e0 : nI j = 0
    · rw [if_pos e0, if_pos e0, e_bends z3 hw, e_bendsM z6 z4]
      exact ⟨_, _, _, _, _, _, M', rfl, rfl, x4, x5⟩
    rw [if_neg e0, if_neg e0]
    by_cases e1 : nI j = 1
    · rw [if_pos e1, if_pos e1, e_couples i1 i2 z3 hw, e_across i1 hM' z6 z4]
      exact ⟨_, _, _, _, _, _, M', rfl, rfl, x4, x5⟩
    rw [if_neg e1, if_neg e1]
    by_cases e2 : nI j = 2
    · rw [if_pos e2, if_pos e2, e_steps i1 i2 z3 hb, e_stepMany i1 z6 z4]
      exact ⟨_, _, _, _, _, _, M', rfl, rfl, x4, x5⟩
    rw [if_neg e2, if_neg e2]
    by_cases e3 : nI j = 3
    · rw [if_pos e3, if_pos e3, e_mostOf i1 i2 z3 hb, e_fullest i1 hM' z6 z4]
      exact ⟨_, _, _, _, _, _, M', rfl, rfl, x4, x5⟩
    rw [if_neg e3, if_neg e3]
    obtain ⟨g, g0, gs, ge⟩ := e_width i1 i2 z3 hb
    rw [ge, e_widest i1 z6 z4 g0 gs]
    exact ⟨_, _, _, _, _, _, M', rfl, rfl, x4, x5⟩
end MAS
