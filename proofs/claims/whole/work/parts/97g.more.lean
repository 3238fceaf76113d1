/-! the methods of both: more -/
section MMO
def morQ (K : Nat → Nat → Nat) (S1 S2 : Nat → Nat → Int32) (c : Option (Int32 × (Nat → Nat → Int32) × (Nat → Nat → Int32) × (Nat → Nat → Int32) × (Nat → Nat → Int32) × (Nat → Nat → Int32) × (Nat → Nat → Int32))) (m : Option (Int32 × (Nat → Nat → Int32))) : Prop := ∃ x S4 S5 S6 S7 S8 S9 M, c = some (x, S4, S5, S6, S7, S8, S9) ∧ m = some (x, M) ∧ M 0 0 = 0 ∧ ivK K S1 S2 S4 S5 S6 S7 S8 M
theorem mor0 {K : Nat → Nat → Nat} {S1 S2 S4 S5 S6 S7 S8 S9 M : Nat → Nat → Int32} {x : Int32} (hI : ivK K S1 S2 S4 S5 S6 S7 S8 M) : morQ K S1 S2 (some (x, S4, S5, S6, S7, S8, S9)) (some (x, zst M 0 0 0)) := ⟨x, S4, S5, S6, S7, S8, S9, _, rfl, rfl, zst_same _ _ _ _, ivK_0 hI⟩
theorem z240 {α : Type} {f : Nat → Option α} : zix 0 240 f = f 0 := zix_nI (i := 0) (by decide) (by decide)
theorem m_more {K : Nat → Nat → Nat} {S1 S2 S3 S4 S5 S6 S7 S8 S9 M : Nat → Nat → Int32} (hI : ivK K S1 S2 S4 S5 S6 S7 S8 M) (v1 v2 v3 v4 : Int32) : morQ K S1 S2 (f_X6_more S1 S2 S3 S4 S5 S6 S7 S8 S9 v1 v2 v3 v4) (f_X7_more M v1 v2 v3 v4) := by
  obtain ⟨i1, i2, i3, i4, i5⟩ := ivK_0 hI
  obtain ⟨k1, k2, k3, k4, k5, k6, k7, k8, h7⟩ := i1.1
  unfold f_X7_more
  rw [zlet_eq]
  unfold f_X6_more
  rcases hc6 i1 i2 i3 v1 v2 with ⟨a1, a2, _⟩ | ⟨r, t, rfl, rfl, r1, r2, r3, a1, a2⟩
  · rw [a1, a2]; exact mor0 hI
  rw [a1, a2, Option.bind_some, Option.bind_some, if_neg (show ¬ (1 : Int32) = 0 by decide), if_neg (show ¬ (1 : Int32) = 0 by decide)]
  have hzx : ∀ {α : Type} (f : Nat → Option α), zix (nI (24 * r + t)) 240 f = f (24 * r + t) := fun f => zix_nI (by omega) (by decide)
  have hcl : (nI (24 * r + t)).toNatClampNeg = 24 * r + t := nI_clamp (by omega)
  simp only [e_cellOf, e_cellM, Option.bind_some, hzx, hcl]
  have hle := i1.2.2.2.1 (24 * r + t)
  by_cases q : K 9 (24 * r + t) = 0
  case neg =>
    rw [ieqn (i2.2.2 _ (by omega)) l_0 q (by omega) (by omega), ieqn (i3.2.2 _ (by omega)) l_0 q (by omega) (by omega)]
    rcases wi6 (v := v3) (lo := 1) (hi := 99) (by decide) (by decide) with ⟨d1, d2⟩ | ⟨a, rfl, n1, n2, d1, d2⟩
    · rw [show f_X6_isWithin v3 1 99 = _ from d1]; exact mor0 hI
    rw [show f_X6_isWithin (nI a) 1 99 = _ from d1, Option.bind_some, if_neg (show ¬ (1 : Int32) = 0 by decide)]
    rcases wi6 (v := v4) (lo := 0) (hi := 2) (by decide) (by decide) with ⟨d3, d4⟩ | ⟨j, rfl, n3, n4, d3, d4⟩
    · rw [show f_X6_isWithin v4 0 2 = _ from d3]; exact mor0 hI
    rw [show f_X6_isWithin (nI j) 0 2 = _ from d3, Option.bind_some, if_neg (show ¬ (1 : Int32) = 0 by decide)]
    exact mor0 hI
  rw [ieqp (i2.2.2 _ (by omega)) l_0 q, ieqp (i3.2.2 _ (by omega)) l_0 q]
  rcases wi6 (v := v3) (lo := 1) (hi := 99) (by decide) (by decide) with ⟨d1, d2⟩ | ⟨a, rfl, n1, n2, d1, d2⟩
  · rw [show f_X6_isWithin v3 1 99 = _ from d1, show f_X7_within v3 1 99 = _ from d2]; exact mor0 hI
  rw [show f_X6_isWithin (nI a) 1 99 = _ from d1, show f_X7_within (nI a) 1 99 = _ from d2, Option.bind_some, Option.bind_some, if_neg (show ¬ (1 : Int32) = 0 by decide), if_neg (show ¬ (1 : Int32) = 0 by decide)]
  rcases wi6 (v := v4) (lo := 0) (hi := 2) (by decide) (by decide) with ⟨d3, d4⟩ | ⟨j, rfl, n3, n4, d3, d4⟩
  · rw [show f_X6_isWithin v4 0 2 = _ from d3, show f_X7_within v4 0 2 = _ from d4]; exact mor0 hI
  rw [show f_X6_isWithin (nI j) 0 2 = _ from d3, show f_X7_within (nI j) 0 2 = _ from d4, Option.bind_some, Option.bind_some, if_neg (show ¬ (1 : Int32) = 0 by decide), if_neg (show ¬ (1 : Int32) = 0 by decide)]
  obtain ⟨tag, A4, A5, A6, A7, A8, T, f, M', x1, x2, x3, x4, x5, x6⟩ := tre (S3 := S3) (S9 := S9) hI (m := 4) (by decide) (by decide)
  rw [show f_X6_treeOf S1 S2 S3 S4 S5 S6 S7 S8 S9 4 = _ from x1, Option.bind_some, show f_X7_lays (zst M 0 0 0) 4 = _ from x3, Option.bind_some]
  refine selQ (Q := fun c => morQ K S1 S2 c _) x2 (fun T => if T 1 0 = 0 then some (-2, A4, A5, A6, A7, A8, S9) else ((f_X3_findWay S9 S2 T (nI r) (nI t) (nI a)).bind fun r_6 => if r_6.1 = 0 then (some ((-2), A4, A5, A6, A7, A8, r_6.2)) else (if nI j = 0 then (some ((r_6.2 0 0), A4, A5, A6, A7, A8, r_6.2)) else (if nI j = 1 then (some ((r_6.2 1 0), A4, A5, A6, A7, A8, r_6.2)) else (some ((r_6.2 2 0), A4, A5, A6, A7, A8, r_6.2)))))) ?_
  dsimp only
  rcases x6 with ⟨z1, z2⟩ | ⟨b, w, z1, z2, z3, z4, z5, z6, _⟩
  · rw [if_pos z1, if_pos z2]
    exact ⟨_, _, _, _, _, _, _, M', rfl, rfl, x4, x5⟩
  · have hM' := x5.2.2.1
    rw [if_neg (show ¬ T 1 0 = 0 by rw [z1]; decide), if_neg (show ¬ f = 0 by rw [z5]; decide), z240, zlet_eq, z240, zlet_eq, z240, zlet_eq]
    generalize hX : zst (zst (zst M' 32 0 0) 33 0 0) 34 0 0 = X
    have hXf : ∀ k, k < 32 → X k = M' k := fun k hk => by rw [← hX, zst_ne _ (by omega), zst_ne _ (by omega), zst_ne _ (by omega)]
    have hXT : treeM X K b w := fun c hc => by rw [hXf 26 (by decide), hXf 27 (by decide)]; exact z6 c hc
    have hX0 : mvM X 0 0 := by
      refine ⟨?_, fun _ => ⟨?_, ?_⟩⟩
      · rw [← hX, zst_ne _ (by decide), zst_ne _ (by decide), zst_same]; decide
      · rw [← hX, zst_ne _ (by decide), zst_same]; rfl
      · rw [← hX, zst_same]; rfl
    obtain ⟨M2, g1, g2, g3⟩ := e_moreL (v2 := nI t) (v4 := nI j) i1 (repM_f (fun k _ _ => hXf k (by omega)) hM') hXT z4 n2 r2 hX0
    obtain ⟨S9', p1, p2⟩ := e_findWay (S := S9) i1 i2 z3 z4 n1 n2 r1 r2 r3 q
    have hI2 : ivK K S1 S2 A4 A5 A6 A7 A8 M2 := ivK_f (fun k _ _ => by rw [g3 k (by omega) (by omega) (by omega), hXf k (by omega)]) x5
    have h20 : M2 0 0 = 0 := by rw [g3 0 (by decide) (by decide) (by decide), hXf 0 (by decide)]; exact x4
    obtain ⟨y1, y2⟩ := g2 r t r1 (Nat.le_refl _) r3
    obtain ⟨u1, u2⟩ := mv_inf i1 z4 n2 r t r2 r3
    rw [g1, Option.bind_some, p1, Option.bind_some]
    dsimp only
    by_cases hf : mvF K w a r t < INF
    · have hb := (u2 hf).1
      obtain ⟨y3, y4⟩ := y2 hf
      obtain ⟨p3, p4, p5⟩ := p2 hf
      rw [if_pos hf] at y1
      rw [if_pos hf, if_neg (show ¬ (1 : Int32) = 0 by decide), ieqn y1 l_far (by omega) (by omega) (by omega)]
      by_cases e0 : nI j = 0
      · rw [if_pos e0, if_pos e0, p3, y1]
        exact ⟨_, _, _, _, _, _, _, M2, rfl, rfl, h20, hI2⟩
      rw [if_neg e0, if_neg e0]
      by_cases e1 : nI j = 1
      · rw [if_pos e1, if_pos e1, p4, y3]
        exact ⟨_, _, _, _, _, _, _, M2, rfl, rfl, h20, hI2⟩
      rw [if_neg e1, if_neg e1, p5, y4]
      exact ⟨_, _, _, _, _, _, _, M2, rfl, rfl, h20, hI2⟩
    · rw [if_neg hf] at y1
      rw [if_neg hf, if_pos rfl, ieqp y1 l_far rfl]
      exact ⟨_, _, _, _, _, _, _, M2, rfl, rfl, h20, hI2⟩
end MMO
