/-! the methods of both: join, bars -/
section MJO
theorem cm_b {K : Nat → Nat → Nat} (hK : wfK K) (b w : Nat → Nat) (r t : Nat) : cmK K b w r t < 2 ^ 31 := by
  have hN := hK.1.2.2.2.1
  unfold cmK
  by_cases e : r = 0
  · rw [if_pos e]
    have := su_le (f := fun t => if b (24 * 1 + t) = 0 then 0 else 1) (B := 1) (K 1 0) (fun i _ => by split <;> decide)
    omega
  · rw [if_neg e]
    unfold cmc
    split <;> split <;> (repeat' split) <;> decide
theorem m_join {K : Nat → Nat → Nat} {S1 S2 S3 S4 S5 S6 S7 S8 S9 M : Nat → Nat → Int32} (hI : ivK K S1 S2 S4 S5 S6 S7 S8 M) (v1 v2 v3 : Int32) : treQ K S1 S2 (f_X6_join S1 S2 S3 S4 S5 S6 S7 S8 S9 v1 v2 v3) (f_X7_join M v1 v2 v3) := by
  obtain ⟨i1, i2, i3, i4, i5⟩ := ivK_0 hI
  unfold f_X7_join
  rw [zlet_eq]
  unfold f_X6_join
  rcases mn6 (zst M 0 0 0) v1 with ⟨a1, a2⟩ | ⟨m, rfl, n1, n2, a1, a2⟩
  · rw [a1, a2]; exact tre0 hI
  rw [a1, a2, Option.bind_some, Option.bind_some, if_neg (show ¬ (1 : Int32) = 0 by decide), if_neg (show ¬ (1 : Int32) = 0 by decide)]
  by_cases q : v2 < -1
  · rw [if_pos q, if_pos q]; exact tre0 hI
  rw [if_neg q, if_neg q]
  rcases wi6 (v := v3) (lo := 0) (hi := 2) (by decide) (by decide) with ⟨d1, d2⟩ | ⟨j, rfl, j1, j2, d1, d2⟩
  · rw [show f_X6_isWithin v3 0 2 = _ from d1, show f_X7_within v3 0 2 = _ from d2]; exact tre0 hI
  obtain ⟨tag, A4, A5, A6, A7, A8, T, f, M', x1, x2, x3, x4, x5, x6⟩ := tre (S3 := S3) (S9 := S9) hI n1 n2
  rw [show f_X6_isWithin (nI j) 0 2 = _ from d1, show f_X7_within (nI j) 0 2 = _ from d2, Option.bind_some, Option.bind_some, if_neg (show ¬ (1 : Int32) = 0 by decide), if_neg (show ¬ (1 : Int32) = 0 by decide), x1, Option.bind_some, x3, Option.bind_some]
  refine selQ (Q := fun c => treQ K S1 S2 c _) x2 (fun T => if T 1 0 = 0 then some (-2, A4, A5, A6, A7, A8) else (if v2 = (-1) then ((f_X5_joins T S2).bind fun r_5 => some (r_5, A4, A5, A6, A7, A8)) else ((f_X5_tellJoin T S2 v2 (nI j)).bind fun r_4 => some (r_4, A4, A5, A6, A7, A8)))) ?_
  dsimp only
  rcases x6 with ⟨z1, z2⟩ | ⟨b, w, z1, z2, z3, z4, z5, z6, _⟩
  · rw [if_pos z1, if_pos z2]
    exact ⟨_, _, _, _, _, _, M', rfl, rfl, x4, x5⟩
  · obtain ⟨hb, hw⟩ := bl i1 z4
    have hM' := x5.2.2.1
    have hcm : ∀ r t, r ≤ K 0 0 → t < wid K r → cmK K b w r t < 2 ^ 31 := fun r t _ _ => cm_b i1 b w r t
    have hmt : ∀ r t, r ≤ K 0 0 → t < wid K r → cmK K b w r t < 2 ^ 31 ∧ f_X7_manyTo M' (nI r) (nI t) = some (nI (cmK K b w r t)) := fun r t hr ht => ⟨hcm r t hr ht, e_manyTo i1 hM' z6 z4 hr ht⟩
    rw [if_neg (show ¬ T 1 0 = 0 by rw [z1]; decide), if_neg (show ¬ f = 0 by rw [z5]; decide), zlet_eq, hM'.1.1]
    by_cases e : v2 = -1
    · obtain ⟨g1, g2⟩ := e_joins i1 i2 z3 hb hw hcm (v := 1000) (Nat.le_refl _)
      have hv : ∀ n, n < 1000 → (nI n = v2 ↔ n = 1000) := fun n hn => ⟨fun z => absurd (z.trans e) (nI_nm1 (by omega)), fun z => by omega⟩
      rw [if_pos e, g1, Option.bind_some, e_joinM i1 hM' hmt hv, Option.bind_some, if_neg (show ¬ (jOut (cmK K b w) (wid K) 1000 (K 0 0 + 1) 0).1 = 0 by rw [g2]; decide)]
      dsimp only
      rw [if_neg (show ¬ (1 : Nat) = 0 by decide), if_pos e]
      exact ⟨_, _, _, _, _, _, M', rfl, rfl, x4, x5⟩
    · have h0 : ¬ v2 < 0 := by
        intro z
        rw [Int32.lt_iff_toInt_lt] at z q
        have h1 : (-1 : Int32).toInt = -1 := by decide
        have h2 : (0 : Int32).toInt = 0 := rfl
        have : v2.toInt = (-1 : Int32).toInt := by omega
        exact e (Int32.toInt_inj.mp this)
      obtain ⟨i, hi, rfl⟩ := nI_of h0
      have hv : ∀ n, n < 1000 → (nI n = nI i ↔ n = i) := fun n hn => nI_eq (by omega) hi
      rw [if_neg e, e_tellJoin i1 i2 z3 hb hw hcm hi (show j < 3 by omega), Option.bind_some, e_joinM i1 hM' hmt hv, Option.bind_some]
      unfold jAns
      by_cases y : (jOut (cmK K b w) (wid K) i (K 0 0 + 1) 0).1 = 0
      · rw [if_pos y, if_pos y]
        dsimp only
        rw [if_pos rfl]
        rcases (show j = 0 ∨ j = 1 ∨ j = 2 by omega) with rfl | rfl | rfl
        · rw [if_pos rfl, if_pos (show nI 0 = 0 from rfl)]
          exact ⟨_, _, _, _, _, _, M', rfl, rfl, x4, x5⟩
        · rw [if_neg (show ¬ (1 : Nat) = 0 by decide), if_pos rfl, if_neg (show ¬ nI 1 = 0 by decide), if_pos (show nI 1 = 1 from rfl)]
          exact ⟨_, _, _, _, _, _, M', rfl, rfl, x4, x5⟩
        · rw [if_neg (show ¬ (2 : Nat) = 0 by decide), if_neg (show ¬ (2 : Nat) = 1 by decide), if_neg (show ¬ nI 2 = 0 by decide), if_neg (show ¬ nI 2 = 1 by decide)]
          exact ⟨_, _, _, _, _, _, M', rfl, rfl, x4, x5⟩
      · rw [if_neg y, if_neg y]
        dsimp only
        rw [if_neg (show ¬ (1 : Nat) = 0 by decide), if_neg e]
        exact ⟨_, _, _, _, _, _, M', rfl, rfl, x4, x5⟩
/-- the ink of the least tree is the least ink -/
theorem tr4_n {K : Nat → Nat → Nat} (hK : wfK K) (h : tr4 K = none) : lstI K = -2 := by
  refine (lst_ne hK).mpr ?_
  unfold tr4 at h
  by_cases e : K 5 0 = 0
  · rw [if_pos e] at h; cases h
  · rw [if_neg e] at h
    by_cases q : (Bt K 0 0 (allK K)).1 < 1000000000
    · rw [if_pos q] at h; cases h
    · exact ⟨e, q⟩
theorem tr4_s {K : Nat → Nat → Nat} (hK : wfK K) {b w : Nat → Nat} (h : tr4 K = some (b, w)) : lstI K = nI (tink K b w) ∧ ¬ lstI K = -2 := by
  have hne : ¬ lstI K = -2 := by
    intro z
    obtain ⟨z1, z2⟩ := (lst_ne hK).mp z
    unfold tr4 at h
    rw [if_neg z1, if_neg z2] at h
    cases h
  refine ⟨?_, hne⟩
  unfold tr4 at h
  unfold lstI
  by_cases e : K 5 0 = 0
  · rw [if_pos e] at h ⊢
    cases h
    have : tink K (pb0 K) (fun _ => 3) = 0 := by
      unfold tink
      refine su_0 _ fun i _ => su_0 _ fun t _ => ?_
      unfold inkc pb0 pbK
      rw [if_pos (by rw [if_neg (by omega)])]
    rw [this]; rfl
  · rw [if_neg e] at h
    by_cases q : (Bt K 0 0 (allK K)).1 < 1000000000
    · rw [if_pos q] at h
      cases h
      have q' : (Bt K 0 0 (2 ^ K 5 0 - 1)).1 < 1000000000 := q
      rw [if_neg e, if_pos q', tink_E hK (vld_src hK e q)]
      rfl
    · rw [if_neg q] at h; cases h
end MJO
