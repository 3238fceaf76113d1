/-! the methods of both: the trees; ink, width, step, borne -/
section MTR
def trm (K : Nat → Nat → Nat) (m : Nat) : Option zT := if m = 1 then tr1 K else if m = 2 then tr2 K else if m = 3 then tr3 K else tr4 K
theorem trm_wf {K : Nat → Nat → Nat} (hK : wfK K) {m : Nat} {st : zT} (h : trm K m = some st) : wfT K st.1 st.2 := by
  unfold trm at h
  by_cases e1 : m = 1
  · rw [if_pos e1] at h; exact gAll_wf hK (okS K) h
  rw [if_neg e1] at h
  by_cases e2 : m = 2
  · rw [if_pos e2] at h; exact gAll_wf hK (okL hK) h
  rw [if_neg e2] at h
  by_cases e3 : m = 3
  · rw [if_pos e3] at h; exact tr3_wf hK h
  rw [if_neg e3] at h; exact tr4_wf hK h
def selT (tag : Nat) (S5 S6 S7 S8 T : Nat → Nat → Int32) : Prop := (tag = 5 ∧ T = S5) ∨ (tag = 6 ∧ T = S6) ∨ (tag = 7 ∧ T = S7) ∨ (tag = 8 ∧ T = S8)
theorem selQ {α : Type} {Q : α → Prop} {tag : Nat} {S5 S6 S7 S8 T : Nat → Nat → Int32} (hs : selT tag S5 S6 S7 S8 T) (A : (Nat → Nat → Int32) → α) (h : Q (A T)) : Q (if tag = 5 then A S5 else if tag = 6 then A S6 else if tag = 7 then A S7 else A S8) := by
  rcases hs with ⟨rfl, rfl⟩ | ⟨rfl, rfl⟩ | ⟨rfl, rfl⟩ | ⟨rfl, rfl⟩ <;> exact h
def drs (K : Nat → Nat → Nat) (S4 S5 S6 S7 S8 : Nat → Nat → Int32) : Prop := (S4 0 0 = 0 ∨ tabF S4 K) ∧ (S5 0 0 = 0 ∨ drC K S5 (tr1 K)) ∧ (S6 0 0 = 0 ∨ drC K S6 (tr2 K)) ∧ (S7 0 0 = 0 ∨ drC K S7 (tr3 K)) ∧ (S8 0 0 = 0 ∨ drC K S8 (tr4 K))
theorem treC {K : Nat → Nat → Nat} {S1 S2 S3 S4 S5 S6 S7 S8 S9 : Nat → Nat → Int32} (hK : wfK K) (hS : repC S2 K) (h : drs K S4 S5 S6 S7 S8) {m : Nat} (h1 : 1 ≤ m) (h4 : m ≤ 4) : ∃ tag S4' S5' S6' S7' S8' T, f_X6_treeOf S1 S2 S3 S4 S5 S6 S7 S8 S9 (nI m) = some (tag, S4', S5', S6', S7', S8') ∧ selT tag S5' S6' S7' S8' T ∧ drC K T (trm K m) ∧ drs K S4' S5' S6' S7' S8' := by
  obtain ⟨d4, d5, d6, d7, d8⟩ := h
  unfold f_X6_treeOf
  by_cases e1 : m = 1
  · rw [ieqp rfl l_1 e1]
    have ht : trm K m = tr1 K := by unfold trm; rw [if_pos e1]
    rw [ht]
    by_cases q : S5 0 0 = 0
    · obtain ⟨T', x1, x2⟩ := e_drawStraight (T := S5) hK hS
      rw [if_pos q, x1, Option.bind_some]
      exact ⟨5, S4, T', S6, S7, S8, T', rfl, Or.inl ⟨rfl, rfl⟩, x2, d4, Or.inr x2, d6, d7, d8⟩
    · rw [if_neg q]
      exact ⟨5, S4, S5, S6, S7, S8, S5, rfl, Or.inl ⟨rfl, rfl⟩, d5.resolve_left q, d4, d5, d6, d7, d8⟩
  rw [ieqn rfl l_1 e1 (by omega) (by omega)]
  by_cases e4 : m = 4
  · rw [ieqp rfl l_4 e4]
    have ht : trm K m = tr4 K := by unfold trm; rw [if_neg (by omega), if_neg (by omega), if_neg (by omega)]
    rw [ht]
    have hJ : ∀ X, (S8 0 0 = 0 → tabF X K) → (X 0 0 = 0 ∨ tabF X K) → ∃ tag S4' S5' S6' S7' S8' T, f_X6_treeOf_J67 S1 S2 S3 X S5 S6 S7 S8 S9 = some (tag, S4', S5', S6', S7', S8') ∧ selT tag S5' S6' S7' S8' T ∧ drC K T (tr4 K) ∧ drs K S4' S5' S6' S7' S8' := by
      intro X hX hX2
      unfold f_X6_treeOf_J67
      by_cases q : S8 0 0 = 0
      · obtain ⟨X', T', x1, x2, x3, x4⟩ := e_drawLeast (T := S8) hK hS (hX q)
        rw [if_pos q, x1, Option.bind_some]
        exact ⟨8, X', S5, S6, S7, T', T', rfl, Or.inr (Or.inr (Or.inr ⟨rfl, rfl⟩)), x4, Or.inr x2, d5, d6, d7, Or.inr x4⟩
      · rw [if_neg q]
        exact ⟨8, X, S5, S6, S7, S8, S8, rfl, Or.inr (Or.inr (Or.inr ⟨rfl, rfl⟩)), d8.resolve_left q, hX2, d5, d6, d7, d8⟩
    by_cases q4 : S4 0 0 = 0
    · rw [if_pos q4]
      by_cases q8 : S8 0 0 = 0
      · obtain ⟨X, x1, x2, _⟩ := e_fill (S := S4) hK hS
        rw [if_pos q8, x1, Option.bind_some]
        exact hJ X (fun _ => x2) (Or.inr x2)
      · rw [if_neg q8]
        exact hJ S4 (fun z => absurd z q8) d4
    · rw [if_neg q4]
      exact hJ S4 (fun _ => d4.resolve_left q4) d4
  rw [ieqn rfl l_4 e4 (by omega) (by omega)]
  have hJ : ∀ L, drC K L (tr2 K) → ∃ tag S4' S5' S6' S7' S8' T, f_X6_treeOf_J118 S1 S2 S3 S4 S5 L S7 S8 S9 (nI m) = some (tag, S4', S5', S6', S7', S8') ∧ selT tag S5' S6' S7' S8' T ∧ drC K T (trm K m) ∧ drs K S4' S5' S6' S7' S8' := by
    intro L hL
    unfold f_X6_treeOf_J118 f_X6_treeOf_J148
    by_cases e3 : m = 3
    · have ht : trm K m = tr3 K := by unfold trm; rw [if_neg (by omega), if_neg (by omega), if_pos e3]
      rw [ht]
      simp only [show nI m = 3 by rw [e3]; rfl, if_pos]
      by_cases q : S7 0 0 = 0
      · obtain ⟨T', x1, x2⟩ := e_drawStraightened (T := S7) hK hS hL
        rw [if_pos q, x1, Option.bind_some]
        exact ⟨7, S4, S5, L, T', S8, T', rfl, Or.inr (Or.inr (Or.inl ⟨rfl, rfl⟩)), x2, d4, d5, Or.inr hL, Or.inr x2, d8⟩
      · rw [if_neg q]
        exact ⟨7, S4, S5, L, S7, S8, S7, rfl, Or.inr (Or.inr (Or.inl ⟨rfl, rfl⟩)), d7.resolve_left q, d4, d5, Or.inr hL, d7, d8⟩
    · have ht : trm K m = tr2 K := by unfold trm; rw [if_neg (by omega), if_pos (by omega)]
      have h3 : ¬ nI m = 3 := fun z => e3 ((nI_eq (b := 3) (by omega) (by decide)).mp z)
      rw [ht, if_neg h3, if_neg h3]
      exact ⟨6, S4, S5, L, S7, S8, L, rfl, Or.inr (Or.inl ⟨rfl, rfl⟩), hL, d4, d5, Or.inr hL, d7, d8⟩
  by_cases q : S6 0 0 = 0
  · obtain ⟨T', x1, x2⟩ := e_drawLean (T := S6) hK hS
    rw [if_pos q, x1, Option.bind_some]
    exact hJ T' x2
  · rw [if_neg q]
    exact hJ S6 (d6.resolve_left q)
theorem layM {K : Nat → Nat → Nat} {M : Nat → Nat → Int32} (hK : wfK K) (hM : repM M K) {m : Nat} (h1 : 1 ≤ m) (h4 : m ≤ 4) : ∃ f M', f_X7_lays M (nI m) = some (f, M') ∧ drM K M' f (trm K m) ∧ ∀ k, k < 26 → M' k = M k := by
  obtain ⟨M1, c1, c2, c3⟩ := e_clears hK hM
  have hM1 : repM M1 K := repM_f (fun k _ _ => c3 k (by omega) (by omega)) hM
  have hz : ∀ {f : Int32} {M' : Nat → Nat → Int32} {o : Option zT}, drM K M' f o → zbo f (some (f, M')) = some (f, M') := by
    intro f M' o hd
    cases o with
    | none => rw [hd.1 rfl, zbo_0]
    | some st => rw [(hd.2 st rfl).1, zbo_1]
  unfold f_X7_lays trm
  rw [c1, Option.bind_some]
  by_cases e1 : m = 1
  · obtain ⟨f, M', x1, x2, x3⟩ := e_laysStraight hK hM1 c2
    rw [ieqp rfl l_1 e1, if_pos e1, x1, Option.bind_some]
    exact ⟨f, M', hz x2, x2, fun k hk => by rw [x3 k (by omega) (by omega), c3 k (by omega) (by omega)]⟩
  rw [ieqn rfl l_1 e1 (by omega) (by omega), if_neg e1]
  by_cases e2 : m = 2
  · obtain ⟨f, M', x1, x2, x3⟩ := e_laysLean hK hM1 c2
    rw [ieqp rfl l_2 e2, if_pos e2, x1, Option.bind_some]
    exact ⟨f, M', hz x2, x2, fun k hk => by rw [x3 k (by omega) (by omega), c3 k (by omega) (by omega)]⟩
  rw [ieqn rfl l_2 e2 (by omega) (by omega), if_neg e2]
  by_cases e3 : m = 3
  · obtain ⟨f, M', x1, x2, x3⟩ := e_laysStraightened hK hM1 c2
    rw [ieqp rfl l_3 e3, if_pos e3, x1, Option.bind_some]
    exact ⟨f, M', hz x2, x2, fun k hk => by rw [x3 k (by omega) (by omega), c3 k (by omega) (by omega)]⟩
  rw [ieqn rfl l_3 e3 (by omega) (by omega), if_neg e3]
  obtain ⟨f, M', x1, x2, x3⟩ := e_laysLeast hK hM1 c2
  rw [x1, Option.bind_some]
  exact ⟨f, M', hz x2, x2, fun k hk => by rw [x3 k (by omega) (by omega) (by omega) (by omega) (by omega), c3 k (by omega) (by omega)]⟩
/-- what a method that asks a tree keeps -/
def treQ (K : Nat → Nat → Nat) (S1 S2 : Nat → Nat → Int32) (c : Option (Int32 × (Nat → Nat → Int32) × (Nat → Nat → Int32) × (Nat → Nat → Int32) × (Nat → Nat → Int32) × (Nat → Nat → Int32))) (m : Option (Int32 × (Nat → Nat → Int32))) : Prop := ∃ x S4 S5 S6 S7 S8 M, c = some (x, S4, S5, S6, S7, S8) ∧ m = some (x, M) ∧ M 0 0 = 0 ∧ ivK K S1 S2 S4 S5 S6 S7 S8 M
theorem tre0 {K : Nat → Nat → Nat} {S1 S2 S4 S5 S6 S7 S8 M : Nat → Nat → Int32} {x : Int32} (hI : ivK K S1 S2 S4 S5 S6 S7 S8 M) : treQ K S1 S2 (some (x, S4, S5, S6, S7, S8)) (some (x, zst M 0 0 0)) := ⟨x, S4, S5, S6, S7, S8, _, rfl, rfl, zst_same _ _ _ _, ivK_0 hI⟩
theorem tre {K : Nat → Nat → Nat} {S1 S2 S3 S4 S5 S6 S7 S8 S9 M : Nat → Nat → Int32} (hI : ivK K S1 S2 S4 S5 S6 S7 S8 M) {m : Nat} (h1 : 1 ≤ m) (h4 : m ≤ 4) : ∃ tag S4' S5' S6' S7' S8' T f M', f_X6_treeOf S1 S2 S3 S4 S5 S6 S7 S8 S9 (nI m) = some (tag, S4', S5', S6', S7', S8') ∧ selT tag S5' S6' S7' S8' T ∧ f_X7_lays (zst M 0 0 0) (nI m) = some (f, M') ∧ M' 0 0 = 0 ∧ ivK K S1 S2 S4' S5' S6' S7' S8' M' ∧ ((T 1 0 = 0 ∧ f = 0) ∨ ∃ b w, T 1 0 = 1 ∧ T 2 0 = nI (tink K b w) ∧ treeC T b w ∧ wfT K b w ∧ f = 1 ∧ treeM M' K b w ∧ trm K m = some (b, w)) := by
  obtain ⟨i1, i2, i3, i4, i5⟩ := ivK_0 hI
  obtain ⟨tag, A4, A5, A6, A7, A8, T, x1, x2, x3, x4⟩ := treC (S1 := S1) (S3 := S3) (S9 := S9) i1 i2 i5 h1 h4
  obtain ⟨f, M', y1, y2, y3⟩ := layM i1 i3 h1 h4
  refine ⟨tag, A4, A5, A6, A7, A8, T, f, M', x1, x2, y1, by rw [y3 0 (by decide), zst_same], ⟨i1, i2, repM_f (fun k _ _ => y3 k (by omega)) i3, tpR_f (y3 11 (by decide)) (y3 12 (by decide)) i4, x4⟩, ?_⟩
  cases ht : trm K m with
  | none => exact Or.inl ⟨x3.2.1 ht, y2.1 ht⟩
  | some st =>
    obtain ⟨z1, z2, z3⟩ := x3.2.2 st ht
    obtain ⟨u1, u2⟩ := y2.2 st ht
    exact Or.inr ⟨st.1, st.2, z1, z2, z3, trm_wf i1 ht, u1, u2, rfl⟩
theorem mn6 (M : Nat → Nat → Int32) (v : Int32) : (f_X6_isTreeManner v = some 0 ∧ f_X7_isManner M v = some 0) ∨ ∃ m, v = nI m ∧ 1 ≤ m ∧ m ≤ 4 ∧ f_X6_isTreeManner v = some 1 ∧ f_X7_isManner M v = some 1 := by
  unfold f_X6_isTreeManner f_X7_isManner
  rcases wi6 (v := v) (lo := 1) (hi := 4) (by decide) (by decide) with ⟨a1, a2⟩ | ⟨m, rfl, n1, n2, a1, a2⟩
  · rw [show f_X6_isWithin v 1 4 = _ from a1, show f_X7_within v 1 4 = _ from a2, Option.bind_some, zbo_0]
    exact Or.inl ⟨rfl, rfl⟩
  · rw [show f_X6_isWithin (nI m) 1 4 = _ from a1, show f_X7_within (nI m) 1 4 = _ from a2, Option.bind_some, zbo_1]
    exact Or.inr ⟨m, rfl, n1, n2, rfl, rfl⟩
theorem m_ink {K : Nat → Nat → Nat} {S1 S2 S3 S4 S5 S6 S7 S8 S9 M : Nat → Nat → Int32} (hI : ivK K S1 S2 S4 S5 S6 S7 S8 M) (v1 : Int32) : treQ K S1 S2 (f_X6_ink S1 S2 S3 S4 S5 S6 S7 S8 S9 v1) (f_X7_ink M v1) := by
  unfold f_X7_ink
  rw [zlet_eq]
  unfold f_X6_ink
  by_cases e0 : v1 = 0
  · obtain ⟨i1, i2, i3, i4, i5, i6⟩ := ivK_0 hI
    obtain ⟨x, S4', M1, a0, a1, a2, a3, a4, a5⟩ := allA (S1 := S1) (S3 := S3) (S5 := S5) (S6 := S6) (S7 := S7) (S8 := S8) (S9 := S9) i1 i2 i5 i3
    rw [if_pos e0, a0, Option.bind_some, a1, e0, show f_X7_within 0 0 4 = some 1 from rfl, Option.bind_some, Option.bind_some, if_neg (show ¬ (1 : Int32) = 0 by decide), if_pos rfl, a2, Option.bind_some]
    exact ⟨x, S4', S5, S6, S7, S8, M1, rfl, rfl, by rw [a4 0 (by decide), zst_same], i1, i2, repM_f (fun k _ _ => a4 k (by omega)) i3, tpR_f (a4 11 (by decide)) (a4 12 (by decide)) i4, Or.inr a3, i6⟩
  rw [if_neg e0]
  rcases mn6 M v1 with ⟨a1, a2⟩ | ⟨m, rfl, n1, n2, a1, a2⟩
  · have hw : f_X7_within v1 0 4 = some 0 := by
      rcases wi6 (v := v1) (lo := 0) (hi := 4) (by decide) (by decide) with ⟨_, b2⟩ | ⟨m, rfl, n1, n2, _, b2⟩
      · exact b2
      · unfold f_X6_isTreeManner f_X6_isWithin at a1
        have h0 : m ≠ 0 := fun z => e0 (by rw [z]; rfl)
        rw [iltn (y := 1) (b := 1) rfl rfl (by omega) (by omega), iltn (x := 4) (a := 4) rfl rfl n2 (by decide), Option.bind_some, zbo_1] at a1
        exact absurd a1 (by decide)
    rw [a1, hw]; exact tre0 hI
  · have hw : f_X7_within (nI m) 0 4 = some 1 := by
      unfold f_X7_within
      rw [if_neg (nI_pos (by omega)), iltn (x := 4) (a := 4) rfl rfl n2 (by decide)]
    obtain ⟨tag, A4, A5, A6, A7, A8, T, f, M', x1, x2, x3, x4, x5, x6⟩ := tre (S3 := S3) (S9 := S9) hI n1 n2
    rw [a1, hw, Option.bind_some, Option.bind_some, if_neg (show ¬ (1 : Int32) = 0 by decide), if_neg (show ¬ (1 : Int32) = 0 by decide), if_neg e0, x1, Option.bind_some, x3, Option.bind_some]
    refine selQ (Q := fun c => treQ K S1 S2 c _) x2 (fun T => if T 1 0 = 0 then some (-2, A4, A5, A6, A7, A8) else some (T 2 0, A4, A5, A6, A7, A8)) ?_
    dsimp only
    rcases x6 with ⟨z1, z2⟩ | ⟨b, w, z1, z2, z3, z4, z5, z6, _⟩
    · rw [if_pos z1, if_pos z2]
      exact ⟨_, _, _, _, _, _, M', rfl, rfl, x4, x5⟩
    · rw [if_neg (show ¬ T 1 0 = 0 by rw [z1]; decide), if_neg (show ¬ f = 0 by rw [z5]; decide), z2, e_inkNow x5.1 x5.2.2.1 z6 z4, Option.bind_some]
      exact ⟨_, _, _, _, _, _, M', rfl, rfl, x4, x5⟩
end MTR
