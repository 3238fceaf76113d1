/-! joins: the class's and the reference's loops -/
section JOI
def rgI (r : Nat) : Int32 := if r = 0 then -1 else nI (r - 1)
theorem e_turnsOf {S1 : Nat → Nat → Int32} {K : Nat → Nat → Nat} (hC : repC S1 K) {r : Nat} (hr : r ≤ 9) : f_X1_turnsOf S1 (nI r) = some (nI (wid K r)) := by
  unfold f_X1_turnsOf wid
  by_cases e : r = 0
  · rw [e, if_pos nI_0, if_pos rfl]; rfl
  · rw [if_neg (nI_ne0 (by omega) (by omega)), if_neg e, hC.1 1 (by omega)]
theorem rg_m1 {r : Nat} : nI r + -1 = rgI r := by
  unfold rgI
  by_cases e : r = 0
  · rw [e, if_pos rfl]; rfl
  · obtain ⟨m, rfl⟩ : ∃ m, r = m + 1 := ⟨r - 1, by omega⟩
    rw [if_neg e, pk_m1]; rfl
theorem e_joins {T S1 : Nat → Nat → Int32} {K : Nat → Nat → Nat} {b w : Nat → Nat} (hK : wfK K) (hC : repC S1 K) (hT : treeC T b w) (hb : ∀ c, c < 240 → b c < 128) (hw : ∀ c, c < 240 → w c < 4) (hcm : ∀ r t, r ≤ K 0 0 → t < wid K r → cmK K b w r t < 2 ^ 31) {v : Nat} (hv : 1000 ≤ v) : f_X5_joins T S1 = some (nI (jOut (cmK K b w) (wid K) v (K 0 0 + 1) 0).2.1) ∧ (jOut (cmK K b w) (wid K) v (K 0 0 + 1) 0).1 = 1 := by
  have h9 := hK.1.2.1
  have inn : ∀ r, r ≤ K 0 0 → ∀ k t n fuel, t + k = wid K r → k < fuel → n + k < v → zloop (fun rec a => f_X5_joins_L14b T S1 (nI r) rec a) fuel (nI n, nI t) = some (nI (jIn (cmK K b w r) v k t n).2.1) := by
    intro r hr k
    have hwd := wid_le hK r
    induction k with
    | zero =>
      intro t n fuel h1 h2 h3
      obtain ⟨f, rfl⟩ : ∃ f, fuel = f + 1 := ⟨fuel - 1, by omega⟩
      show f_X5_joins_L14b T S1 (nI r) _ (nI n, nI t) = _
      unfold f_X5_joins_L14b jIn
      rw [e_turnsOf hC (by omega), Option.bind_some]
      exact ilep rfl rfl (by omega) (by omega)
    | succ k ih =>
      intro t n fuel h1 h2 h3
      obtain ⟨f, rfl⟩ : ∃ f, fuel = f + 1 := ⟨fuel - 1, by omega⟩
      show f_X5_joins_L14b T S1 (nI r) (zloop (fun rec a => f_X5_joins_L14b T S1 (nI r) rec a) f) (nI n, nI t) = _
      have hc := hcm r t hr (by omega)
      have ih' : ∀ t' n', t' + k = wid K r → n' + k < v → zloop (fun rec a => f_X5_joins_L14b T S1 (nI r) rec a) f (nI n', nI t') = some (nI (jIn (cmK K b w r) v k t' n').2.1) := fun t' n' q1 q2 => ih t' n' f q1 (by omega) q2
      generalize zloop (fun rec a => f_X5_joins_L14b T S1 (nI r) rec a) f = rec at ih' ⊢
      unfold f_X5_joins_L14b f_X5_joins_J39 jIn
      dsimp only
      rw [e_turnsOf hC (by omega), Option.bind_some, ilen rfl rfl (show t < wid K r by omega) (by omega), e_comers hK hC hT hb hw hr (by omega), Option.bind_some, nI_1, nI_1]
      by_cases e : cmK K b w r t < 2
      · rw [if_pos (show nI (cmK K b w r t) < 2 from nI_lt (b := 2) e (by omega)), if_pos e]; exact ih' (t + 1) n (by omega) (by omega)
      · rw [if_neg (show ¬ nI (cmK K b w r t) < 2 from nI_nlt (b := 2) (by omega) hc), if_neg e, if_neg (by omega)]; exact ih' (t + 1) (n + 1) (by omega) (by omega)
  have out : ∀ r n fuel, r ≤ K 0 0 + 1 → r < fuel → n + 24 * r < v → zloop (fun rec a => f_X5_joins_L7b T S1 rec a) fuel (nI n, rgI r) = some (nI (jOut (cmK K b w) (wid K) v r n).2.1) ∧ (jOut (cmK K b w) (wid K) v r n).1 = 1 := by
    intro r
    induction r with
    | zero =>
      intro n fuel _ h2 _
      obtain ⟨f, rfl⟩ : ∃ f, fuel = f + 1 := ⟨fuel - 1, by omega⟩
      exact ⟨rfl, rfl⟩
    | succ r ih =>
      intro n fuel h1 h2 h3
      obtain ⟨f, rfl⟩ : ∃ f, fuel = f + 1 := ⟨fuel - 1, by omega⟩
      have hwd := wid_le hK r
      obtain ⟨q1, q2⟩ := jIn_lt (cm := cmK K b w r) (v := v) (wid K r) 0 n (by omega)
      have hi := ih (jIn (cmK K b w r) v (wid K r) 0 n).2.1 f (by omega) (by omega) (by omega)
      unfold jOut
      rw [if_neg (by omega)]
      refine ⟨?_, hi.2⟩
      show f_X5_joins_L7b T S1 (zloop (fun rec a => f_X5_joins_L7b T S1 rec a) f) (nI n, nI r) = _
      unfold f_X5_joins_L7b
      dsimp only
      rw [if_neg (nI_pos (by omega))]
      have hz := inn r (by omega) (wid K r) 0 n zfuel (by omega) (by show _ < 1000; omega) (by omega)
      show (zloop (fun rec a => f_X5_joins_L14b T S1 (nI r) rec a) zfuel (nI n, nI 0)).bind _ = _
      rw [hz, Option.bind_some, rg_m1]
      exact hi.1
  obtain ⟨o1, o2⟩ := out (K 0 0 + 1) 0 zfuel (by omega) (by show _ < 1000; omega) (by omega)
  refine ⟨?_, o2⟩
  unfold f_X5_joins
  rw [zlet_eq, hC.1 0 (by omega)]
  show (zloop (fun rec a => f_X5_joins_L7b T S1 rec a) zfuel (nI 0, rgI (K 0 0 + 1))).bind _ = _
  rw [o1]; rfl
def jAns (y : Nat × Nat × Nat × Nat × Nat) (what : Nat) : Int32 := if y.1 = 0 then (if what = 0 then nI y.2.2.1 else if what = 1 then nI y.2.2.2.1 else nI y.2.2.2.2) else -1
theorem e_tellJoin {T S1 : Nat → Nat → Int32} {K : Nat → Nat → Nat} {b w : Nat → Nat} (hK : wfK K) (hC : repC S1 K) (hT : treeC T b w) (hb : ∀ c, c < 240 → b c < 128) (hw : ∀ c, c < 240 → w c < 4) (hcm : ∀ r t, r ≤ K 0 0 → t < wid K r → cmK K b w r t < 2 ^ 31) {i what : Nat} (hi : i < 2 ^ 31) (hwt : what < 3) : f_X5_tellJoin T S1 (nI i) (nI what) = some (jAns (jOut (cmK K b w) (wid K) i (K 0 0 + 1) 0) what) := by
  have h9 := hK.1.2.1
  have inn : ∀ r, r ≤ K 0 0 → ∀ k t n fuel, t + k = wid K r → k < fuel → n ≤ i → zloop (fun rec a => f_X5_tellJoin_L17b T S1 (nI what) (nI r) rec a) fuel (nI (i - n), nI t) = some (if (jIn (cmK K b w r) i k t n).1 = 0 then (0, 0, nI (jIn (cmK K b w r) i k t n).2.2.1, nI (jIn (cmK K b w r) i k t n).2.2.2) else (1, nI (i - (jIn (cmK K b w r) i k t n).2.1), 0, 0)) := by
    intro r hr k
    have hwd := wid_le hK r
    induction k with
    | zero =>
      intro t n fuel h1 h2 h3
      obtain ⟨f, rfl⟩ : ∃ f, fuel = f + 1 := ⟨fuel - 1, by omega⟩
      show f_X5_tellJoin_L17b T S1 (nI what) (nI r) _ (nI (i - n), nI t) = _
      unfold f_X5_tellJoin_L17b jIn
      rw [e_turnsOf hC (by omega), Option.bind_some]
      exact ilep rfl rfl (by omega) (by omega)
    | succ k ih =>
      intro t n fuel h1 h2 h3
      obtain ⟨f, rfl⟩ : ∃ f, fuel = f + 1 := ⟨fuel - 1, by omega⟩
      show f_X5_tellJoin_L17b T S1 (nI what) (nI r) (zloop (fun rec a => f_X5_tellJoin_L17b T S1 (nI what) (nI r) rec a) f) (nI (i - n), nI t) = _
      have hc := hcm r t hr (by omega)
      have ih' : ∀ t' n', t' + k = wid K r → n' ≤ i → zloop (fun rec a => f_X5_tellJoin_L17b T S1 (nI what) (nI r) rec a) f (nI (i - n'), nI t') = some (if (jIn (cmK K b w r) i k t' n').1 = 0 then (0, 0, nI (jIn (cmK K b w r) i k t' n').2.2.1, nI (jIn (cmK K b w r) i k t' n').2.2.2) else (1, nI (i - (jIn (cmK K b w r) i k t' n').2.1), 0, 0)) := fun t' n' q1 q2 => ih t' n' f q1 (by omega) q2
      generalize zloop (fun rec a => f_X5_tellJoin_L17b T S1 (nI what) (nI r) rec a) f = rec at ih' ⊢
      unfold f_X5_tellJoin_L17b f_X5_tellJoin_J72 f_X5_tellJoin_J85 jIn
      dsimp only
      rw [e_turnsOf hC (by omega), Option.bind_some, ilen rfl rfl (show t < wid K r by omega) (by omega), e_comers hK hC hT hb hw hr (by omega), Option.bind_some, nI_1]
      by_cases e : cmK K b w r t < 2
      · rw [if_pos (show nI (cmK K b w r t) < 2 from nI_lt (b := 2) e (by omega)), if_pos e]
        simp only [zlet_eq]
        rw [if_pos (show nI (cmK K b w r t) < 2 from nI_lt (b := 2) e (by omega)), Int32.sub_zero]
        exact ih' (t + 1) n (by omega) (by omega)
      · rw [if_neg (show ¬ nI (cmK K b w r t) < 2 from nI_nlt (b := 2) (by omega) hc), if_neg e]
        by_cases e2 : n = i
        · rw [if_pos (by rw [e2, Nat.sub_self]; rfl), if_pos e2]; rfl
        · rw [if_neg (nI_ne0 (by omega) (by omega)), if_neg e2]
          simp only [zlet_eq]
          rw [if_neg (show ¬ nI (cmK K b w r t) < 2 from nI_nlt (b := 2) (by omega) hc), show nI (i - n) - 1 = nI (i - (n + 1)) from pk_sub (a := i - n) (b := 1) (by omega)]
          exact ih' (t + 1) (n + 1) (by omega) (by omega)
  have out : ∀ r n fuel, r ≤ K 0 0 + 1 → r < fuel → n ≤ i → zloop (fun rec a => f_X5_tellJoin_L9b T S1 (nI what) rec a) fuel (nI (i - n), rgI r) = some (if (jOut (cmK K b w) (wid K) i r n).1 = 0 then (0, nI (jOut (cmK K b w) (wid K) i r n).2.2.1, nI (jOut (cmK K b w) (wid K) i r n).2.2.2.1, nI (jOut (cmK K b w) (wid K) i r n).2.2.2.2) else (1, 0, 0, 0)) := by
    intro r
    induction r with
    | zero =>
      intro n fuel _ h2 _
      obtain ⟨f, rfl⟩ : ∃ f, fuel = f + 1 := ⟨fuel - 1, by omega⟩
      rfl
    | succ r ih =>
      intro n fuel h1 h2 h3
      obtain ⟨f, rfl⟩ : ∃ f, fuel = f + 1 := ⟨fuel - 1, by omega⟩
      have hwd := wid_le hK r
      obtain ⟨q1, q2⟩ := jIn_le (cm := cmK K b w r) (v := i) (wid K r) 0 n h3
      have hz := inn r (by omega) (wid K r) 0 n zfuel (by omega) (by show _ < 1000; omega) h3
      unfold jOut
      show f_X5_tellJoin_L9b T S1 (nI what) (zloop (fun rec a => f_X5_tellJoin_L9b T S1 (nI what) rec a) f) (nI (i - n), nI r) = _
      unfold f_X5_tellJoin_L9b
      dsimp only
      rw [if_neg (nI_pos (by omega))]
      show (zloop (fun rec a => f_X5_tellJoin_L17b T S1 (nI what) (nI r) rec a) zfuel (nI (i - n), nI 0)).bind _ = _
      rw [hz, Option.bind_some]
      by_cases e : (jIn (cmK K b w r) i (wid K r) 0 n).1 = 0
      · rw [if_pos e, if_pos rfl, if_pos e]; rfl
      · rw [if_neg e, if_neg (show ¬ (1 : Nat) = 0 by decide), if_neg e, rg_m1]
        exact ih _ f (by omega) (by omega) q2
  have o1 := out (K 0 0 + 1) 0 zfuel (by omega) (by show _ < 1000; omega) (Nat.zero_le _)
  unfold f_X5_tellJoin jAns
  rw [zlet_eq, hC.1 0 (by omega)]
  show (zloop (fun rec a => f_X5_tellJoin_L9b T S1 (nI what) rec a) zfuel (nI (i - 0), rgI (K 0 0 + 1))).bind _ = _
  rw [o1, Option.bind_some]
  by_cases e : (jOut (cmK K b w) (wid K) i (K 0 0 + 1) 0).1 = 0
  · rw [if_pos e, if_pos e, if_pos rfl]
    by_cases e0 : what = 0
    · rw [e0, if_pos nI_0, if_pos rfl]
    · rw [if_neg (nI_ne0 (by omega) (by omega)), if_neg e0]
      by_cases e1 : what = 1
      · rw [e1, if_pos (by decide), if_pos rfl]
      · rw [if_neg (fun q => e1 ((nq1 (by omega)).mp q)), if_neg e1]
  · rw [if_neg e, if_neg e, if_neg (by decide)]
/-- the reference's loop, by what comes -/
theorem e_joinM {M : Nat → Nat → Int32} {K : Nat → Nat → Nat} {cm : Nat → Nat → Nat} (hK : wfK K) (hM : repM M K) (hmt : ∀ r t, r ≤ K 0 0 → t < wid K r → cm r t < 2 ^ 31 ∧ f_X7_manyTo M (nI r) (nI t) = some (nI (cm r t))) {v : Nat} {v2 v3 : Int32} (hv : ∀ n, n < 1000 → (nI n = v2 ↔ n = v)) : f_X7_join_L49 M v2 v3 zfuel (0, nI (K 0 0)) = some (if (jOut cm (wid K) v (K 0 0 + 1) 0).1 = 0 then (0, 0, nI (jOut cm (wid K) v (K 0 0 + 1) 0).2.2.1, nI (jOut cm (wid K) v (K 0 0 + 1) 0).2.2.2.1, nI (jOut cm (wid K) v (K 0 0 + 1) 0).2.2.2.2) else (1, nI (jOut cm (wid K) v (K 0 0 + 1) 0).2.1, 0, 0, 0)) := by
  have h9 := hK.1.2.1
  have jle : ∀ (c : Nat → Nat) k t n, (jIn c v k t n).2.1 ≤ n + k := by
    intro c k
    induction k with
    | zero => intro t n; exact Nat.le_refl _
    | succ k ih =>
      intro t n
      unfold jIn
      by_cases e : c t < 2
      · rw [if_pos e]; have := ih (t + 1) n; omega
      · rw [if_neg e]
        by_cases e2 : n = v
        · rw [if_pos e2]; exact Nat.zero_le _
        · rw [if_neg e2]; have := ih (t + 1) (n + 1); omega
  have hbr : ∀ (r t n : Nat) rec, r ≤ 9 → f_X7_join_L57b M v2 v3 (nI r) rec (nI n, nI t) = f_X7_join_J72 rec M v2 v3 (nI n) (nI r) (nI t) (nI t) (nI (wid K r)) := by
    intro r t n rec hr
    unfold f_X7_join_L57b wid
    dsimp only
    by_cases e : r = 0
    · rw [e, if_pos nI_0, if_pos rfl]; rfl
    · rw [if_neg (nI_ne0 (by omega) (by omega)), if_neg e, hM.1.2.1]
  have inn : ∀ r, r ≤ K 0 0 → ∀ k t n fuel, t + k = wid K r → k < fuel → n + k < 1000 → zloop (fun rec a => f_X7_join_L57b M v2 v3 (nI r) rec a) fuel (nI n, nI t) = some (if (jIn (cm r) v k t n).1 = 0 then (0, 0, nI (jIn (cm r) v k t n).2.2.1, nI (jIn (cm r) v k t n).2.2.2) else (1, nI (jIn (cm r) v k t n).2.1, 0, 0)) := by
    intro r hr k
    have hwd := wid_le hK r
    induction k with
    | zero =>
      intro t n fuel h1 h2 h3
      obtain ⟨f, rfl⟩ : ∃ f, fuel = f + 1 := ⟨fuel - 1, by omega⟩
      show f_X7_join_L57b M v2 v3 (nI r) _ (nI n, nI t) = _
      rw [hbr _ _ _ _ (by omega)]
      unfold f_X7_join_J72 jIn
      exact ilep rfl rfl (by omega) (by omega)
    | succ k ih =>
      intro t n fuel h1 h2 h3
      obtain ⟨f, rfl⟩ : ∃ f, fuel = f + 1 := ⟨fuel - 1, by omega⟩
      show f_X7_join_L57b M v2 v3 (nI r) (zloop (fun rec a => f_X7_join_L57b M v2 v3 (nI r) rec a) f) (nI n, nI t) = _
      obtain ⟨hc, hm⟩ := hmt r t hr (by omega)
      have ih' : ∀ t' n', t' + k = wid K r → n' + k < 1000 → zloop (fun rec a => f_X7_join_L57b M v2 v3 (nI r) rec a) f (nI n', nI t') = some (if (jIn (cm r) v k t' n').1 = 0 then (0, 0, nI (jIn (cm r) v k t' n').2.2.1, nI (jIn (cm r) v k t' n').2.2.2) else (1, nI (jIn (cm r) v k t' n').2.1, 0, 0)) := fun t' n' q1 q2 => ih t' n' f q1 (by omega) q2
      generalize zloop (fun rec a => f_X7_join_L57b M v2 v3 (nI r) rec a) f = rec at ih' ⊢
      rw [hbr _ _ _ _ (by omega)]
      unfold f_X7_join_J72 f_X7_join_J122 jIn
      rw [ilen rfl rfl (show t < wid K r by omega) (by omega), hm, Option.bind_some, nI_1, nI_1]
      by_cases e : cm r t < 2
      · rw [if_pos (show nI (cm r t) ≤ 1 from nI_le (b := 1) (by omega) (by omega)), if_pos e]; exact ih' (t + 1) n (by omega) (by omega)
      · rw [if_neg (show ¬ nI (cm r t) ≤ 1 from nI_ge (a := 1) (by omega) hc), if_neg e]
        by_cases e2 : n = v
        · rw [if_pos ((hv n (by omega)).mpr e2), if_pos e2]; rfl
        · rw [if_neg (fun q => e2 ((hv n (by omega)).mp q)), if_neg e2]; exact ih' (t + 1) (n + 1) (by omega) (by omega)
  have out : ∀ r n fuel, r ≤ K 0 0 + 1 → r < fuel → n + 24 * r < 1000 → zloop (fun rec a => f_X7_join_L49b M v2 v3 rec a) fuel (nI n, rgI r) = some (if (jOut cm (wid K) v r n).1 = 0 then (0, 0, nI (jOut cm (wid K) v r n).2.2.1, nI (jOut cm (wid K) v r n).2.2.2.1, nI (jOut cm (wid K) v r n).2.2.2.2) else (1, nI (jOut cm (wid K) v r n).2.1, 0, 0, 0)) := by
    intro r
    induction r with
    | zero =>
      intro n fuel _ h2 _
      obtain ⟨f, rfl⟩ : ∃ f, fuel = f + 1 := ⟨fuel - 1, by omega⟩
      rfl
    | succ r ih =>
      intro n fuel h1 h2 h3
      obtain ⟨f, rfl⟩ : ∃ f, fuel = f + 1 := ⟨fuel - 1, by omega⟩
      have hwd := wid_le hK r
      have q2 := jle (cm r) (wid K r) 0 n
      have hz := inn r (by omega) (wid K r) 0 n zfuel (by omega) (by show _ < 1000; omega) (by omega)
      unfold jOut
      show f_X7_join_L49b M v2 v3 (zloop (fun rec a => f_X7_join_L49b M v2 v3 rec a) f) (nI n, nI r) = _
      unfold f_X7_join_L49b
      dsimp only
      rw [if_neg (nI_pos (by omega))]
      show (zloop (fun rec a => f_X7_join_L57b M v2 v3 (nI r) rec a) zfuel (nI n, nI 0)).bind _ = _
      rw [hz, Option.bind_some]
      by_cases e : (jIn (cm r) v (wid K r) 0 n).1 = 0
      · rw [if_pos e, if_pos rfl, if_pos e]; rfl
      · rw [if_neg e, if_neg (show ¬ (1 : Nat) = 0 by decide), if_neg e, rg_m1]
        exact ih _ f (by omega) (by omega) (by omega)
  exact out (K 0 0 + 1) 0 zfuel (by omega) (by show _ < 1000; omega) (by omega)
end JOI
