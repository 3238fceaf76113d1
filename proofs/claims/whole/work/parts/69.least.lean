/-! the least tree: what is told from a cell and a set on -/
section LST
def cnt (s : Nat) : Nat := ((List.range 7).filter (fun i => s.testBit i)).length
theorem cnt_pos : ∀ s, s < 128 → 0 < s → 1 ≤ cnt s ∧ cnt s ≤ 7 := by decide +kernel
theorem cnt_pts : ∀ s, s < 128 → ∀ p, p ∈ pts s → cnt p + cnt (s ^^^ p) = cnt s ∧ 1 ≤ cnt p ∧ 1 ≤ cnt (s ^^^ p) ∧ 0 < s ^^^ p := by decide +kernel
def vld (K : Nat → Nat → Nat) (r t s : Nat) : Prop := r ≤ K 0 0 ∧ t < wid K r ∧ 0 < s ∧ sb s (Rt K r t)
theorem vld_P {K : Nat → Nat → Nat} (hK : wfK K) {r t s : Nat} (h : vld K r t s) : s < 2 ^ K 5 0 ∧ s < 128 ∧ K 9 (24 * r + t) = 0 ∧ 24 * r + t < 240 ∧ t < 24 := by
  have h1 := sb_lt h.2.2.2 (Rt_lt K r t)
  have h2 := pw_le (wf7 hK)
  have h3 := wid_le hK r
  exact ⟨h1, by omega, Rt_rock hK h.1 (by have := h.2.2.1; omega) h.2.2.2, cellR hK h.1 h.2.1, by have := h.2.1; omega⟩
theorem vcase {K : Nat → Nat → Nat} (hK : wfK K) {r t s : Nat} (h : vld K r t s) :
    (s = pbK K r t ∧ Bt K r t s = (0, 0, 0)) ∨
    (∃ p, p ∈ pts s ∧ Bt K r t s = ((Bt K r t p).1 + (Bt K r t (s ^^^ p)).1, 1, p) ∧ vld K r t p ∧ vld K r t (s ^^^ p)) ∨
    (∃ x, x ∈ stx K r ∧ Bt K r t s = ((Bt K (r + 1) (frm K r t x) s).1 + lnx K r x * (K 2 0 + amtK K s), 2, x) ∧ vld K (r + 1) (frm K r t x) s) := by
  obtain ⟨p1, p2, p3, p4, p5⟩ := vld_P hK h
  rcases Bt_ch hK h.1 p3 h.2.2.1 p1 h.2.2.2 with ⟨q1, q2⟩ | ⟨_, p, q1, q2⟩ | ⟨_, x, q1, q2, q3⟩
  · exact Or.inl ⟨q1, q2⟩
  · obtain ⟨z1, z2, z3, z4, _⟩ := pts_ok s p2 p q1
    have z5 := (cnt_pts s p2 p q1).2.2.2
    rw [z3] at q2
    exact Or.inr (Or.inl ⟨p, q1, q2, ⟨h.1, h.2.1, z1, sb_tr z4 h.2.2.2⟩, ⟨h.1, h.2.1, z5, sb_tr (sb_xor z4) h.2.2.2⟩⟩)
  · have hr := stx_lt hK h.1 q1
    have hf := frm_lt h.2.1 q1
    exact Or.inr (Or.inr ⟨x, q1, q3, by omega, by unfold wid; rw [if_neg (by omega)]; exact hf, h.2.2.1, (Bt_ok hK h.2.2.1 p1).1.mp q2⟩)
theorem foInd {K : Nat → Nat → Nat} (hK : wfK K) (P : Nat → Nat → Nat → Prop)
    (h0 : ∀ r t s, vld K r t s → s = pbK K r t → Bt K r t s = (0, 0, 0) → P r t s)
    (h1 : ∀ r t s p, vld K r t s → p ∈ pts s → Bt K r t s = ((Bt K r t p).1 + (Bt K r t (s ^^^ p)).1, 1, p) → vld K r t p → vld K r t (s ^^^ p) → P r t p → P r t (s ^^^ p) → P r t s)
    (h2 : ∀ r t s x, vld K r t s → x ∈ stx K r → Bt K r t s = ((Bt K (r + 1) (frm K r t x) s).1 + lnx K r x * (K 2 0 + amtK K s), 2, x) → vld K (r + 1) (frm K r t x) s → P (r + 1) (frm K r t x) s → P r t s) : ∀ r t s, vld K r t s → P r t s := by
  have key : ∀ m r t s, vld K r t s → (K 0 0 - r) + cnt s ≤ m → P r t s := by
    intro m
    induction m with
    | zero =>
      intro r t s h hm
      have := (cnt_pos s (vld_P hK h).2.1 h.2.2.1).1
      omega
    | succ m ih =>
      intro r t s h hm
      rcases vcase hK h with ⟨q1, q2⟩ | ⟨p, q1, q2, q3, q4⟩ | ⟨x, q1, q2, q3⟩
      · exact h0 r t s h q1 q2
      · obtain ⟨c1, c2, c3, _⟩ := cnt_pts s (vld_P hK h).2.1 p q1
        exact h1 r t s p h q1 q2 q3 q4 (ih r t p q3 (by omega)) (ih r t (s ^^^ p) q4 (by omega))
      · have := q3.1
        exact h2 r t s x h q1 q2 q3 (ih (r + 1) _ s q3 (by omega))
  intro r t s h
  exact key _ r t s h (Nat.le_refl _)
abbrev zEn : Type := Nat × Nat × Nat × Nat
def fo (K : Nat → Nat → Nat) : Nat → Nat → Nat → Nat → List zEn
  | 0, _, _, _ => []
  | n + 1, r, t, s => if (Bt K r t s).2.1 = 0 then [] else if (Bt K r t s).2.1 = 1 then fo K n r t (Bt K r t s).2.2 ++ fo K n r t (s ^^^ (Bt K r t s).2.2) else (r + 1, frm K r t (Bt K r t s).2.2, s, sid r (Bt K r t s).2.2) :: fo K n (r + 1) (frm K r t (Bt K r t s).2.2) s
def im (K : Nat → Nat → Nat) : Nat → Nat → Nat → Nat → List zEn
  | 0, _, _, _ => []
  | n + 1, r, t, s => if (Bt K r t s).2.1 = 0 then [] else if (Bt K r t s).2.1 = 1 then im K n r t (s ^^^ (Bt K r t s).2.2) ++ im K n r t (Bt K r t s).2.2 else [(r + 1, frm K r t (Bt K r t s).2.2, s, sid r (Bt K r t s).2.2)]
def foF (K : Nat → Nat → Nat) (r s : Nat) : Nat := (K 0 0 - r) + cnt s
theorem foF_le {K : Nat → Nat → Nat} (hK : wfK K) {r t s : Nat} (h : vld K r t s) : 1 ≤ foF K r s ∧ foF K r s ≤ 16 := by
  have := cnt_pos s (vld_P hK h).2.1 h.2.2.1
  have := hK.1.2.1
  unfold foF; omega
theorem fo_st {K : Nat → Nat → Nat} (hK : wfK K) : ∀ r t s, vld K r t s → ∀ n m, foF K r s ≤ n → foF K r s ≤ m → fo K n r t s = fo K m r t s ∧ im K n r t s = im K m r t s := by
  refine foInd hK _ ?_ ?_ ?_
  · intro r t s h e hB n m hn hm
    have := foF_le hK h
    obtain ⟨n', rfl⟩ : ∃ n', n = n' + 1 := ⟨n - 1, by omega⟩
    obtain ⟨m', rfl⟩ : ∃ m', m = m' + 1 := ⟨m - 1, by omega⟩
    unfold fo im
    rw [hB]; exact ⟨rfl, rfl⟩
  · intro r t s p h hp hB v1 v2 i1 i2 n m hn hm
    have := foF_le hK h
    obtain ⟨c1, c2, c3, _⟩ := cnt_pts s (vld_P hK h).2.1 p hp
    obtain ⟨n', rfl⟩ : ∃ n', n = n' + 1 := ⟨n - 1, by omega⟩
    obtain ⟨m', rfl⟩ : ∃ m', m = m' + 1 := ⟨m - 1, by omega⟩
    unfold foF at *
    obtain ⟨a1, a2⟩ := i1 n' m' (by omega) (by omega)
    obtain ⟨b1, b2⟩ := i2 n' m' (by omega) (by omega)
    unfold fo im
    rw [hB]
    dsimp only
    rw [a1, a2, b1, b2]; exact ⟨rfl, rfl⟩
  · intro r t s x h hx hB v1 i1 n m hn hm
    have := foF_le hK h
    have hr := v1.1
    obtain ⟨n', rfl⟩ : ∃ n', n = n' + 1 := ⟨n - 1, by omega⟩
    obtain ⟨m', rfl⟩ : ∃ m', m = m' + 1 := ⟨m - 1, by omega⟩
    unfold foF at *
    obtain ⟨a1, _⟩ := i1 n' m' (by omega) (by omega)
    unfold fo im
    rw [hB]
    dsimp only
    rw [a1]; exact ⟨rfl, rfl⟩
/-- with fuel enough -/
def FO (K : Nat → Nat → Nat) (r t s : Nat) : List zEn := fo K 20 r t s
def IM (K : Nat → Nat → Nat) (r t s : Nat) : List zEn := im K 20 r t s
theorem FO_0 {K : Nat → Nat → Nat} {r t s : Nat} (hB : Bt K r t s = (0, 0, 0)) : FO K r t s = [] ∧ IM K r t s = [] := by
  unfold FO IM fo im
  rw [hB]; exact ⟨rfl, rfl⟩
theorem FO_1 {K : Nat → Nat → Nat} (hK : wfK K) {r t s p v : Nat} (h : vld K r t s) (hp : p ∈ pts s) (hB : Bt K r t s = (v, 1, p)) (v1 : vld K r t p) (v2 : vld K r t (s ^^^ p)) : FO K r t s = FO K r t p ++ FO K r t (s ^^^ p) ∧ IM K r t s = IM K r t (s ^^^ p) ++ IM K r t p := by
  have f1 := foF_le hK v1
  have f2 := foF_le hK v2
  obtain ⟨a1, a2⟩ := fo_st hK r t p v1 19 20 (by omega) (by omega)
  obtain ⟨b1, b2⟩ := fo_st hK r t (s ^^^ p) v2 19 20 (by omega) (by omega)
  unfold FO IM
  rw [← a1, ← a2, ← b1, ← b2]
  show fo K (19 + 1) r t s = _ ∧ im K (19 + 1) r t s = _
  rw [fo, im, hB]; exact ⟨rfl, rfl⟩
theorem FO_2 {K : Nat → Nat → Nat} (hK : wfK K) {r t s x v : Nat} (hB : Bt K r t s = (v, 2, x)) (v1 : vld K (r + 1) (frm K r t x) s) : FO K r t s = (r + 1, frm K r t x, s, sid r x) :: FO K (r + 1) (frm K r t x) s ∧ IM K r t s = [(r + 1, frm K r t x, s, sid r x)] := by
  have f1 := foF_le hK v1
  obtain ⟨a1, _⟩ := fo_st hK _ _ _ v1 19 20 (by omega) (by omega)
  unfold FO IM
  rw [← a1]
  show fo K (19 + 1) r t s = _ ∧ im K (19 + 1) r t s = _
  rw [fo, im, hB]; exact ⟨rfl, rfl⟩
/-- an entry: a cell outwards, its set, its side -/
def ent (K : Nat → Nat → Nat) (r s : Nat) (q : zEn) : Prop := r < q.1 ∧ vld K q.1 q.2.1 q.2.2.1 ∧ q.2.1 < K 1 0 ∧ sb q.2.2.1 s ∧ q.2.2.2 < 3 ∧ (q.1 = 1 → q.2.2.2 = 0)
theorem FO_ent {K : Nat → Nat → Nat} (hK : wfK K) : ∀ r t s, vld K r t s → ∀ q, q ∈ FO K r t s → ent K r s q := by
  refine foInd hK _ ?_ ?_ ?_
  · intro r t s h e hB q hq; rw [(FO_0 hB).1] at hq; exact absurd hq List.not_mem_nil
  · intro r t s p h hp hB v1 v2 i1 i2 q hq
    rw [(FO_1 hK h hp hB v1 v2).1] at hq
    have hps : sb p s := (pts_ok s (vld_P hK h).2.1 p hp).2.2.2.1
    rcases List.mem_append.mp hq with q1 | q1
    · obtain ⟨a, b, c, d, e⟩ := i1 q q1; exact ⟨a, b, c, sb_tr d hps, e⟩
    · obtain ⟨a, b, c, d, e⟩ := i2 q q1; exact ⟨a, b, c, sb_tr d (sb_xor hps), e⟩
  · intro r t s x h hx hB v1 i1 q hq
    rw [(FO_2 hK hB v1).1] at hq
    rcases List.mem_cons.mp hq with rfl | q1
    · refine ⟨Nat.lt_succ_self r, v1, frm_lt h.2.1 hx, sb_rf s, sid_lt r x, fun z => ?_⟩
      have : r = 0 := by have z' : r + 1 = 1 := z; omega
      show sid r x = 0
      unfold sid; rw [if_pos this]
    · obtain ⟨a, b, c, d, e⟩ := i1 q q1; exact ⟨by omega, b, c, d, e⟩
theorem IM_sp {K : Nat → Nat → Nat} (hK : wfK K) : ∀ r t s, vld K r t s → (∀ q, q ∈ IM K r t s → q.1 = r + 1 ∧ sb q.2.2.1 s ∧ (1 ≤ r → t < K 1 0 → nb (K 1 0) q.2.1 q.2.2.2 = t)) ∧ (∀ p, p < K 5 0 → s.testBit p = true → (K 6 p = r ∧ K 7 p = t) ∨ ∃ q, q ∈ IM K r t s ∧ q.2.2.1.testBit p = true) := by
  refine foInd hK _ ?_ ?_ ?_
  · intro r t s h e hB
    rw [(FO_0 hB).2]
    refine ⟨fun q hq => absurd hq List.not_mem_nil, fun p hp hb => Or.inl ?_⟩
    rw [e] at hb
    unfold pbK at hb
    by_cases q : plc K r t < K 5 0
    · rw [if_pos q, Nat.testBit_two_pow] at hb
      have : plc K r t = p := by simpa using hb
      exact (plc_iff hK hp).mp this
    · rw [if_neg q, Nat.zero_testBit] at hb; cases hb
  · intro r t s p h hp hB v1 v2 i1 i2
    rw [(FO_1 hK h hp hB v1 v2).2]
    have hps : sb p s := (pts_ok s (vld_P hK h).2.1 p hp).2.2.2.1
    refine ⟨fun q hq => ?_, fun j hj hb => ?_⟩
    · rcases List.mem_append.mp hq with q1 | q1
      · obtain ⟨a, b, c⟩ := i2.1 q q1; exact ⟨a, sb_tr b (sb_xor hps), c⟩
      · obtain ⟨a, b, c⟩ := i1.1 q q1; exact ⟨a, sb_tr b hps, c⟩
    · have : p.testBit j = true ∨ (s ^^^ p).testBit j = true := by
        rw [Nat.testBit_xor, hb]; cases p.testBit j <;> simp
      rcases this with z | z
      · rcases i1.2 j hj z with y | ⟨q, y1, y2⟩
        · exact Or.inl y
        · exact Or.inr ⟨q, List.mem_append.mpr (Or.inr y1), y2⟩
      · rcases i2.2 j hj z with y | ⟨q, y1, y2⟩
        · exact Or.inl y
        · exact Or.inr ⟨q, List.mem_append.mpr (Or.inl y1), y2⟩
  · intro r t s x h hx hB v1 i1
    rw [(FO_2 hK hB v1).2]
    refine ⟨fun q hq => ?_, fun p hp hb => Or.inr ⟨_, List.mem_singleton.mpr rfl, hb⟩⟩
    rw [List.mem_singleton.mp hq]
    refine ⟨rfl, sb_rf s, fun hr1 ht => ?_⟩
    show nb (K 1 0) (frm K r t x) (sid r x) = t
    have hR := stx_lt hK h.1 hx
    unfold stx at hx
    rw [if_neg (by omega), if_pos hR] at hx
    have hx' : x = 0 ∨ x = 1 ∨ x = 2 := by simpa using hx
    unfold frm sid
    rw [if_neg (by omega), if_neg (by omega)]
    rcases hx' with rfl | rfl | rfl
    · rfl
    · rw [if_pos rfl]; exact (nb_inv2 ht (nb_lt 1 ht)).mpr rfl
    · rw [if_neg (by decide), if_pos rfl]; exact (nb_inv1 ht (nb_lt 2 ht)).mpr rfl
/-- an entry is told by the cell itself or by another entry -/
theorem FO_lev {K : Nat → Nat → Nat} (hK : wfK K) : ∀ r t s, vld K r t s → ∀ q, q ∈ FO K r t s ↔ (q ∈ IM K r t s ∨ ∃ q', q' ∈ FO K r t s ∧ q ∈ IM K q'.1 q'.2.1 q'.2.2.1) := by
  refine foInd hK _ ?_ ?_ ?_
  · intro r t s h e hB q
    rw [(FO_0 hB).1, (FO_0 hB).2]
    exact ⟨fun z => absurd z List.not_mem_nil, fun z => z.elim id (fun ⟨_, y, _⟩ => absurd y List.not_mem_nil)⟩
  · intro r t s p h hp hB v1 v2 i1 i2 q
    obtain ⟨f1, f2⟩ := FO_1 hK h hp hB v1 v2
    rw [f1, f2]
    constructor
    · intro z
      rcases List.mem_append.mp z with y | y
      · rcases (i1 q).mp y with x | ⟨q', x1, x2⟩
        · exact Or.inl (List.mem_append.mpr (Or.inr x))
        · exact Or.inr ⟨q', List.mem_append.mpr (Or.inl x1), x2⟩
      · rcases (i2 q).mp y with x | ⟨q', x1, x2⟩
        · exact Or.inl (List.mem_append.mpr (Or.inl x))
        · exact Or.inr ⟨q', List.mem_append.mpr (Or.inr x1), x2⟩
    · rintro (z | ⟨q', z1, z2⟩)
      · rcases List.mem_append.mp z with y | y
        · exact List.mem_append.mpr (Or.inr ((i2 q).mpr (Or.inl y)))
        · exact List.mem_append.mpr (Or.inl ((i1 q).mpr (Or.inl y)))
      · rcases List.mem_append.mp z1 with y | y
        · exact List.mem_append.mpr (Or.inl ((i1 q).mpr (Or.inr ⟨q', y, z2⟩)))
        · exact List.mem_append.mpr (Or.inr ((i2 q).mpr (Or.inr ⟨q', y, z2⟩)))
  · intro r t s x h hx hB v1 i1 q
    obtain ⟨f1, f2⟩ := FO_2 hK hB v1
    rw [f1, f2]
    constructor
    · intro z
      rcases List.mem_cons.mp z with rfl | y
      · exact Or.inl (List.mem_singleton.mpr rfl)
      · rcases (i1 q).mp y with w | ⟨q', w1, w2⟩
        · exact Or.inr ⟨_, List.mem_cons_self, w⟩
        · exact Or.inr ⟨q', List.mem_cons_of_mem _ w1, w2⟩
    · rintro (z | ⟨q', z1, z2⟩)
      · rw [List.mem_singleton.mp z]; exact List.mem_cons_self
      · rcases List.mem_cons.mp z1 with rfl | y
        · exact List.mem_cons_of_mem _ ((i1 q).mpr (Or.inl z2))
        · exact List.mem_cons_of_mem _ ((i1 q).mpr (Or.inr ⟨q', y, z2⟩))
/-- each place of the set has its cell told -/
theorem FO_plc {K : Nat → Nat → Nat} (hK : wfK K) : ∀ r t s, vld K r t s → ∀ p, p < K 5 0 → s.testBit p = true → (K 6 p = r ∧ K 7 p = t) ∨ ∃ q, q ∈ FO K r t s ∧ q.1 = K 6 p ∧ q.2.1 = K 7 p ∧ q.2.2.1.testBit p = true := by
  refine foInd hK _ ?_ ?_ ?_
  · intro r t s h e hB p hp hb
    exact ((IM_sp hK r t s h).2 p hp hb).imp id (fun ⟨q, hq, _⟩ => by rw [(FO_0 hB).2] at hq; exact absurd hq List.not_mem_nil)
  · intro r t s p h hp hB v1 v2 i1 i2 j hj hb
    rw [(FO_1 hK h hp hB v1 v2).1]
    have : p.testBit j = true ∨ (s ^^^ p).testBit j = true := by
      rw [Nat.testBit_xor, hb]; cases p.testBit j <;> simp
    rcases this with z | z
    · rcases i1 j hj z with y | ⟨q, y1, y2⟩
      · exact Or.inl y
      · exact Or.inr ⟨q, List.mem_append.mpr (Or.inl y1), y2⟩
    · rcases i2 j hj z with y | ⟨q, y1, y2⟩
      · exact Or.inl y
      · exact Or.inr ⟨q, List.mem_append.mpr (Or.inr y1), y2⟩
  · intro r t s x h hx hB v1 i1 p hp hb
    rw [(FO_2 hK hB v1).1]
    rcases i1 p hp hb with y | ⟨q, y1, y2⟩
    · exact Or.inr ⟨_, List.mem_cons_self, y.1.symm, y.2.symm, hb⟩
    · exact Or.inr ⟨q, List.mem_cons_of_mem _ y1, y2⟩
/-- no cell is told twice -/
theorem FO_nodup {K : Nat → Nat → Nat} (hK : wfK K) {r t s : Nat} (h : vld K r t s) : ((FO K r t s).map (fun q => 24 * q.1 + q.2.1)).Nodup := by
  have hm : ∀ r t s, vld K r t s → ∀ n, (fo K n r t s).map (fun q => 24 * q.1 + q.2.1) = (fol (chK K) n (24 * r + t) s).map (fun q => q.1) := by
    have key : ∀ n r t s, vld K r t s → (fo K n r t s).map (fun q => 24 * q.1 + q.2.1) = (fol (chK K) n (24 * r + t) s).map (fun q => q.1) := by
      intro n
      induction n with
      | zero => intro r t s _; rfl
      | succ n ih =>
        intro r t s h
        have hch := chK_eq hK h.2.1 (s := s)
        rw [fo, fol, hch]
        rcases vcase hK h with ⟨q1, q2⟩ | ⟨p, q1, q2, q3, q4⟩ | ⟨x, q1, q2, q3⟩
        · rw [q2]; rfl
        · rw [q2]
          simp only [if_neg (show ¬ (1 : Nat) = 0 by decide), if_neg (show ¬ (1 : Nat) = 2 by decide), if_pos (show (1 : Nat) = 1 from rfl), if_true]
          rw [List.map_append, List.map_append, ih r t p q3, ih r t (s ^^^ p) q4]
        · rw [q2]
          simp only [if_neg (show ¬ (2 : Nat) = 0 by decide), if_neg (show ¬ (2 : Nat) = 1 by decide), if_pos (show (2 : Nat) = 2 from rfl), if_true, if_neg (show ¬ (2 : Nat) = 0 by decide), if_neg (show ¬ (2 : Nat) = 1 by decide)]
          rw [List.map_cons, List.map_cons, ih _ _ _ q3, List.map_map]
          rfl
    exact fun r t s h n => key n r t s h
  unfold FO
  rw [hm r t s h 20]
  refine fol_nodup (zdpK hK) 20 (24 * r + t) s (by have := h.2.2.1; omega) ?_
  rw [RK_eq hK h.1 h.2.1]; exact h.2.2.2
theorem FO_uniq {K : Nat → Nat → Nat} (hK : wfK K) {r t s : Nat} (h : vld K r t s) {q q' : zEn} (hq : q ∈ FO K r t s) (hq' : q' ∈ FO K r t s) (he : 24 * q.1 + q.2.1 = 24 * q'.1 + q'.2.1) : q = q' := by
  have hn := FO_nodup hK h
  have key : ∀ l : List zEn, (l.map (fun q : zEn => 24 * q.1 + q.2.1)).Nodup → ∀ a, a ∈ l → ∀ c, c ∈ l → 24 * a.1 + a.2.1 = 24 * c.1 + c.2.1 → a = c := by
    intro l
    induction l with
    | nil => intro _ a ha; exact absurd ha List.not_mem_nil
    | cons x xs ih =>
      intro hn a ha c hc hac
      rw [List.map_cons, List.nodup_cons] at hn
      rcases List.mem_cons.mp ha with e1 | h1
      · rcases List.mem_cons.mp hc with e2 | h2
        · rw [e1, e2]
        · exact absurd (List.mem_map.mpr ⟨c, h2, by rw [← e1]; exact hac.symm⟩) hn.1
      · rcases List.mem_cons.mp hc with e2 | h2
        · exact absurd (List.mem_map.mpr ⟨a, h1, by rw [← e2]; exact hac⟩) hn.1
        · exact ih hn.2 a h1 c h2 hac
  exact key _ hn q hq q' hq' he
/-- the ink of what is told -/
theorem FO_ink {K : Nat → Nat → Nat} (hK : wfK K) : ∀ r t s, vld K r t s → ((FO K r t s).map (fun q => lns K q.2.2.2 * (K 2 0 + amtK K q.2.2.1))).sum = (Bt K r t s).1 := by
  refine foInd hK _ ?_ ?_ ?_
  · intro r t s h e hB; rw [(FO_0 hB).1, hB]; rfl
  · intro r t s p h hp hB v1 v2 i1 i2
    rw [(FO_1 hK h hp hB v1 v2).1, List.map_append, List.sum_append, i1, i2, hB]
  · intro r t s x h hx hB v1 i1
    rw [(FO_2 hK hB v1).1, List.map_cons, List.sum_cons, i1, hB]
    have hl : lns K (sid r x) = lnx K r x := by
      obtain ⟨q1, q2⟩ := stx_sid hx
      unfold lns
      by_cases e : sid r x = 0
      · rw [if_pos e, q1 e]
      · rw [if_neg e, q2 e]
    show lns K (sid r x) * (K 2 0 + amtK K s) + _ = _
    rw [hl]; omega
end LST
