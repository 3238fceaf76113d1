/-! the least tree, and the reference's follows -/
section LS2
def allK (K : Nat → Nat → Nat) : Nat := 2 ^ K 5 0 - 1
def EE (K : Nat → Nat → Nat) : List zEn := FO K 0 0 (allK K)
def kc (q : zEn) : Nat := 24 * q.1 + q.2.1
def look (l : List zEn) (c : Nat) : Option zEn := l.find? (fun q => decide (kc q = c))
def bE (K : Nat → Nat → Nat) (c : Nat) : Nat := if c = 0 then allK K else (((look (EE K) c).map (fun q => q.2.2.1)).getD 0)
def wE (K : Nat → Nat → Nat) (c : Nat) : Nat := ((look (EE K) c).map (fun q => q.2.2.2)).getD 3
def tr4 (K : Nat → Nat → Nat) : Option zT := if K 5 0 = 0 then some (pb0 K, fun _ => 3) else if (Bt K 0 0 (allK K)).1 < 1000000000 then some (bE K, wE K) else none
theorem look_in {l : List zEn} {c : Nat} {q : zEn} (h : look l c = some q) : q ∈ l ∧ kc q = c := by
  unfold look at h
  have h2 := List.find?_some h
  exact ⟨List.mem_of_find?_eq_some h, by simpa using h2⟩
theorem look_no {l : List zEn} {c : Nat} (h : look l c = none) : ∀ q, q ∈ l → kc q ≠ c := by
  unfold look at h
  intro q hq
  have := List.find?_eq_none.mp h q hq
  exact fun z => this (decide_eq_true z)
theorem vld_src {K : Nat → Nat → Nat} (hK : wfK K) (h0 : K 5 0 ≠ 0) (hf : (Bt K 0 0 (allK K)).1 < 1000000000) : vld K 0 0 (allK K) := by
  have h1 : 1 < 2 ^ K 5 0 := Nat.one_lt_two_pow (by omega)
  have ha : 0 < allK K ∧ allK K < 2 ^ K 5 0 := by unfold allK; omega
  refine ⟨Nat.zero_le _, by unfold wid; rw [if_pos rfl]; decide, ha.1, (Bt_ok hK ha.1 ha.2).1.mp hf⟩
theorem lookE {K : Nat → Nat → Nat} (hK : wfK K) (hv : vld K 0 0 (allK K)) {q : zEn} (hq : q ∈ EE K) : look (EE K) (kc q) = some q := by
  cases h : look (EE K) (kc q) with
  | none => exact absurd rfl (look_no h q hq)
  | some q' =>
    obtain ⟨a1, a2⟩ := look_in h
    rw [FO_uniq hK hv a1 hq a2]
theorem EE_ent {K : Nat → Nat → Nat} (hK : wfK K) (hv : vld K 0 0 (allK K)) {q : zEn} (hq : q ∈ EE K) : ent K 0 (allK K) q ∧ 24 ≤ kc q ∧ kc q < 240 ∧ kc q / 24 = q.1 ∧ kc q % 24 = q.2.1 ∧ 0 < q.2.2.1 ∧ q.2.2.1 < 2 ^ K 5 0 := by
  have h := FO_ent hK 0 0 _ hv q hq
  obtain ⟨a, b, c, d, e, f⟩ := h
  obtain ⟨p1, p2, p3, p4, p5⟩ := vld_P hK b
  refine ⟨⟨a, b, c, d, e, f⟩, ?_, p4, ?_, ?_, b.2.2.1, p1⟩
  · unfold kc; omega
  · unfold kc; omega
  · unfold kc; omega
theorem bw_in {K : Nat → Nat → Nat} (hK : wfK K) (hv : vld K 0 0 (allK K)) {q : zEn} (hq : q ∈ EE K) : bE K (kc q) = q.2.2.1 ∧ wE K (kc q) = q.2.2.2 := by
  have h := (EE_ent hK hv hq).2.1
  unfold bE wE
  rw [if_neg (by omega), lookE hK hv hq]; exact ⟨rfl, rfl⟩
theorem bw_out {K : Nat → Nat → Nat} {c : Nat} (h : ∀ q, q ∈ EE K → kc q ≠ c) : (c ≠ 0 → bE K c = 0) ∧ wE K c = 3 := by
  have hl : look (EE K) c = none := by
    cases h' : look (EE K) c with
    | none => rfl
    | some q => obtain ⟨a1, a2⟩ := look_in h'; exact absurd a2 (h q a1)
  unfold bE wE
  rw [hl]
  exact ⟨fun z => if_neg z, rfl⟩
theorem ee_cases (K : Nat → Nat → Nat) (c : Nat) : (∃ q, q ∈ EE K ∧ kc q = c) ∨ ∀ q, q ∈ EE K → kc q ≠ c := by
  cases h : look (EE K) c with
  | none => exact Or.inr (look_no h)
  | some q => exact Or.inl ⟨q, look_in h⟩
theorem all_bit {K : Nat → Nat → Nat} {p : Nat} (hp : p < K 5 0) : (allK K).testBit p = true := by
  unfold allK; rw [Nat.testBit_two_pow_sub_one]; exact decide_eq_true hp
theorem tr4_wf1 {K : Nat → Nat → Nat} (hK : wfK K) (hv : vld K 0 0 (allK K)) : wfT K (bE K) (wE K) := by
  have h9 := hK.1.2.1
  have h24 := hK.1.2.2.2.1
  have hP1 : allK K < 2 ^ K 5 0 := (vld_P hK hv).1
  refine ⟨fun c hc => ?_, fun c hc => ?_, fun c hc24 hc => ?_, fun r t hr1 hr ht p hp => ?_⟩
  · rcases ee_cases K c with ⟨q, hq, rfl⟩ | h
    · obtain ⟨b1, b2⟩ := bw_in hK hv hq
      obtain ⟨e1, e2, e3, e4, e5, e6, e7⟩ := EE_ent hK hv hq
      rw [b1, b2]; exact ⟨e7, by have := e1.2.2.2.2.1; omega⟩
    · obtain ⟨b1, b2⟩ := bw_out h
      rw [b2]
      refine ⟨?_, by decide⟩
      by_cases z : c = 0
      · unfold bE; rw [if_pos z]; exact hP1
      · rw [b1 z]; exact Nat.pos_of_ne_zero (by simp)
  · rcases ee_cases K c with ⟨q, hq, rfl⟩ | h
    · have := (EE_ent hK hv hq).2.1; omega
    · exact (bw_out h).2
  · rcases ee_cases K c with ⟨q, hq, rfl⟩ | h
    · obtain ⟨b1, b2⟩ := bw_in hK hv hq
      obtain ⟨e1, e2, e3, e4, e5, e6, e7⟩ := EE_ent hK hv hq
      rw [b1, b2]
      refine ⟨⟨fun _ => by have := e1.2.2.2.2.1; omega, fun _ => by omega⟩, fun _ => ⟨?_, ?_, ?_⟩, fun z => Or.inl (e1.2.2.2.2.2 (by omega))⟩
      · rw [e4]; exact e1.2.1.1
      · rw [e5]; exact e1.2.2.1
      · exact (vld_P hK e1.2.1).2.2.1
    · obtain ⟨b1, b2⟩ := bw_out h
      rw [b2, b1 (by omega)]
      exact ⟨⟨fun z => absurd rfl z, fun z => absurd rfl z⟩, fun z => absurd rfl z, fun _ => Or.inr rfl⟩
  · have hkc : ∀ q : zEn, q.2.1 < 24 → (kc q = 24 * r + t → q.1 = r ∧ q.2.1 = t) := fun q h1 h2 => by unfold kc at h2; omega
    constructor
    · intro hb
      rcases ee_cases K (24 * r + t) with ⟨q, hq, hk⟩ | h
      · obtain ⟨e1, e2, e3, e4, e5, e6, e7⟩ := EE_ent hK hv hq
        have hbw := bw_in hK hv hq
        rw [hk] at hbw
        rw [hbw.1] at hb
        obtain ⟨k1, k2⟩ := hkc q (vld_P hK e1.2.1).2.2.2.2 hk
        obtain ⟨s1, s2⟩ := IM_sp hK q.1 q.2.1 q.2.2.1 e1.2.1
        rcases s2 p hp hb with z | ⟨q', z1, z2⟩
        · exact Or.inl ⟨by rw [← k1]; exact z.1, by rw [← k2]; exact z.2⟩
        · have hq' : q' ∈ EE K := (FO_lev hK 0 0 _ hv q').mpr (Or.inr ⟨q, hq, z1⟩)
          obtain ⟨y1, y2, y3⟩ := s1 q' z1
          obtain ⟨x1, x2, x3, x4, x5, x6, x7⟩ := EE_ent hK hv hq'
          have hc' : kc q' = 24 * (r + 1) + q'.2.1 := by unfold kc; rw [y1, k1]
          have hbw' := bw_in hK hv hq'
          rw [hc'] at hbw'
          refine Or.inr ⟨q'.2.1, x1.2.2.1, ?_, ?_, ?_, ?_⟩
          · have := x1.2.1.1; omega
          · rw [hbw'.2]; have := x1.2.2.2.2.1; omega
          · rw [hbw'.2, y3 (by omega) e1.2.2.1]; exact k2
          · rw [hbw'.1]; exact z2
      · rw [(bw_out h).1 (by omega), Nat.zero_testBit] at hb; cases hb
    · rintro (z | ⟨t', z1, z2, z3, z4, z5⟩)
      · rcases FO_plc hK 0 0 _ hv p hp (all_bit hp) with y | ⟨q, y1, y2, y3, y4⟩
        · have := (hK.2.1 p hp).1; omega
        · have hk : kc q = 24 * r + t := by unfold kc; rw [y2, y3, z.1, z.2]
          have hbw := bw_in hK hv y1
          rw [hk] at hbw
          rw [hbw.1]; exact y4
      · rcases ee_cases K (24 * (r + 1) + t') with ⟨q, hq, hk⟩ | h
        · obtain ⟨e1, e2, e3, e4, e5, e6, e7⟩ := EE_ent hK hv hq
          have hbw := bw_in hK hv hq
          rw [hk] at hbw
          rw [hbw.2] at z4
          rw [hbw.1] at z5
          have hq1 : q.1 = r + 1 := by omega
          have hq2 : q.2.1 = t' := by omega
          rcases (FO_lev hK 0 0 _ hv q).mp hq with y | ⟨q', y1, y2⟩
          · have := ((IM_sp hK 0 0 _ hv).1 q y).1; omega
          · obtain ⟨x1, x2, x3, x4, x5, x6, x7⟩ := EE_ent hK hv y1
            obtain ⟨w1, w2, w3⟩ := (IM_sp hK q'.1 q'.2.1 q'.2.2.1 x1.2.1).1 q y2
            have hr' : q'.1 = r := by omega
            have ht' := w3 (by omega) x1.2.2.1
            rw [hq2, z4] at ht'
            have hk' : kc q' = 24 * r + t := by unfold kc; rw [hr', ← ht']
            have hbw' := bw_in hK hv y1
            rw [hk'] at hbw'
            rw [hbw'.1]; exact sb_iff.mp w2 p z5
        · exact absurd (bw_out h).2 z3
theorem tr4_wf {K : Nat → Nat → Nat} (hK : wfK K) {st : zT} (h : tr4 K = some st) : wfT K st.1 st.2 := by
  unfold tr4 at h
  by_cases e : K 5 0 = 0
  · rw [if_pos e] at h
    cases h
    have hz : ∀ c, pb0 K c = 0 := fun c => by unfold pb0 pbK; rw [if_neg (by omega)]
    refine ⟨fun c hc => ⟨by show pb0 K c < _; rw [hz]; exact Nat.pos_of_ne_zero (by simp), (by decide : 3 < 4)⟩, fun c hc => rfl, fun c hc24 hc => ⟨⟨fun z => absurd (hz c) z, fun z => absurd rfl z⟩, fun z => absurd rfl z, fun _ => Or.inr rfl⟩, fun r t hr1 hr ht p hp => by omega⟩
  · rw [if_neg e] at h
    by_cases e2 : (Bt K 0 0 (allK K)).1 < 1000000000
    · rw [if_pos e2] at h
      cases h
      exact tr4_wf1 hK (vld_src hK e e2)
    · rw [if_neg e2] at h; cases h
/-- the ink of the least tree is the best -/
theorem sum_keys {val : zEn → Nat} {n : Nat} : ∀ l : List zEn, (∀ q, q ∈ l → kc q < n) → su (fun c => ((l.filter (fun q => decide (kc q = c))).map val).sum) n = (l.map val).sum := by
  intro l
  induction l with
  | nil => intro _; exact su_0 n fun i _ => rfl
  | cons x xs ih =>
    intro h
    have hx := h x List.mem_cons_self
    have h1 : ∀ c, c < n → (((x :: xs).filter (fun q => decide (kc q = c))).map val).sum = (if c = kc x ∧ True then 1 else 0) * val x + ((xs.filter (fun q => decide (kc q = c))).map val).sum := by
      intro c _
      by_cases e : kc x = c
      · rw [List.filter_cons_of_pos (by simp [e]), List.map_cons, List.sum_cons, if_pos ⟨e.symm, trivial⟩, Nat.one_mul]
      · rw [List.filter_cons_of_neg (by simp [e]), if_neg (fun z => e z.1.symm), Nat.zero_mul, Nat.zero_add]
    rw [su_cg n h1, su_add, ih fun q hq => h q (List.mem_cons_of_mem _ hq), List.map_cons, List.sum_cons]
    have h2 : su (fun c => (if c = kc x ∧ True then 1 else 0) * val x) n = val x := by
      have hm : ∀ m, su (fun c => (if c = kc x ∧ True then 1 else 0) * val x) m = su (fun c => if c = kc x ∧ True then 1 else 0) m * val x := by
        intro m
        induction m with
        | zero => rw [su, su, Nat.zero_mul]
        | succ m ihm => rw [su, su, ihm, Nat.add_mul]
      rw [hm, su_pt (P := fun _ => True), if_pos ⟨hx, trivial⟩, Nat.one_mul]
    rw [h2]
theorem fil_one {val : zEn → Nat} {c : Nat} : ∀ l : List zEn, (l.map kc).Nodup → ∀ q, q ∈ l → kc q = c → ((l.filter (fun q => decide (kc q = c))).map val).sum = val q := by
  intro l
  induction l with
  | nil => intro _ q hq; exact absurd hq List.not_mem_nil
  | cons x xs ih =>
    intro hn q hq hk
    rw [List.map_cons, List.nodup_cons] at hn
    have hz : kc x = c → ((xs.filter (fun q => decide (kc q = c))).map val).sum = 0 := by
      intro hx
      have : xs.filter (fun q => decide (kc q = c)) = [] := List.filter_eq_nil_iff.mpr fun y hy z => hn.1 (List.mem_map.mpr ⟨y, hy, by rw [hx]; exact of_decide_eq_true z⟩)
      rw [this]; rfl
    rcases List.mem_cons.mp hq with e | h
    · have hx : kc x = c := by rw [← e]; exact hk
      rw [List.filter_cons_of_pos (by simp [hx]), List.map_cons, List.sum_cons, hz hx, e, Nat.add_zero]
    · have hx : kc x ≠ c := fun z => hn.1 (List.mem_map.mpr ⟨q, h, by rw [hk, z]⟩)
      rw [List.filter_cons_of_neg (by simp [hx])]
      exact ih hn.2 q h hk
theorem tink_E {K : Nat → Nat → Nat} (hK : wfK K) (hv : vld K 0 0 (allK K)) : tink K (bE K) (wE K) = (Bt K 0 0 (allK K)).1 := by
  have h9 := hK.1.2.1
  have h24 := hK.1.2.2.2.1
  have hW := tr4_wf1 hK hv
  rw [← FO_ink hK 0 0 _ hv]
  have hn : ((EE K).map kc).Nodup := FO_nodup hK hv
  have hs := sum_keys (val := fun q => lns K q.2.2.2 * (K 2 0 + amtK K q.2.2.1)) (n := 240) (EE K) (fun q hq => (EE_ent hK hv hq).2.2.1)
  refine Eq.trans ?_ hs
  have hc : ∀ c, c < 240 → (((EE K).filter (fun q => decide (kc q = c))).map (fun q => lns K q.2.2.2 * (K 2 0 + amtK K q.2.2.1))).sum = if c < 24 then 0 else inkc K (bE K) (wE K) c := by
    intro c hc
    rcases ee_cases K c with ⟨q, hq, hk⟩ | h
    · rw [fil_one (EE K) hn q hq hk]
      obtain ⟨e1, e2, e3, e4, e5, e6, e7⟩ := EE_ent hK hv hq
      have hbw := bw_in hK hv hq
      rw [hk] at hbw
      rw [if_neg (by omega)]
      unfold inkc
      rw [hbw.1, hbw.2, if_neg (by omega)]
    · have : (EE K).filter (fun q => decide (kc q = c)) = [] := List.filter_eq_nil_iff.mpr fun y hy z => h y hy (of_decide_eq_true z)
      rw [this]
      by_cases z : c < 24
      · rw [if_pos z]; rfl
      · rw [if_neg z]
        unfold inkc
        rw [(bw_out h).1 (by omega), if_pos rfl]; rfl
  rw [su_cg 240 hc, show 240 = 24 * (9 + 1) from rfl, su_rows, su_shift]
  have h0 : su (fun t => if 24 * 0 + t < 24 then 0 else inkc K (bE K) (wE K) (24 * 0 + t)) 24 = 0 := su_0 _ fun t ht => if_pos (by omega)
  have hrow : ∀ i, i < 9 → su (fun t => if 24 * (i + 1) + t < 24 then 0 else inkc K (bE K) (wE K) (24 * (i + 1) + t)) 24 = if i < K 0 0 then su (fun t => inkc K (bE K) (wE K) (24 * (i + 1) + t)) (K 1 0) else 0 := by
    intro i hi
    have hz : ∀ t, t < 24 → (K 0 0 ≤ i ∨ K 1 0 ≤ t) → bE K (24 * (i + 1) + t) = 0 := by
      intro t ht hor
      have hw := hW.2.2.1 (24 * (i + 1) + t) (by omega) (by omega)
      rcases Nat.eq_zero_or_pos (bE K (24 * (i + 1) + t)) with q | q
      · exact q
      · have := hw.2.1 (hw.1.mp (by omega)); omega
    have hz' : ∀ t, t < 24 → (K 0 0 ≤ i ∨ K 1 0 ≤ t) → (if 24 * (i + 1) + t < 24 then 0 else inkc K (bE K) (wE K) (24 * (i + 1) + t)) = 0 := by
      intro t ht hor
      rw [if_neg (by omega)]; unfold inkc; rw [if_pos (hz t ht hor)]
    by_cases e : i < K 0 0
    · rw [if_pos e, su_cut (n := K 1 0) 24 h24 fun t h1 h2 => hz' t h2 (Or.inr h1)]
      exact su_cg _ fun t ht => if_neg (by omega)
    · rw [if_neg e]; exact su_0 _ fun t ht => hz' t ht (Or.inl (by omega))
  rw [h0, su_cg 9 hrow, su_cut (n := K 0 0) 9 h9 fun i h1 h2 => if_neg (by omega), Nat.zero_add, su_cg (K 0 0) fun i hi => if_pos hi]
  rfl
end LS2
