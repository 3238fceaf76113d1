/-! the methods of both: place -/
section MPL
def amK (K : Nat → Nat → Nat) (g a : Nat) : Nat → Nat → Nat := fun k j => if k = 8 ∧ j = g then a else K k j
theorem am_o {K : Nat → Nat → Nat} {g a k : Nat} (hk : k ≠ 8) (j : Nat) : amK K g a k j = K k j := by
  unfold amK; rw [if_neg (fun z => hk z.1)]
theorem am_wf {K : Nat → Nat → Nat} {g a : Nat} (hK : wfK K) (h1 : 1 ≤ a) (h9 : a ≤ 99) : wfK (amK K g a) := by
  obtain ⟨w1, w2, w3, w4, w5⟩ := hK
  have e := fun k (hk : k ≠ 8) j => am_o (K := K) (g := g) (a := a) hk j
  refine ⟨?_, ?_, ?_, ?_, ?_⟩
  · rw [e 0 (by decide), e 1 (by decide), e 2 (by decide), e 3 (by decide), e 4 (by decide), e 5 (by decide)]; exact w1
  · intro p hp
    rw [e 5 (by decide)] at hp
    have hw := w2 p hp
    rw [e 6 (by decide), e 7 (by decide), e 9 (by decide), e 0 (by decide), e 1 (by decide)]
    refine ⟨hw.1, hw.2.1, hw.2.2.1, ?_, ?_, hw.2.2.2.2.2⟩
    · unfold amK; split; exact h1; exact hw.2.2.2.1
    · unfold amK; split; exact h9; exact hw.2.2.2.2.1
  · intro p q hpq hq
    rw [e 5 (by decide)] at hq
    rw [e 6 (by decide), e 7 (by decide), e 6 (by decide), e 7 (by decide)]
    exact w3 p q hpq hq
  · intro c; rw [e 9 (by decide)]; exact w4 c
  · intro c hc
    rw [e 9 (by decide)] at hc
    rw [e 0 (by decide), e 1 (by decide)]; exact w5 c hc
theorem amC {S : Nat → Nat → Int32} {K : Nat → Nat → Nat} {g a : Nat} (hS : repC S K) : repC (zst S 8 g (nI a)) (amK K g a) := by
  refine ⟨fun k hk => ?_, fun k p h6 h8 hp => ?_, fun x hx => ?_⟩
  · rw [zst_ne _ (by omega), am_o (by omega)]; exact hS.1 k hk
  · rw [am_o (by omega)] at hp
    by_cases z : k = 8
    · rw [z, zst_row]
      unfold amK
      by_cases y : p = g
      · rw [if_pos ⟨rfl, y⟩, y, upd_same]
      · rw [if_neg (fun u => y u.2), upd_ne _ y]; exact hS.2.1 8 p (by decide) (by decide) hp
    · rw [zst_ne _ z, am_o z]; exact hS.2.1 k p h6 h8 hp
  · rw [zst_ne _ (by omega), am_o (by omega)]; exact hS.2.2 x hx
theorem amM {M : Nat → Nat → Int32} {K : Nat → Nat → Nat} {g a : Nat} (hM : repM M K) : repM (zst M 8 g (nI a)) (amK K g a) := by
  obtain ⟨⟨h0, h1, h2, h3, h4, h5⟩, h6, h9⟩ := hM
  refine ⟨⟨?_, ?_, ?_, ?_, ?_, ?_⟩, fun k p a6 a8 hp => ?_, fun x hx => ?_⟩
  · rw [zst_ne _ (by omega), am_o (by omega)]; exact h0
  · rw [zst_ne _ (by omega), am_o (by omega)]; exact h1
  · rw [zst_ne _ (by omega), am_o (by omega)]; exact h2
  · rw [zst_ne _ (by omega), am_o (by omega)]; exact h3
  · rw [zst_ne _ (by omega), am_o (by omega)]; exact h4
  · rw [zst_ne _ (by omega), am_o (by omega)]; exact h5
  · rw [am_o (by omega)] at hp
    by_cases z : k = 8
    · rw [z, zst_row]
      unfold amK
      by_cases y : p = g
      · rw [if_pos ⟨rfl, y⟩, y, upd_same]
      · rw [if_neg (fun u => y u.2), upd_ne _ y]; exact h6 8 p (by decide) (by decide) hp
    · rw [zst_ne _ z, am_o z]; exact h6 k p a6 a8 hp
  · rw [zst_ne _ (by omega), am_o (by omega)]; exact h9 x hx
theorem chgP {K : Nat → Nat → Nat} {S1 S2 S3 S4 S5 S6 S7 S8 S9 M : Nat → Nat → Int32} (hK : wfK K) (hS : repC S2 K) (hM : repM M K) (ht : tpR S1 M) (h0 : M 0 0 = 0) : chgQ S1 (f_X6_place_J121 S1 S2 S3 S4 S5 S6 S7 S8 S9) (some (M 9 0, M)) := by
  unfold f_X6_place_J121
  rw [fgt, Option.bind_some, hS.1 5 (by decide), hM.1.2.2.2.2.2]
  exact ⟨_, S2, _, _, _, _, _, M, rfl, rfl, h0, K, hK, hS, hM, ht, fg5⟩
theorem m_place {K : Nat → Nat → Nat} {S1 S2 S3 S4 S5 S6 S7 S8 S9 M : Nat → Nat → Int32} (hI : ivK K S1 S2 S4 S5 S6 S7 S8 M) (v1 v2 v3 : Int32) : chgQ S1 (f_X6_place S1 S2 S3 S4 S5 S6 S7 S8 S9 v1 v2 v3) (f_X7_place M v1 v2 v3) := by
  obtain ⟨i1, i2, i3, i4, i5⟩ := ivK_0 hI
  obtain ⟨k1, k2, k3, k4, k5, k6, k7, k8, k9⟩ := i1.1
  unfold f_X7_place
  rw [zlet_eq]
  unfold f_X6_place
  rcases hc6 i1 i2 i3 v1 v2 with ⟨a1, a2, _⟩ | ⟨r, t, rfl, rfl, r1, r2, r3, a1, a2⟩
  · rw [a1, a2]; exact chg0 hI
  rw [a1, a2, Option.bind_some, Option.bind_some, if_neg (show ¬ (1 : Int32) = 0 by decide), if_neg (show ¬ (1 : Int32) = 0 by decide)]
  rcases wi6 (v := v3) (lo := 0) (hi := 99) (by decide) (by decide) with ⟨b1, b2⟩ | ⟨a, rfl, n1, n2, b1, b2⟩
  · rw [show f_X6_isWithin v3 0 99 = _ from b1, show f_X7_within v3 0 99 = _ from b2]; exact chg0 hI
  rw [show f_X6_isWithin (nI a) 0 99 = _ from b1, show f_X7_within (nI a) 0 99 = _ from b2, Option.bind_some, Option.bind_some, if_neg (show ¬ (1 : Int32) = 0 by decide), if_neg (show ¬ (1 : Int32) = 0 by decide)]
  have hzx : ∀ {α : Type} (f : Nat → Option α), zix (nI (24 * r + t)) 240 f = f (24 * r + t) := fun f => zix_nI (by omega) (by decide)
  have hcl : (nI (24 * r + t)).toNatClampNeg = 24 * r + t := nI_clamp (by omega)
  simp only [e_cellOf, e_cellM, Option.bind_some, hzx, hcl]
  have hle := i1.2.2.2.1 (24 * r + t)
  by_cases q : K 9 (24 * r + t) = 0
  · rw [ieqp (i2.2.2 _ (by omega)) l_0 q, ieqp (i3.2.2 _ (by omega)) l_0 q]
    rcases pa6 i1 i2 i3 (r := r) (t := t) (by omega) (by omega) with ⟨p1, p2, p3⟩ | ⟨p, p0, p1, p2, p3, p4⟩
    · rw [p1, p2, Option.bind_some, Option.bind_some, if_pos rfl, if_pos (show (-1 : Int32) < 0 by decide)]
      unfold f_X7_place_J67
      rw [if_pos (show (-1 : Int32) < 0 by decide)]
      by_cases e0 : a = 0
      · rw [ieqp rfl l_0 e0, ieqp rfl l_0 e0]; exact chg0 hI
      rw [ieqn rfl l_0 e0 (by omega) (by omega), ieqn rfl l_0 e0 (by omega) (by omega)]
      by_cases e7 : K 5 0 < 7
      · rw [iltp (i2.1 5 (by decide)) l_7 e7 (by omega), ieqn i3.1.2.2.2.2.2 l_7 (by omega) (by omega) (by omega)]
        unfold f_X6_place_J75
        rw [ieqn rfl l_0 e0 (by omega) (by omega), if_pos rfl]
        obtain ⟨S2', s1, s2⟩ := e_addPlace i1 i2 e7 (r := r) (t := t) (a := a) (by omega) (by omega)
        obtain ⟨M', m1, m2, m3⟩ := e_adds i1 i3 e7 (r := r) (t := t) (a := a) (by omega) (by omega)
        rw [s1, m1, Option.bind_some, Option.bind_some]
        obtain ⟨x1, x2, x3⟩ := ps_le K r t (K 5 0)
        exact chgP (ins_wf i1 e7 r1 r2 r3 (by omega) n2 q p3 x1 x2 (ps_all i1)) s2 m2 (tpR_f (m3 11 (by omega)) (m3 12 (by omega)) i4) (by rw [m3 0 (by omega), zst_same])
      · rw [iltn (i2.1 5 (by decide)) l_7 (by omega) (by omega), ieqp i3.1.2.2.2.2.2 l_7 (by omega)]
        exact chg0 hI
    · rw [p3, p4, Option.bind_some, Option.bind_some, if_neg (nI_nm1 (by omega)), if_neg (nI_pos (by omega))]
      unfold f_X6_place_J75
      by_cases e0 : a = 0
      · rw [ieqp rfl l_0 e0, ilep rfl l_0 (by omega) (by omega)]
        unfold f_X7_place_J67
        rw [if_neg (nI_pos (by omega))]
        obtain ⟨S2', s1, s2⟩ := e_removePlace k9 i2 p0
        obtain ⟨M', m1, m2, m3⟩ := e_goes k9 i3 p0
        rw [s1, m1, Option.bind_some, Option.bind_some]
        exact chgP (rm_wf i1 p0) s2 m2 (tpR_f (m3 11 (by omega)) (m3 12 (by omega)) i4) (by rw [m3 0 (by omega), zst_same])
      · rw [ieqn rfl l_0 e0 (by omega) (by omega), if_neg (nI_nm1 (by omega)), ilen rfl l_0 (by omega) (by omega), zix_nI (by omega) (by decide), zix_nI (by omega) (by decide), zlet_eq, zlet_eq]
        exact chgP (am_wf i1 (by omega) n2) (amC i2) (amM i3) (tpR_f (zst_ne _ (by decide) _ _) (zst_ne _ (by decide) _ _) i4) (by rw [zst_ne _ (by decide), zst_same])
  · rw [ieqn (i2.2.2 _ (by omega)) l_0 q (by omega) (by omega), ieqn (i3.2.2 _ (by omega)) l_0 q (by omega) (by omega)]
    exact chg0 hI
end MPL
