/-! the methods of both: set, rock, place -/
section MCH
theorem e_set88 {M : Nat → Nat → Int32} {i : Nat} (hi : i < 3) (x k0 : Int32) : ∃ M', f_X7_set_J88 M (nI i) x k0 = some (k0, M') ∧ M' (3 + i) 0 = x ∧ (∀ k, k ≠ 3 + i → M' k 0 = M k 0) ∧ ∀ k, k < 3 ∨ 5 < k → M' k = M k := by
  have hz : ∀ (S : Nat → Nat → Int32) (k k' : Nat), zst S k 0 (S k 0) k' 0 = S k' 0 := by
    intro S k k'
    by_cases z : k' = k
    · rw [z, zst_same]
    · rw [zst_ne _ z]
  unfold f_X7_set_J88 f_X7_set_J103 f_X7_set_J120 f_X7_set_J137
  rcases (show i = 0 ∨ i = 1 ∨ i = 2 by omega) with rfl | rfl | rfl
  · rw [if_pos (show nI 0 = 0 from rfl), zlet_eq, if_neg (show ¬ nI 0 = 1 by decide), zlet_eq, if_neg (show ¬ nI 0 = 2 by decide), zlet_eq]
    refine ⟨_, rfl, by rw [hz, hz, zst_same], fun k hk => by rw [hz, hz, zst_ne _ hk], fun k hk => by rw [zst_ne _ (by omega), zst_ne _ (by omega), zst_ne _ (by omega)]⟩
  · rw [if_neg (show ¬ nI 1 = 0 by decide), zlet_eq, if_pos (show nI 1 = 1 from rfl), zlet_eq, if_neg (show ¬ nI 1 = 2 by decide), zlet_eq]
    refine ⟨_, rfl, by rw [hz, zst_same], fun k hk => by rw [hz, zst_ne _ hk, hz], fun k hk => by rw [zst_ne _ (by omega), zst_ne _ (by omega), zst_ne _ (by omega)]⟩
  · rw [if_neg (show ¬ nI 2 = 0 by decide), zlet_eq, if_neg (show ¬ nI 2 = 1 by decide), zlet_eq, if_pos (show nI 2 = 2 from rfl), zlet_eq]
    refine ⟨_, rfl, by rw [zst_same], fun k hk => by rw [zst_ne _ hk, hz, hz], fun k hk => by rw [zst_ne _ (by omega), zst_ne _ (by omega), zst_ne _ (by omega)]⟩
theorem m_set1 {K : Nat → Nat → Nat} {S1 S2 S3 S4 S5 S6 S7 S8 S9 M : Nat → Nat → Int32} (hI : ivK K S1 S2 S4 S5 S6 S7 S8 M) {i v : Nat} (hi : i < 3) (h0 : i = 0 → 1 ≤ v ∧ v ≤ 99) (h1 : i = 1 → v ≤ 40) (h2 : i = 2 → v ≤ 6) {x : Int32} (hx : x = nI (K (2 + i) 0)) : chgQ S1 (f_X6_set_J100 S1 (zst S2 (2 + i) 0 (nI v)) S3 S4 S5 S6 S7 S8 S9 x) (f_X7_set_J88 (zst M 0 0 0) (nI i) (nI v) x) := by
  obtain ⟨i1, i2, i3, i4, i5⟩ := ivK_0 hI
  obtain ⟨M', e1, e2, e3, e4⟩ := e_set88 (M := zst M 0 0 0) hi (nI v) x
  have hb : K (2 + i) 0 < 2 ^ 31 := by
    obtain ⟨⟨k1, k2, k3, k4, k5, k6, k7, k8, k9⟩, _⟩ := i1
    rcases (show i = 0 ∨ i = 1 ∨ i = 2 by omega) with rfl | rfl | rfl
    · show K 2 0 < _; omega
    · show K 3 0 < _; omega
    · show K 4 0 < _; omega
  unfold f_X6_set_J100
  rw [e1, if_neg (show ¬ x = -1 by rw [hx]; exact nI_nm1 hb), fgt, Option.bind_some]
  exact ⟨x, _, _, _, _, _, _, M', rfl, rfl, by rw [e4 0 (by omega), zst_same], setK K i v, set_wf hi h0 h1 h2 i1, setC hi i2, setM hi (fun k _ _ hk => ⟨e3 k hk, fun h6 => e4 k (by omega)⟩) e2 i3, tpR_f (e4 11 (by omega)) (e4 12 (by omega)) i4, fg5⟩
theorem m_set {K : Nat → Nat → Nat} {S1 S2 S3 S4 S5 S6 S7 S8 S9 M : Nat → Nat → Int32} (hI : ivK K S1 S2 S4 S5 S6 S7 S8 M) (v1 v2 : Int32) : chgQ S1 (f_X6_set S1 S2 S3 S4 S5 S6 S7 S8 S9 v1 v2) (f_X7_set M v1 v2) := by
  obtain ⟨i1, i2, i3, i4, i5⟩ := ivK_0 hI
  have hno : ∀ c : Option (Int32 × (Nat → Nat → Int32) × (Nat → Nat → Int32) × (Nat → Nat → Int32) × (Nat → Nat → Int32) × (Nat → Nat → Int32) × (Nat → Nat → Int32)), c = some (-1, S2, S4, S5, S6, S7, S8) → chgQ S1 c (some (-1, zst M 0 0 0)) := fun c hc => by rw [hc]; exact chg0 hI
  have hJ : f_X6_set_J100 S1 S2 S3 S4 S5 S6 S7 S8 S9 (-1) = some (-1, S2, S4, S5, S6, S7, S8) := if_pos rfl
  unfold f_X7_set
  rw [zlet_eq]
  unfold f_X6_set
  by_cases e0 : v1 = 0
  · subst e0
    rw [if_pos rfl, if_pos rfl]
    rcases wi6 (v := v2) (lo := 1) (hi := 99) (by decide) (by decide) with ⟨a1, a2⟩ | ⟨v, rfl, r1, r2, a1, a2⟩
    · rw [show f_X6_isWithin v2 1 99 = _ from a1, show f_X7_within v2 1 99 = _ from a2, Option.bind_some, Option.bind_some, if_pos rfl]
      refine hno _ ?_
      unfold f_X6_set_J35 f_X6_set_J69
      rw [if_neg (show ¬ (0 : Int32) = 1 by decide), if_neg (show ¬ (0 : Int32) = 2 by decide), hJ]
    · rw [show f_X6_isWithin (nI v) 1 99 = _ from a1, show f_X7_within (nI v) 1 99 = _ from a2, Option.bind_some, Option.bind_some, if_neg (show ¬ (1 : Int32) = 0 by decide), zlet_eq, zlet_eq]
      unfold f_X7_set_J54
      rw [if_neg (show ¬ (1 : Int32) = 0 by decide), if_pos rfl, i2.1 2 (by decide), i3.1.2.2.1]
      exact m_set1 hI (i := 0) (by decide) (fun _ => ⟨r1, r2⟩) (fun z => absurd z (by decide)) (fun z => absurd z (by decide)) rfl
  rw [if_neg e0, if_neg e0]
  unfold f_X6_set_J35
  by_cases e1 : v1 = 1
  · subst e1
    rw [if_pos rfl, if_pos rfl]
    rcases wi6 (v := v2) (lo := 0) (hi := 40) (by decide) (by decide) with ⟨a1, a2⟩ | ⟨v, rfl, r1, r2, a1, a2⟩
    · rw [show f_X6_isWithin v2 0 40 = _ from a1, show f_X7_within v2 0 40 = _ from a2, Option.bind_some, Option.bind_some, if_pos rfl]
      refine hno _ ?_
      unfold f_X6_set_J69
      rw [if_neg (show ¬ (1 : Int32) = 2 by decide), hJ]
    · rw [show f_X6_isWithin (nI v) 0 40 = _ from a1, show f_X7_within (nI v) 0 40 = _ from a2, Option.bind_some, Option.bind_some, if_neg (show ¬ (1 : Int32) = 0 by decide), zlet_eq, zlet_eq]
      unfold f_X7_set_J54
      rw [if_neg (show ¬ (1 : Int32) = 0 by decide), if_neg (show ¬ (1 : Int32) = 0 by decide), if_pos rfl, i2.1 3 (by decide), i3.1.2.2.2.1]
      exact m_set1 hI (i := 1) (by decide) (fun z => absurd z (by decide)) (fun _ => r2) (fun z => absurd z (by decide)) rfl
  rw [if_neg e1, if_neg e1]
  unfold f_X6_set_J69
  by_cases e2 : v1 = 2
  · subst e2
    rw [if_pos rfl, if_pos rfl]
    rcases wi6 (v := v2) (lo := 0) (hi := 6) (by decide) (by decide) with ⟨a1, a2⟩ | ⟨v, rfl, r1, r2, a1, a2⟩
    · rw [show f_X6_isWithin v2 0 6 = _ from a1, show f_X7_within v2 0 6 = _ from a2, Option.bind_some, Option.bind_some, if_pos rfl, if_pos rfl]
      exact hno _ hJ
    · rw [show f_X6_isWithin (nI v) 0 6 = _ from a1, show f_X7_within (nI v) 0 6 = _ from a2, Option.bind_some, Option.bind_some, if_neg (show ¬ (1 : Int32) = 0 by decide), if_neg (show ¬ (1 : Int32) = 0 by decide), zlet_eq, zlet_eq]
      unfold f_X7_set_J54
      rw [if_neg (show ¬ (1 : Int32) = 0 by decide), if_neg (show ¬ (2 : Int32) = 0 by decide), if_neg (show ¬ (2 : Int32) = 1 by decide), i2.1 4 (by decide), i3.1.2.2.2.2.1]
      exact m_set1 hI (i := 2) (by decide) (fun z => absurd z (by decide)) (fun z => absurd z (by decide)) (fun _ => r2) rfl
  rw [if_neg e2, if_neg e2]
  exact hno _ hJ
/-- one rock set or taken -/
def rocK (K : Nat → Nat → Nat) (c v : Nat) : Nat → Nat → Nat := fun k j => if k = 9 ∧ j = c then v else K k j
theorem roc_o {K : Nat → Nat → Nat} {c v k : Nat} (hk : k ≠ 9) (j : Nat) : rocK K c v k j = K k j := by
  unfold rocK; rw [if_neg (fun z => hk z.1)]
theorem roc_wf {K : Nat → Nat → Nat} {r t v : Nat} (hK : wfK K) (hr1 : 1 ≤ r) (hr : r ≤ K 0 0) (ht : t < K 1 0) (hv : v ≤ 1) (hno : v = 1 → ∀ p, p < K 5 0 → ¬ (K 6 p = r ∧ K 7 p = t)) : wfK (rocK K (24 * r + t) v) := by
  obtain ⟨w1, w2, w3, w4, w5⟩ := hK
  have e := fun k (hk : k ≠ 9) j => roc_o (K := K) (c := 24 * r + t) (v := v) hk j
  refine ⟨?_, ?_, ?_, ?_, ?_⟩
  · rw [e 0 (by decide), e 1 (by decide), e 2 (by decide), e 3 (by decide), e 4 (by decide), e 5 (by decide)]; exact w1
  · intro p hp
    rw [e 5 (by decide)] at hp
    have hw := w2 p hp
    rw [e 6 (by decide), e 7 (by decide), e 8 (by decide), e 0 (by decide), e 1 (by decide)]
    refine ⟨hw.1, hw.2.1, hw.2.2.1, hw.2.2.2.1, hw.2.2.2.2.1, ?_⟩
    unfold rocK
    by_cases z : 24 * K 6 p + K 7 p = 24 * r + t
    · rw [if_pos ⟨rfl, z⟩]
      rcases (show v = 0 ∨ v = 1 by omega) with y | y
      · exact y
      · exact absurd ⟨by omega, by omega⟩ (hno y p hp)
    · rw [if_neg (fun u => z u.2)]; exact hw.2.2.2.2.2
  · intro p q hpq hq
    rw [e 5 (by decide)] at hq
    rw [e 6 (by decide), e 7 (by decide), e 6 (by decide), e 7 (by decide)]
    exact w3 p q hpq hq
  · intro c
    unfold rocK
    split
    · exact hv
    · exact w4 c
  · intro c hc
    rw [e 0 (by decide), e 1 (by decide)]
    unfold rocK at hc
    by_cases z : c = 24 * r + t
    · have h1 : c / 24 = r := by omega
      have h2 : c % 24 = t := by omega
      omega
    · rw [if_neg (fun u => z u.2)] at hc; exact w5 c hc
theorem rocC {S : Nat → Nat → Int32} {K : Nat → Nat → Nat} {c v : Nat} (hS : repC S K) : repC (zst S 9 c (nI v)) (rocK K c v) := by
  refine ⟨fun k hk => ?_, fun k p h6 h8 hp => ?_, fun x hx => ?_⟩
  · rw [zst_ne _ (by omega), roc_o (by omega)]; exact hS.1 k hk
  · rw [roc_o (by omega)] at hp
    rw [zst_ne _ (by omega), roc_o (by omega)]; exact hS.2.1 k p h6 h8 hp
  · rw [zst_row]
    unfold rocK
    by_cases z : x = c
    · rw [if_pos ⟨rfl, z⟩, z, upd_same]
    · rw [if_neg (fun u => z u.2), upd_ne _ z]; exact hS.2.2 x hx
theorem rocM {M : Nat → Nat → Int32} {K : Nat → Nat → Nat} {c v : Nat} (hM : repM M K) : repM (zst M 10 c (nI v)) (rocK K c v) := by
  obtain ⟨⟨h0, h1, h2, h3, h4, h5⟩, h6, h9⟩ := hM
  refine ⟨⟨?_, ?_, ?_, ?_, ?_, ?_⟩, fun k p a6 a8 hp => ?_, fun x hx => ?_⟩
  · rw [zst_ne _ (by omega), roc_o (by omega)]; exact h0
  · rw [zst_ne _ (by omega), roc_o (by omega)]; exact h1
  · rw [zst_ne _ (by omega), roc_o (by omega)]; exact h2
  · rw [zst_ne _ (by omega), roc_o (by omega)]; exact h3
  · rw [zst_ne _ (by omega), roc_o (by omega)]; exact h4
  · rw [zst_ne _ (by omega), roc_o (by omega)]; exact h5
  · rw [roc_o (by omega)] at hp
    rw [zst_ne _ (by omega), roc_o (by omega)]; exact h6 k p a6 a8 hp
  · rw [zst_row]
    unfold rocK
    by_cases z : x = c
    · rw [if_pos ⟨rfl, z⟩, z, upd_same]
    · rw [if_neg (fun u => z u.2), upd_ne _ z]; exact h9 x hx
theorem pa6 {S M : Nat → Nat → Int32} {K : Nat → Nat → Nat} (hK : wfK K) (hS : repC S K) (hM : repM M K) {r t : Nat} (hr : r < 2 ^ 31) (ht : t < 2 ^ 31) : (f_X1_placeAt S (nI r) (nI t) = some (-1) ∧ f_X7_placeAt M (nI r) (nI t) = some (-1) ∧ ∀ p, p < K 5 0 → ¬ (K 6 p = r ∧ K 7 p = t)) ∨ ∃ p, p < K 5 0 ∧ K 6 p = r ∧ K 7 p = t ∧ f_X1_placeAt S (nI r) (nI t) = some (nI p) ∧ f_X7_placeAt M (nI r) (nI t) = some (nI p) := by
  have hb : ∀ p, p < K 5 0 → K 6 p < 2 ^ 31 ∧ K 7 p < 2 ^ 31 := fun p hp => by
    have h1 := hK.2.1 p hp
    have h2 := hK.1
    omega
  have h7 : K 5 0 ≤ 7 := hK.1.2.2.2.2.2.2.2.2
  rw [e_placeAt hS h7 hb hr ht, e_placeAtM hM h7 hb hr ht]
  obtain ⟨p1, p2, p3⟩ := plc_le K r t
  by_cases q : plc K r t < K 5 0
  · rw [if_pos q]
    exact Or.inr ⟨_, q, (p2 q).1, (p2 q).2, rfl, rfl⟩
  · rw [if_neg q]
    exact Or.inl ⟨rfl, rfl, fun p hp => p3 p (by omega)⟩
theorem m_rock {K : Nat → Nat → Nat} {S1 S2 S3 S4 S5 S6 S7 S8 S9 M : Nat → Nat → Int32} (hI : ivK K S1 S2 S4 S5 S6 S7 S8 M) (v1 v2 v3 : Int32) (h3 : v3 = 0 ∨ v3 = 1) : chgQ S1 (f_X6_rock S1 S2 S3 S4 S5 S6 S7 S8 S9 v1 v2 v3) (f_X7_rock M v1 v2 v3) := by
  obtain ⟨i1, i2, i3, i4, i5⟩ := ivK_0 hI
  obtain ⟨v, hv1, rfl⟩ : ∃ v, v ≤ 1 ∧ v3 = nI v := by
    rcases h3 with e | e
    · exact ⟨0, by decide, e⟩
    · exact ⟨1, by decide, e⟩
  have hz : ∀ {α : Type} (x : Option α), zbo (nI v) x = x := fun x => if_pos h3
  obtain ⟨k1, k2, k3, k4, _⟩ := i1.1
  unfold f_X6_rock f_X7_rock
  rw [zlet_eq]
  rcases hc6 i1 i2 i3 v1 v2 with ⟨a1, a2, _⟩ | ⟨r, t, rfl, rfl, r1, r2, r3, a1, a2⟩
  · rw [a1, a2]; exact chg0 hI
  rw [a1, a2, Option.bind_some, Option.bind_some, if_neg (show ¬ (1 : Int32) = 0 by decide), if_neg (show ¬ (1 : Int32) = 0 by decide)]
  have hzx : ∀ {α : Type} (f : Nat → Option α), zix (nI (24 * r + t)) 240 f = f (24 * r + t) := fun f => zix_nI (by omega) (by decide)
  have hcl : (nI (24 * r + t)).toNatClampNeg = 24 * r + t := nI_clamp (by omega)
  simp only [e_cellOf, e_cellM, Option.bind_some, hzx, hcl, hz]
  have hle := i1.2.2.2.1 (24 * r + t)
  by_cases q : K 9 (24 * r + t) = v
  · rw [ieqp (i2.2.2 _ (by omega)) rfl q, ieqp (i3.2.2 _ (by omega)) rfl q]
    exact chg0 hI
  rw [ieqn (i2.2.2 _ (by omega)) rfl q (by omega) (by omega), ieqn (i3.2.2 _ (by omega)) rfl q (by omega) (by omega)]
  rcases pa6 i1 i2 i3 (r := r) (t := t) (by omega) (by omega) with ⟨p1, p2, p3⟩ | ⟨p, p0, p1, p2, p3, p4⟩
  · rw [p1, p2, Option.bind_some, Option.bind_some, if_pos rfl, if_pos (show (-1 : Int32) < 0 by decide), zlet_eq, zlet_eq, fgt, Option.bind_some]
    exact ⟨1, _, _, _, _, _, _, _, rfl, rfl, by rw [zst_ne _ (by decide), zst_same], rocK K (24 * r + t) v, roc_wf i1 r1 r2 r3 hv1 (fun _ => p3), rocC i2, rocM i3, tpR_f (zst_ne _ (by decide) _ _) (zst_ne _ (by decide) _ _) i4, fg5⟩
  · have h7 := i1.1.2.2.2.2.2.2.2.2
    rw [p3, p4, Option.bind_some, Option.bind_some, if_neg (nI_nm1 (by omega)), if_neg (nI_pos (by omega))]
    exact chg0 hI
end MCH
