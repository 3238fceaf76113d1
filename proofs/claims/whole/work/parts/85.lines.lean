/-! the text: lines of both -/
section LIN
def rwM (M : Nat → Nat → Int32) : List zQ → Prop
  | [] => True
  | q :: qs => rwM M qs ∧ M 22 (3 * qs.length) = nI q.1 ∧ M 22 (3 * qs.length + 1) = nI q.2.1 ∧ M 22 (3 * qs.length + 2) = nI q.2.2
def rdM (M : Nat → Nat → Int32) (R N b d h : Nat) (rk : Nat → Nat) (pl : List zQ) : Prop := M 19 0 = nI R ∧ M 20 0 = nI N ∧ M 21 0 = nI pl.length ∧ rwM M pl ∧ (∀ c, c < 240 → M 23 c = nI (rk c)) ∧ M 24 0 = nI b ∧ M 24 1 = nI d ∧ M 24 2 = nI h
def wfP (R N b d h : Nat) (rk : Nat → Nat) (pl : List zQ) : Prop := bdK R N b d h ∧ plOK R N pl ∧ rkOK R N rk pl ∧ pl.length ≤ 7
theorem rwM_fr {M M' : Nat → Nat → Int32} : ∀ pl : List zQ, (∀ j, j < 3 * pl.length → M' 22 j = M 22 j) → rwM M pl → rwM M' pl := by
  intro pl
  induction pl with
  | nil => intro _ _; trivial
  | cons q qs ih =>
    intro hf h
    rw [List.length_cons] at hf
    exact ⟨ih (fun j hj => hf j (by omega)) h.1, by rw [hf _ (by omega)]; exact h.2.1, by rw [hf _ (by omega)]; exact h.2.2.1, by rw [hf _ (by omega)]; exact h.2.2.2⟩
theorem rdM_fr {M M' : Nat → Nat → Int32} {R N b d h : Nat} {rk : Nat → Nat} {pl : List zQ} (hf : ∀ k, 19 ≤ k → k ≤ 24 → M' k = M k) (hR : rdM M R N b d h rk pl) : rdM M' R N b d h rk pl := by
  obtain ⟨h1, h2, h3, h4, h5, h6, h7, h8⟩ := hR
  refine ⟨?_, ?_, ?_, rwM_fr pl (fun j _ => by rw [hf 22 (by decide) (by decide)]) h4, fun c hc => ?_, ?_, ?_, ?_⟩
  · rw [hf 19 (by decide) (by decide)]; exact h1
  · rw [hf 20 (by decide) (by decide)]; exact h2
  · rw [hf 21 (by decide) (by decide)]; exact h3
  · rw [hf 23 (by decide) (by decide)]; exact h5 c hc
  · rw [hf 24 (by decide) (by decide)]; exact h6
  · rw [hf 24 (by decide) (by decide)]; exact h7
  · rw [hf 24 (by decide) (by decide)]; exact h8
theorem repC_ch {D : Nat → Nat → Int32} {R N b d h : Nat} {rk : Nat → Nat} {pl : List zQ} : repC D (chP R N b d h rk pl) ↔ (D 0 0 = nI R ∧ D 1 0 = nI N ∧ D 2 0 = nI b ∧ D 3 0 = nI d ∧ D 4 0 = nI h ∧ D 5 0 = nI pl.length ∧ (∀ k p, 6 ≤ k → k ≤ 8 → p < pl.length → D k p = nI (PL pl k p)) ∧ ∀ c, c < 240 → D 9 c = nI (rk c)) := by
  constructor
  · rintro ⟨h1, h2, h3⟩
    refine ⟨h1 0 (by decide), h1 1 (by decide), h1 2 (by decide), h1 3 (by decide), h1 4 (by decide), ?_, fun k p h6 h8 hp => ?_, fun c hc => h3 c hc⟩
    · rw [h1 5 (by decide), chP_5]
    · rw [h2 k p h6 h8 (by rw [chP_5]; exact hp), chP_r _ _ _ _ _ _ _ h6 h8]
  · rintro ⟨h0, h1, h2, h3, h4, h5, h6, h9⟩
    refine ⟨fun k hk => ?_, fun k p a6 a8 hp => ?_, fun c hc => h9 c hc⟩
    · have : k = 0 ∨ k = 1 ∨ k = 2 ∨ k = 3 ∨ k = 4 ∨ k = 5 := by omega
      rcases this with rfl | rfl | rfl | rfl | rfl | rfl
      · exact h0
      · exact h1
      · exact h2
      · exact h3
      · exact h4
      · rw [chP_5]; exact h5
    · rw [chP_r _ _ _ _ _ _ _ a6 a8]
      exact h6 k p a6 a8 (by rw [chP_5] at hp; exact hp)
theorem plOK_b {R N : Nat} : ∀ pl : List zQ, plOK R N pl → ∀ q, q ∈ pl → 1 ≤ q.1 ∧ q.1 ≤ R ∧ q.2.1 < N ∧ 1 ≤ q.2.2 ∧ q.2.2 ≤ 99 := by
  intro pl
  induction pl with
  | nil => intro _ q hq; exact absurd hq List.not_mem_nil
  | cons q qs ih =>
    intro h q' hq'
    rcases List.mem_cons.mp hq' with e | e
    · rw [e]; exact ⟨h.2.1, h.2.2.1, h.2.2.2.1, h.2.2.2.2.1, h.2.2.2.2.2.1⟩
    · exact ih h.1 q' e
def hitM (M : Nat → Nat → Int32) (r t i : Nat) : Prop := ∃ j, j < i ∧ M 22 (3 * j) = nI r ∧ M 22 (3 * j + 1) = nI t
theorem hit_inP {M : Nat → Nat → Int32} {r t : Nat} (hr : r < 2 ^ 31) (ht : t < 2 ^ 31) : ∀ pl : List zQ, (∀ q, q ∈ pl → q.1 < 2 ^ 31 ∧ q.2.1 < 2 ^ 31) → rwM M pl → (hitM M r t pl.length ↔ inP pl r t) := by
  intro pl
  induction pl with
  | nil => intro _ _; exact ⟨fun ⟨j, hj, _⟩ => absurd hj (Nat.not_lt_zero _), fun ⟨q, hq, _⟩ => absurd hq List.not_mem_nil⟩
  | cons q qs ih =>
    intro hb h
    have ih := ih (fun q' hq' => hb q' (List.mem_cons_of_mem _ hq')) h.1
    obtain ⟨b1, b2⟩ := hb q List.mem_cons_self
    constructor
    · rintro ⟨j, h1, h2, h3⟩
      rw [List.length_cons] at h1
      by_cases z : j < qs.length
      · obtain ⟨q', z1, z2⟩ := ih.mp ⟨j, z, h2, h3⟩
        exact ⟨q', List.mem_cons_of_mem _ z1, z2⟩
      · have e : j = qs.length := by omega
        rw [e, h.2.1] at h2
        rw [e, h.2.2.1] at h3
        exact ⟨q, List.mem_cons_self, (nI_eq b1 hr).mp h2, (nI_eq b2 ht).mp h3⟩
    · rintro ⟨q', z1, z2, z3⟩
      rw [List.length_cons]
      rcases List.mem_cons.mp z1 with e | z1
      · rw [e] at z2 z3
        exact ⟨qs.length, by omega, by rw [h.2.1, z2], by rw [h.2.2.1, z3]⟩
      · obtain ⟨j, j1, j2⟩ := ih.mpr ⟨q', z1, z2, z3⟩
        exact ⟨j, by omega, j2⟩
theorem e_isRead {M : Nat → Nat → Int32} {R N b d h : Nat} {rk : Nat → Nat} {pl : List zQ} (hR : rdM M R N b d h rk pl) (hw : wfP R N b d h rk pl) {r t : Nat} (hr : r < 2 ^ 31) (ht : t < 2 ^ 31) : ∃ v : Int32, f_X7_isRead M (nI r) (nI t) = some v ∧ (inP pl r t → v = 1) ∧ (¬ inP pl r t → v = 0) := by
  have hl := hw.2.2.2
  have hbd := plOK_b pl hw.2.1
  have hR9 := hw.1.2.1
  have hN9 := hw.1.2.2.2.1
  have h21 := hR.2.2.1
  have hi := hit_inP (M := M) hr ht pl (fun q hq => by have := hbd q hq; omega) hR.2.2.2.1
  obtain ⟨v, hv, e⟩ := zinv (body := fun rec a => f_X7_isRead_L5b M (nI r) (nI t) rec a) (fun i a => a.2 = nI i ∧ (hitM M r t i → a.1 = 1) ∧ (¬ hitM M r t i → a.1 = 0)) (fun v => (inP pl r t → v = 1) ∧ (¬ inP pl r t → v = 0)) pl.length (by omega) (by
    intro i hi a ha
    obtain ⟨a1, a2, a3⟩ := ha
    by_cases z : hitM M r t i
    · refine ⟨(1, nI (i + 1)), ⟨rfl, fun _ => rfl, fun q => absurd (show hitM M r t (i + 1) by
        obtain ⟨j, j1, j2⟩ := z
        exact ⟨j, by omega, j2⟩) q⟩, fun rec => ?_⟩
      unfold f_X7_isRead_L5b f_X7_isRead_J46 f_X7_isRead_J51
      rw [ilen h21 a1 hi (by omega), if_neg (show ¬ a.1 = 0 by rw [a2 z]; decide), a1, l_1, nI_add]
    · have hz := a3 z
      by_cases w : M 22 (3 * i) = nI r ∧ M 22 (3 * i + 1) = nI t
      · refine ⟨(1, nI (i + 1)), ⟨rfl, fun _ => rfl, fun q => absurd (show hitM M r t (i + 1) from ⟨i, by omega, w⟩) q⟩, fun rec => ?_⟩
        unfold f_X7_isRead_L5b f_X7_isRead_J46 f_X7_isRead_J51
        rw [ilen h21 a1 hi (by omega), if_pos hz, a1, l_3, pk_mul, zix_nI (by omega) (by decide), nI_clamp (by omega), if_pos w.1, l_1, nI_add, zix_nI (by omega) (by decide), nI_clamp (by omega), if_pos w.2, nI_add]
      · refine ⟨(0, nI (i + 1)), ⟨rfl, fun q => ?_, fun _ => rfl⟩, fun rec => ?_⟩
        · obtain ⟨j, j1, j2⟩ := q
          by_cases u : j = i
          · rw [u] at j2; exact absurd j2 w
          · exact absurd ⟨j, by omega, j2⟩ z
        · unfold f_X7_isRead_L5b f_X7_isRead_J46 f_X7_isRead_J50 f_X7_isRead_J51
          rw [ilen h21 a1 hi (by omega), if_pos hz, a1, l_3, pk_mul, zix_nI (by omega) (by decide), nI_clamp (by omega)]
          by_cases u : M 22 (3 * i) = nI r
          · rw [if_pos u, l_1, nI_add, zix_nI (by omega) (by decide), nI_clamp (by omega), if_neg (fun q => w ⟨u, q⟩), nI_add]
          · rw [if_neg u, l_1, nI_add]) (by
    intro a ha
    obtain ⟨a1, a2, a3⟩ := ha
    refine ⟨a.1, ⟨fun q => a2 (hi.mpr q), fun q => a3 (fun w => q (hi.mp w))⟩, fun rec => ?_⟩
    unfold f_X7_isRead_L5b
    rw [ilep h21 a1 (Nat.le_refl _) (by omega)]) (a0 := (0, 0)) ⟨rfl, fun ⟨j, j1, _⟩ => absurd j1 (Nat.not_lt_zero _), fun _ => rfl⟩
  refine ⟨v, ?_, hv⟩
  unfold f_X7_isRead f_X7_isRead_L5
  rw [e, Option.bind_some]
  by_cases q : inP pl r t
  · rw [hv.1 q, zbo_1]
  · rw [hv.2 q, zbo_0]
theorem e_placeAtP {D : Nat → Nat → Int32} {R N b d h : Nat} {rk : Nat → Nat} {pl : List zQ} (hD : repC D (chP R N b d h rk pl)) (hw : wfP R N b d h rk pl) {r t : Nat} (hr : r < 2 ^ 31) (ht : t < 2 ^ 31) : ∃ v : Int32, f_X1_placeAt D (nI r) (nI t) = some v ∧ (inP pl r t → ¬ v = -1) ∧ (¬ inP pl r t → v = -1) := by
  have hK := chP_wf hw.1 pl hw.2.2.2 hw.2.1 hw.2.2.1
  have h5 := chP_5 R N b d h rk pl
  have hl := hw.2.2.2
  have hi := inP_iff R N b d h rk r t pl
  obtain ⟨p1, p2, p3⟩ := plc_le (chP R N b d h rk pl) r t
  refine ⟨_, e_placeAt hD (by omega) (fun p hp => ?_) hr ht, fun q => ?_, fun q => ?_⟩
  · obtain ⟨w1, w2, w3, _⟩ := hK.2.1 p hp
    have := hK.1
    omega
  · obtain ⟨j, j1, j2⟩ := hi.mpr q
    have hlt : plc (chP R N b d h rk pl) r t < chP R N b d h rk pl 5 0 := by
      rcases Nat.lt_or_ge j (plc (chP R N b d h rk pl) r t) with z | z
      · exact absurd j2 (p3 j z)
      · omega
    rw [if_pos hlt]
    exact nI_nm1 (by omega)
  · rw [if_neg (fun z => q (hi.mp ⟨_, by rw [h5] at z; exact z, p2 z⟩))]
theorem e_rdN {S : Nat → Nat → Int32} {a b : Int32} (h : ¬ S 7 0 = 0) : f_X4_readNumber S a b = some (a, S) := if_neg h
def rdS (S D M : Nat → Nat → Int32) (y : Nat → Nat) (n p : Nat) : Prop := ∃ R N b d h, ∃ rk : Nat → Nat, ∃ pl : List zQ, prC S y n p ∧ tokM M y n p ∧ repC D (chP R N b d h rk pl) ∧ rdM M R N b d h rk pl ∧ wfP R N b d h rk pl
def lnQ (S M : Nat → Nat → Int32) (y : Nat → Nat) (n p : Nat) (cS : Option ((Nat → Nat → Int32) × (Nat → Nat → Int32))) (cM : Option (Int32 × (Nat → Nat → Int32))) : Prop := ∃ S' D' M', ∃ v : Int32, cS = some (S', D') ∧ cM = some (v, M') ∧ (∀ k, k < 3 → S' k = S k) ∧ (∀ k, k < 14 → M' k = M k) ∧ ((v = 1 ∧ ∃ p', p < p' ∧ rdS S' D' M' y n p') ∨ (v = 0 ∧ ∃ f, 0 < f ∧ f < 2 ^ 31 ∧ S' 7 0 = nI f ∧ M' 18 0 = nI f))
theorem nFl_b {y : Nat → Nat} {n p : Nat} (hn : n ≤ 500) (hp : p ≤ n) : 0 < nFl y n p ∧ nFl y n p < 2 ^ 31 := by
  obtain ⟨k1, k2, k3, _⟩ := tk_lt (y := y) hp
  unfold nFl
  split <;> omega
end LIN
