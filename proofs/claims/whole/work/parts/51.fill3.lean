/-! places by cells; the class's notePlaces, noteSteps, fill, inkOf -/
section FI3
theorem plc_le (K : Nat → Nat → Nat) (r t : Nat) : plc K r t ≤ K 5 0 ∧ (plc K r t < K 5 0 → K 6 (plc K r t) = r ∧ K 7 (plc K r t) = t) ∧ ∀ p, p < plc K r t → ¬ (K 6 p = r ∧ K 7 p = t) := by
  obtain ⟨g1, g2, g3, g4⟩ := fstp_spec (fun p => decide (K 6 p = r ∧ K 7 p = t)) (K 5 0) 0
  refine ⟨by unfold plc; omega, fun h => ?_, fun p hp => ?_⟩
  · unfold plc at h ⊢
    have := g4 (by omega)
    exact of_decide_eq_true this
  · exact of_decide_eq_false (g3 p (Nat.zero_le _) hp)
theorem plc_at {K : Nat → Nat → Nat} (hK : wfK K) {p : Nat} (hp : p < K 5 0) : plc K (K 6 p) (K 7 p) = p := by
  obtain ⟨g1, g2, g3⟩ := plc_le K (K 6 p) (K 7 p)
  generalize plc K (K 6 p) (K 7 p) = k at *
  rcases Nat.lt_trichotomy k p with h | h | h
  · obtain ⟨q1, q2⟩ := g2 (by omega)
    have := hK.2.2.1 k p h hp
    omega
  · exact h
  · exact absurd ⟨rfl, rfl⟩ (g3 p h)
theorem plc_iff {K : Nat → Nat → Nat} (hK : wfK K) {p r t : Nat} (hp : p < K 5 0) : plc K r t = p ↔ (K 6 p = r ∧ K 7 p = t) := by
  constructor
  · intro h; have := (plc_le K r t).2.1 (by omega); rw [h] at this; exact this
  · rintro ⟨rfl, rfl⟩; exact plc_at hK hp
theorem plc_src {K : Nat → Nat → Nat} (hK : wfK K) (t : Nat) : plc K 0 t = K 5 0 := by
  obtain ⟨g1, g2, _⟩ := plc_le K 0 t
  rcases Nat.lt_or_ge (plc K 0 t) (K 5 0) with h | h
  · have := (hK.2.1 _ h).1; have := g2 h; omega
  · omega
theorem e_fillA {N : Nat} (hN : N < 1000) {f : Nat → Int32} {v : Int32} : ∃ R, f_J7_fill_53178 N (fun _ => f) v = some R ∧ R 0 = fun j => if j < N then v else f j := by
  refine ⟨fun q => if q = 0 then (fun j => if j < N then v else f j) else f, ?_, rfl⟩
  have hl : f_J7_fill_53178_L5 N v (Int32.ofNat N) zfuel (0, fun _ => f) = some (fun q => if q = 0 then (fun j => if j < N then v else f j) else f) := by
    have h0 : (fun _ => f : Nat → Nat → Int32) = (fun q => if q = 0 then (fun j => if j < 0 then v else f j) else f) := by
      funext q j; by_cases h : q = 0 <;> simp [h]
    rw [h0]
    refine zfor0 (fun i => (nI i, fun q => if q = 0 then (fun j => if j < i then v else f j) else f)) N _ hN (fun i hi rec => ?_) (fun rec => ?_)
    · show f_J7_fill_53178_L5b N v (nI N) rec (nI i, _) = rec (nI (i + 1), _)
      unfold f_J7_fill_53178_L5b
      dsimp only
      rw [if_neg (nI_ge hi (by omega)), zix_nI hi (by omega), zlet_eq, nI_1]
      refine congrArg (fun z => rec (nI (i + 1), z)) ?_
      funext q j
      by_cases h : q = 0
      · by_cases h2 : j = i
        · simp [zst, upd, h, h2]
        · have : j < i ↔ j < i + 1 := by omega
          simp [zst, upd, h, h2, this]
      · simp [zst, h]
    · show f_J7_fill_53178_L5b N v (nI N) rec (nI N, _) = _
      unfold f_J7_fill_53178_L5b
      dsimp only
      rw [if_pos (nI_le (Nat.le_refl _) (by omega))]
  unfold f_J7_fill_53178
  rw [hl]; rfl
theorem zsa_same (S : Nat → Nat → Int32) (k : Nat) (f : Nat → Int32) : zsa S k f k = f := if_pos rfl
theorem zsa_ne (S : Nat → Nat → Int32) {k k' : Nat} (h : k' ≠ k) (f : Nat → Int32) : zsa S k f k' = S k' := if_neg h
theorem e_allPlaces {S : Nat → Nat → Int32} {K : Nat → Nat → Nat} (hS : repC S K) (h7 : K 5 0 ≤ 7) : f_X1_allPlaces S = some (nI (2 ^ K 5 0 - 1)) := by
  unfold f_X1_allPlaces
  have := pw_le h7
  rw [hS.1 5 (by omega), sh1 _ (by omega), l_1, pk_sub (by omega)]
theorem e_inkOfStep {S : Nat → Nat → Int32} {K : Nat → Nat → Nat} (hS : repC S K) {s a : Nat} (hs : s < 3) : f_X1_inkOfStep S (nI s) (nI a) = some (nI ((if s = 0 then 10 else 10 + K 3 0) * (K 2 0 + a))) := by
  unfold f_X1_inkOfStep
  rw [e_lengthOf hS hs, Option.bind_some, hS.1 2 (by omega), nI_add, pk_mul]
theorem e_notePlaces {S S1 : Nat → Nat → Int32} {K : Nat → Nat → Nat} (hK : wfK K) (hC : repC S1 K) : ∃ S', f_X0_notePlaces S S1 = some S' ∧ (∀ r t, r ≤ K 0 0 → t < wid K r → S' 6 (24 * r + t) = nI (pbK K r t)) ∧ ∀ k, k ≠ 6 → S' k = S k := by
  have h7 := wf7 hK
  have h9 := hK.1.2.1
  have h24 := hK.1.2.2.2.1
  obtain ⟨R, hR, hR0⟩ := e_fillA (N := 240) (by decide) (f := S 6) (v := 0)
  unfold f_X0_notePlaces
  rw [hR, Option.bind_some, zlet_eq, hR0]
  have key : ∃ ex, ((∀ r t, r ≤ K 0 0 → t < wid K r → ex 6 (24 * r + t) = nI (pbK K r t)) ∧ ∀ k, k ≠ 6 → ex k = S k) ∧ zloop (fun rec a => f_X0_notePlaces_L10b S1 rec a) zfuel (0, zsa S 6 (fun j => if j < 240 then 0 else S 6 j)) = some ex := by
    refine zinv (I := fun i a => ∃ A, a = (nI i, A) ∧ (∀ r t, r ≤ K 0 0 → t < wid K r → A 6 (24 * r + t) = nI (if plc K r t < i then 2 ^ plc K r t else 0)) ∧ ∀ k, k ≠ 6 → A k = S k) _ (K 5 0) (by omega) ?_ ?_ ?_
    · rintro i hi a ⟨A, rfl, g1, g2⟩
      obtain ⟨w1, w2, w3, w4, w5, w6⟩ := hK.2.1 i hi
      refine ⟨(nI (i + 1), zst A 6 (24 * K 6 i + K 7 i) (nI (2 ^ i))), ⟨_, rfl, fun r t hr ht => ?_, fun k hk => ?_⟩, fun rec => ?_⟩
      · have hwd := wid_le hK r
        by_cases e : 24 * r + t = 24 * K 6 i + K 7 i
        · have e1 : K 6 i = r := by omega
          have e2 : K 7 i = t := by omega
          rw [e, zst_same, ← e1, ← e2, plc_at hK hi, if_pos (by omega)]
        · rw [zst_row, upd_ne _ e, g1 r t hr ht]
          have hne : plc K r t ≠ i := fun q => e (by have := (plc_iff hK hi).mp q; rw [this.1, this.2])
          by_cases e2 : plc K r t < i
          · rw [if_pos e2, if_pos (by omega)]
          · rw [if_neg e2, if_neg (by omega)]
      · rw [zst_ne _ hk]; exact g2 k hk
      · unfold f_X0_notePlaces_L10b
        dsimp only
        rw [hC.1 5 (by omega), if_neg (nI_ge hi (by omega)), zix_nI (by omega) (by decide), zix_nI (by omega) (by decide), nI_clamp (by omega), hC.2.1 6 i (by omega) (by omega) hi, hC.2.1 7 i (by omega) (by omega) hi, e_cellOf, Option.bind_some, zix_nI (by omega) (by decide), zlet_eq, sh1 i (by omega), nI_1]
    · rintro a ⟨A, rfl, g1, g2⟩
      refine ⟨A, ⟨fun r t hr ht => g1 r t hr ht, g2⟩, fun rec => ?_⟩
      unfold f_X0_notePlaces_L10b
      dsimp only
      rw [hC.1 5 (by omega), if_pos (nI_le (Nat.le_refl _) (by omega))]
    · refine ⟨_, rfl, fun r t hr ht => ?_, fun k hk => zsa_ne _ hk _⟩
      rw [zsa_same, if_pos (cellR hK hr ht), if_neg (by omega)]; rfl
  obtain ⟨S', ⟨q1, q2⟩, hz⟩ := key
  refine ⟨S', ?_, q1, q2⟩
  show (zloop (fun rec a => f_X0_notePlaces_L10b S1 rec a) zfuel (0, zsa S 6 (fun j => if j < 240 then 0 else S 6 j))).bind _ = _
  rw [hz]; rfl
theorem e_noteSteps {S S1 : Nat → Nat → Int32} {K : Nat → Nat → Nat} (hK : wfK K) (hC : repC S1 K) : ∃ S', f_X0_noteSteps S S1 = some S' ∧ (∀ s, 0 < s → s < 2 ^ K 5 0 → S' 8 s = nI (10 * (K 2 0 + amtK K s)) ∧ S' 9 s = nI ((10 + K 3 0) * (K 2 0 + amtK K s))) ∧ ∀ k, k ≠ 8 → k ≠ 9 → S' k = S k := by
  have h7 := wf7 hK
  have hpw := pw_le h7
  have key : ∃ ex, ((∀ s, 0 < s → s < 2 ^ K 5 0 → ex 8 s = nI (10 * (K 2 0 + amtK K s)) ∧ ex 9 s = nI ((10 + K 3 0) * (K 2 0 + amtK K s))) ∧ ∀ k, k ≠ 8 → k ≠ 9 → ex k = S k) ∧ zloop (fun rec a => f_X0_noteSteps_L2b S1 rec a) zfuel (1, S) = some ex := by
    refine zinv (I := fun i a => ∃ A, a = (nI (i + 1), A) ∧ (∀ s, 0 < s → s ≤ i → A 8 s = nI (10 * (K 2 0 + amtK K s)) ∧ A 9 s = nI ((10 + K 3 0) * (K 2 0 + amtK K s))) ∧ ∀ k, k ≠ 8 → k ≠ 9 → A k = S k) _ (2 ^ K 5 0 - 1) (by omega) ?_ ?_ ?_
    · rintro i hi a ⟨A, rfl, g1, g2⟩
      refine ⟨(nI (i + 1 + 1), zst (zst A 8 (i + 1) (nI (10 * (K 2 0 + amtK K (i + 1))))) 9 (i + 1) (nI ((10 + K 3 0) * (K 2 0 + amtK K (i + 1))))), ⟨_, rfl, fun s s0 si => ?_, fun k k8 k9 => ?_⟩, fun rec => ?_⟩
      · by_cases e : s = i + 1
        · rw [e, zst_same, zst_ne _ (by omega), zst_same]; exact ⟨rfl, rfl⟩
        · rw [zst_ne _ (by omega), zst_row, upd_ne _ e, zst_row, upd_ne _ e, zst_ne _ (by omega)]; exact g1 s s0 (by omega)
      · rw [zst_ne _ k9, zst_ne _ k8]; exact g2 k k8 k9
      · unfold f_X0_noteSteps_L2b
        dsimp only
        have i0 := e_inkOfStep hC (s := 0) (a := amtK K (i + 1)) (by omega)
        have i1 := e_inkOfStep hC (s := 1) (a := amtK K (i + 1)) (by omega)
        rw [if_pos rfl] at i0
        rw [if_neg (by decide)] at i1
        rw [e_allPlaces hC h7, Option.bind_some, if_neg (nI_nlt (by omega) (by omega)), l_128, if_neg (nI_ge (by omega) (by omega)), e_amountOf hC h7 (by omega), Option.bind_some, l_0, i0, Option.bind_some, zix_nI (by omega) (by decide), zlet_eq, l_1, i1, Option.bind_some, zix_nI (by omega) (by decide), zlet_eq, nI_add]
    · rintro a ⟨A, rfl, g1, g2⟩
      refine ⟨A, ⟨fun s s0 sP => g1 s s0 (by omega), g2⟩, fun rec => ?_⟩
      unfold f_X0_noteSteps_L2b
      dsimp only
      rw [e_allPlaces hC h7, Option.bind_some, if_pos (nI_lt (by omega) (by omega))]
    · exact ⟨S, rfl, fun s s0 si => by omega, fun _ _ _ => rfl⟩
  obtain ⟨S', ⟨q1, q2⟩, hz⟩ := key
  refine ⟨S', ?_, q1, q2⟩
  show (zloop (fun rec a => f_X0_noteSteps_L2b S1 rec a) zfuel (1, S)).bind _ = _
  rw [hz]; rfl
end FI3
