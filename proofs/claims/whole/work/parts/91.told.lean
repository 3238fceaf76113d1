/-! the text: the chart that was told -/
section TLD
def sfx (qs : List zQ) : List zQ → Prop
  | [] => qs = []
  | q :: ps => qs = q :: ps ∨ sfx qs ps
theorem sfx_len {qs : List zQ} : ∀ pl : List zQ, sfx qs pl → qs.length ≤ pl.length ∧ (qs.length = pl.length → qs = pl) := by
  intro pl
  induction pl with
  | nil => intro h; have h : qs = [] := h; rw [h]; exact ⟨Nat.le_refl _, fun _ => rfl⟩
  | cons a ps ih =>
    intro h
    rcases h with h | h
    · rw [h]; exact ⟨Nat.le_refl _, fun _ => rfl⟩
    · have := (ih h).1
      exact ⟨by rw [List.length_cons]; omega, fun z => by rw [List.length_cons] at z; omega⟩
theorem sfx_next {qs : List zQ} : ∀ pl : List zQ, sfx qs pl → qs.length < pl.length → ∃ q, sfx (q :: qs) pl := by
  intro pl
  induction pl with
  | nil => intro _ h; exact absurd h (Nat.not_lt_zero _)
  | cons a ps ih =>
    intro h hl
    rcases h with h | h
    · rw [h] at hl; exact absurd hl (Nat.lt_irrefl _)
    · by_cases z : qs.length < ps.length
      · obtain ⟨q, hq⟩ := ih h z
        exact ⟨q, Or.inr hq⟩
      · have h1 := sfx_len ps h
        rw [h1.2 (by omega)]
        exact ⟨a, Or.inl rfl⟩
theorem sfx_nil : ∀ pl : List zQ, sfx [] pl := by
  intro pl
  induction pl with
  | nil => rfl
  | cons a ps ih => exact Or.inr ih
theorem sfx_rw {M : Nat → Nat → Int32} {qs : List zQ} : ∀ pl : List zQ, sfx qs pl → rwM M pl → rwM M qs := by
  intro pl
  induction pl with
  | nil => intro h hr; have h : qs = [] := h; rw [h]; exact hr
  | cons a ps ih =>
    intro h hr
    rcases h with h | h
    · rw [h]; exact hr
    · exact ih h hr.1
theorem sfx_ok {R N : Nat} {qs : List zQ} : ∀ pl : List zQ, sfx qs pl → plOK R N pl → plOK R N qs := by
  intro pl
  induction pl with
  | nil => intro h hr; have h : qs = [] := h; rw [h]; exact hr
  | cons a ps ih =>
    intro h hr
    rcases h with h | h
    · rw [h]; exact hr
    · exact ih h hr.1
theorem repM_ch {D : Nat → Nat → Int32} {R N b d h : Nat} {rk : Nat → Nat} {pl : List zQ} : repM D (chP R N b d h rk pl) ↔ (D 1 0 = nI R ∧ D 2 0 = nI N ∧ D 3 0 = nI b ∧ D 4 0 = nI d ∧ D 5 0 = nI h ∧ D 9 0 = nI pl.length ∧ (∀ k p, 6 ≤ k → k ≤ 8 → p < pl.length → D k p = nI (PL pl k p)) ∧ ∀ c, c < 240 → D 10 c = nI (rk c)) := by
  constructor
  · rintro ⟨⟨h0, h1, h2, h3, h4, h5⟩, h6, h9⟩
    refine ⟨h0, h1, h2, h3, h4, ?_, fun k p a6 a8 hp => ?_, fun c hc => h9 c hc⟩
    · rw [h5, chP_5]
    · rw [h6 k p a6 a8 (by rw [chP_5]; exact hp), chP_r _ _ _ _ _ _ _ a6 a8]
  · rintro ⟨h0, h1, h2, h3, h4, h5, h6, h9⟩
    refine ⟨⟨h0, h1, h2, h3, h4, ?_⟩, fun k p a6 a8 hp => ?_, fun c hc => h9 c hc⟩
    · rw [chP_5]; exact h5
    · rw [chP_r _ _ _ _ _ _ _ a6 a8]
      exact h6 k p a6 a8 (by rw [chP_5] at hp; exact hp)
theorem e_L121 {M : Nat → Nat → Int32} {kK R N b d h : Nat} {pl : List zQ} (hb : bdK R N b d h) (hl : pl.length ≤ 7) (hp : plOK R N pl) (h21 : M 21 0 = nI pl.length) (hr : rwM M pl) (hM : repM M (chP R N b d h (fun _ => 0) [])) : ∃ M', f_X7_text_L121 kK zfuel (0, M) = some M' ∧ repM M' (chP R N b d h (fun _ => 0) pl) ∧ ∀ k, k < 6 ∨ 9 < k → M' k = M k := by
  obtain ⟨ex, hq, e⟩ := zinv (body := fun rec a => f_X7_text_L121b kK rec a) (fun i a => a.1 = nI i ∧ ∃ qs, qs.length = i ∧ sfx qs pl ∧ repM a.2 (chP R N b d h (fun _ => 0) qs) ∧ ∀ k, k < 6 ∨ 9 < k → a.2 k = M k) (fun M' => repM M' (chP R N b d h (fun _ => 0) pl) ∧ ∀ k, k < 6 ∨ 9 < k → M' k = M k) pl.length (by omega) (by
    intro i hi a ha
    obtain ⟨a1, qs, a2, a3, a4, a5⟩ := ha
    obtain ⟨q, hq⟩ := sfx_next pl a3 (by omega)
    obtain ⟨r1, r2, r3, r4⟩ := sfx_rw pl hq hr
    have hok := sfx_ok pl hq hp
    have hbq := plOK_b _ hok q List.mem_cons_self
    have hR9 := hb.2.1
    have hN9 := hb.2.2.2.1
    have hK := chP_wf (rk := fun _ => 0) hb qs (by omega) hok.1 ⟨fun _ => Nat.zero_le _, fun _ z => absurd z (show ¬ (0 : Nat) = 1 by decide), fun _ _ => rfl⟩
    have hc5 := chP_5 R N b d h (fun _ => 0) qs
    obtain ⟨M', e1, e2, e3⟩ := e_adds hK a4 (by omega) (r := q.1) (t := q.2.1) (a := q.2.2) (by omega) (by omega)
    refine ⟨(nI (i + 1), M'), ⟨rfl, q :: qs, by rw [List.length_cons, a2], hq, ?_, fun k hk => (e3 k hk).trans (a5 k hk)⟩, fun rec => ?_⟩
    · rw [chP_cons]
      rw [hc5] at e2
      exact e2
    · unfold f_X7_text_L121b
      rw [ilen (show a.2 21 0 = nI pl.length by rw [a5 21 (by omega)]; exact h21) a1 hi (by omega), a1, l_3, pk_mul, zix_nI (by omega) (by decide), l_1, nI_add, zix_nI (by omega) (by decide), l_2, nI_add, zix_nI (by omega) (by decide), nI_clamp (by omega), nI_clamp (by omega), nI_clamp (by omega), a5 22 (by omega)]
      rw [a2] at r2 r3 r4
      rw [r2, r3, r4, e1, Option.bind_some, nI_add]) (by
    intro a ha
    obtain ⟨a1, qs, a2, a3, a4, a5⟩ := ha
    have hqs := (sfx_len pl a3).2 a2
    rw [hqs] at a4
    refine ⟨a.2, ⟨a4, a5⟩, fun rec => ?_⟩
    unfold f_X7_text_L121b
    rw [ilep (show a.2 21 0 = nI pl.length by rw [a5 21 (by omega)]; exact h21) a1 (Nat.le_refl _) (by omega)]) (a0 := (0, M)) ⟨rfl, [], rfl, sfx_nil pl, hM, fun _ _ => rfl⟩
  exact ⟨ex, e, hq⟩
theorem e_L169 {M : Nat → Nat → Int32} {kK : Nat} {rk : Nat → Nat} (hr : ∀ c, rk c ≤ 1) (h23 : ∀ c, c < 240 → M 23 c = nI (rk c)) : ∃ M', f_X7_text_L169 kK zfuel (0, M) = some M' ∧ (∀ c, c < 240 → M' 10 c = nI (rk c)) ∧ ∀ k, k ≠ 10 → M' k = M k := by
  obtain ⟨ex, hq, e⟩ := zinv (body := fun rec a => f_X7_text_L169b kK rec a) (fun i a => a.1 = nI i ∧ (∀ c, c < i → a.2 10 c = nI (rk c)) ∧ ∀ k, k ≠ 10 → a.2 k = M k) (fun M' => (∀ c, c < 240 → M' 10 c = nI (rk c)) ∧ ∀ k, k ≠ 10 → M' k = M k) 240 (by decide) (by
    intro i hi a ha
    obtain ⟨a1, a2, a3⟩ := ha
    refine ⟨(nI (i + 1), zst a.2 10 i (nI (rk i))), ⟨rfl, fun c hc => ?_, fun k hk => (zst_ne _ hk _ _).trans (a3 k hk)⟩, fun rec => ?_⟩
    · show zst a.2 10 i (nI (rk i)) 10 c = nI (rk c)
      rw [zst_row]
      by_cases z : c = i
      · rw [z, upd_same]
      · rw [upd_ne _ z]; exact a2 c (by omega)
    · have k23 : a.2 23 i = nI (rk i) := by rw [a3 23 (by decide)]; exact h23 i hi
      have hz : ∀ {α : Type} (x : Option α), zbo (nI (rk i)) x = x := by
        intro α x
        have := hr i
        rcases (show rk i = 0 ∨ rk i = 1 by omega) with z | z
        · rw [z]; exact zbo_0
        · rw [z]; exact zbo_1
      unfold f_X7_text_L169b
      rw [ilen l_240 a1 hi (by omega), a1, zix_nI (by omega) (by decide), nI_clamp (by omega), k23, hz, zix_nI (by omega) (by decide), zlet_eq, l_1, nI_add]) (by
    intro a ha
    obtain ⟨a1, a2, a3⟩ := ha
    refine ⟨a.2, ⟨a2, a3⟩, fun rec => ?_⟩
    unfold f_X7_text_L169b
    rw [ilep l_240 a1 (Nat.le_refl _) (by omega)]) (a0 := (0, M)) ⟨rfl, fun c hc => absurd hc (Nat.not_lt_zero _), fun k _ => rfl⟩
  exact ⟨ex, e, hq⟩
theorem e_L68 {M : Nat → Nat → Int32} {kK : Nat} : ∃ M', f_X7_text_L68 kK zfuel (0, M) = some M' ∧ (∀ c, c < 240 → M' 23 c = 0) ∧ ∀ k, k ≠ 23 → M' k = M k := by
  obtain ⟨ex, hq, e⟩ := zinv (body := fun rec a => f_X7_text_L68b kK rec a) (fun i a => a.1 = nI i ∧ (∀ c, c < i → a.2 23 c = 0) ∧ ∀ k, k ≠ 23 → a.2 k = M k) (fun M' => (∀ c, c < 240 → M' 23 c = 0) ∧ ∀ k, k ≠ 23 → M' k = M k) 240 (by decide) (by
    intro i hi a ha
    obtain ⟨a1, a2, a3⟩ := ha
    refine ⟨(nI (i + 1), zst a.2 23 i 0), ⟨rfl, fun c hc => ?_, fun k hk => (zst_ne _ hk _ _).trans (a3 k hk)⟩, fun rec => ?_⟩
    · show zst a.2 23 i 0 23 c = 0
      rw [zst_row]
      by_cases z : c = i
      · rw [z, upd_same]
      · rw [upd_ne _ z]; exact a2 c (by omega)
    · unfold f_X7_text_L68b
      rw [ilen l_240 a1 hi (by omega), a1, zix_nI (by omega) (by decide), zlet_eq, l_1, nI_add]) (by
    intro a ha
    obtain ⟨a1, a2, a3⟩ := ha
    refine ⟨a.2, ⟨a2, a3⟩, fun rec => ?_⟩
    unfold f_X7_text_L68b
    rw [ilep l_240 a1 (Nat.le_refl _) (by omega)]) (a0 := (0, M)) ⟨rfl, fun c hc => absurd hc (Nat.not_lt_zero _), fun k _ => rfl⟩
  exact ⟨ex, e, hq⟩
end TLD
