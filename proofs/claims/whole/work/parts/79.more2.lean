/-! more: the reference's loop, the class's newcomer -/
section MO2
def morI (F what : Nat) : Int32 := if F < INF then (if what = 0 then nI (F / 240) else if what = 1 then nI (F % 240 / 24) else nI (F % 240 % 24)) else -2
theorem e_moreL {M : Nat → Nat → Int32} {K : Nat → Nat → Nat} {b w : Nat → Nat} (hK : wfK K) (hM : repM M K) (hT : treeM M K b w) (hW : wfT K b w) {a R : Nat} {v2 v4 : Int32} (ha : a ≤ 99) (hR : R ≤ K 0 0) (h0 : mvM M 0 0) : ∃ M', f_X7_more_L84 (nI R) v2 (nI a) v4 zfuel (1, M) = some M' ∧ (∀ r t, 1 ≤ r → r ≤ R → t < K 1 0 → mvM M' (24 * r + t) (mvF K w a r t)) ∧ ∀ k, k ≠ 32 → k ≠ 33 → k ≠ 34 → M' k = M k := by
  have h9 := hK.1.2.1
  have h24 := hK.1.2.2.2.1
  have h6 := hK.1.2.2.1
  have ring : ∀ r (A : Nat → Nat → Int32), r + 1 ≤ K 0 0 → (∀ k, k ≠ 32 → k ≠ 33 → k ≠ 34 → A k = M k) → mvM A 0 0 → (∀ t, 1 ≤ r → t < K 1 0 → mvM A (24 * r + t) (mvF K w a r t)) → ∃ ex : Nat → Nat → Int32, ((∀ t, t < K 1 0 → mvM ex (24 * (r + 1) + t) (mvF K w a (r + 1) t)) ∧ (∀ c, c < 24 * (r + 1) → ex 32 c = A 32 c ∧ ex 33 c = A 33 c ∧ ex 34 c = A 34 c) ∧ ∀ k, k ≠ 32 → k ≠ 33 → k ≠ 34 → ex k = M k) ∧ zloop (fun rec x => f_X7_more_L93b (nI R) v2 (nI a) v4 (nI (r + 1)) rec x) zfuel (0, A) = some ex := by
    intro r A hr hA hA0 hAr
    refine zinv (I := fun i x => ∃ B, x = (nI i, B) ∧ (∀ t, t < i → mvM B (24 * (r + 1) + t) (mvF K w a (r + 1) t)) ∧ (∀ c, c < 24 * (r + 1) → B 32 c = A 32 c ∧ B 33 c = A 33 c ∧ B 34 c = A 34 c) ∧ ∀ k, k ≠ 32 → k ≠ 33 → k ≠ 34 → B k = M k) _ (K 1 0) (by omega) ?_ ?_ ?_
    · rintro i hi x ⟨B, rfl, g1, g2, g3⟩
      have hB : repM B K := repM_fr (fun k hk => g3 k (by omega) (by omega) (by omega)) hM
      have hTB : treeM B K b w := fun c hc => by rw [g3 26 (by decide) (by decide) (by decide), g3 27 (by decide) (by decide) (by decide)]; exact hT c hc
      obtain ⟨B', e1, e2, e3, e4⟩ := e_laysMore (a := a) (r := r) (t := i) hK hB hTB hW ha hr hi (fun s hs => by
        have hcell : tg (K 1 0) (r + 1) i s = 24 * r + tgt K r i s := by
          unfold tg tgt
          by_cases e : r = 0
          · rw [if_pos (by omega), if_pos e, e]
          · rw [if_neg (by omega), if_neg e]; rfl
        by_cases e : r = 0
        · subst e
          obtain ⟨z1, z2, z3⟩ := g2 0 (by omega)
          exact mvM_fr z1 z2 z3 hA0
        · have htt : tgt K r i s < K 1 0 := by unfold tgt; rw [if_neg e]; exact nb_lt s hi
          rw [hcell]
          obtain ⟨z1, z2, z3⟩ := g2 (24 * r + tgt K r i s) (by omega)
          exact mvM_fr z1 z2 z3 (hAr _ (by omega) htt))
      refine ⟨(nI (i + 1), B'), ⟨B', rfl, fun t ht => ?_, fun c hc => ?_, fun k k1 k2 k3 => by rw [e4 k k1 k2 k3]; exact g3 k k1 k2 k3⟩, fun rec => ?_⟩
      · by_cases e : t = i
        · rw [e]; exact e2
        · obtain ⟨z1, z2, z3⟩ := e3 (24 * (r + 1) + t) (by omega)
          exact mvM_fr z1 z2 z3 (g1 t (by omega))
      · obtain ⟨z1, z2, z3⟩ := e3 c (by omega)
        rw [z1, z2, z3]; exact g2 c hc
      · unfold f_X7_more_L93b
        dsimp only
        rw [ilen hB.1.2.1 rfl hi (by omega), e1, Option.bind_some, nI_1]
    · rintro x ⟨B, rfl, g1, g2, g3⟩
      have hB : repM B K := repM_fr (fun k hk => g3 k (by omega) (by omega) (by omega)) hM
      refine ⟨B, ⟨g1, g2, g3⟩, fun rec => ?_⟩
      unfold f_X7_more_L93b
      dsimp only
      rw [ilep hB.1.2.1 rfl (Nat.le_refl _) (by omega)]
    · exact ⟨A, rfl, fun t ht => by omega, fun _ _ => ⟨rfl, rfl, rfl⟩, hA⟩
  have key : ∃ ex : Nat → Nat → Int32, ((∀ r t, 1 ≤ r → r ≤ R → t < K 1 0 → mvM ex (24 * r + t) (mvF K w a r t)) ∧ ∀ k, k ≠ 32 → k ≠ 33 → k ≠ 34 → ex k = M k) ∧ zloop (fun rec x => f_X7_more_L84b (nI R) v2 (nI a) v4 rec x) zfuel (1, M) = some ex := by
    refine zinv (I := fun i x => ∃ B, x = (nI (i + 1), B) ∧ mvM B 0 0 ∧ (∀ r t, 1 ≤ r → r ≤ i → t < K 1 0 → mvM B (24 * r + t) (mvF K w a r t)) ∧ ∀ k, k ≠ 32 → k ≠ 33 → k ≠ 34 → B k = M k) _ R (by omega) ?_ ?_ ?_
    · rintro i hi x ⟨B, rfl, g0, g1, g3⟩
      obtain ⟨ex, ⟨e1, e2, e3⟩, e4⟩ := ring i B (by omega) g3 g0 (fun t h1 ht => g1 i t h1 (Nat.le_refl _) ht)
      refine ⟨(nI (i + 1 + 1), ex), ⟨ex, rfl, ?_, fun r t h1 h2 h3 => ?_, e3⟩, fun rec => ?_⟩
      · obtain ⟨z1, z2, z3⟩ := e2 0 (by omega)
        exact mvM_fr z1 z2 z3 g0
      · by_cases e : r = i + 1
        · rw [e]; exact e1 t h3
        · obtain ⟨z1, z2, z3⟩ := e2 (24 * r + t) (by omega)
          exact mvM_fr z1 z2 z3 (g1 r t h1 (by omega) h3)
      · unfold f_X7_more_L84b
        dsimp only
        rw [if_neg (nI_nlt (by omega) (by omega))]
        show (zloop (fun rec x => f_X7_more_L93b (nI R) v2 (nI a) v4 (nI (i + 1)) rec x) zfuel (0, B)).bind _ = _
        rw [e4, Option.bind_some, nI_1]
    · rintro x ⟨B, rfl, g0, g1, g3⟩
      refine ⟨B, ⟨g1, g3⟩, fun rec => ?_⟩
      unfold f_X7_more_L84b
      dsimp only
      rw [if_pos (nI_lt (by omega) (by omega))]
    · exact ⟨M, rfl, h0, fun r t h1 h2 => by omega, fun _ _ _ _ => rfl⟩
  obtain ⟨M', ⟨q1, q2⟩, hz⟩ := key
  exact ⟨M', hz, q1, q2⟩
/-! the newcomer -/
def NW : Nat := 1000000
def nwR (S : Nat → Nat → Int32) (ow : Nat → Nat) (e : Nat) : Prop := (∀ c, c < 240 → ow c ≤ NW ∧ S 4 c = if ow c = NW then -1 else nI (ow c)) ∧ e ≤ INF ∧ (e = INF → S 3 0 = 0) ∧ (e < INF → S 3 0 = 1 ∧ S 0 0 = nI (e / 240) ∧ S 1 0 = nI (e % 240 / 24) ∧ S 2 0 = nI (e % 240 % 24))
theorem e_offer {S : Nat → Nat → Int32} {ow : Nat → Nat} {e v jr jt : Nat} (h : nwR S ow e) (hv : v < 1000000000) (hjr : jr < 10) (hjt : jt < 24) : ∃ S', f_X3_offer S (nI jr) (nI jt) (nI v) = some S' ∧ nwR S' ow (if 240 * v + (24 * jr + jt) < e then 240 * v + (24 * jr + jt) else e) := by
  obtain ⟨h1, h2, h3, h4⟩ := h
  have hnew : 240 * v + (24 * jr + jt) < INF := by unfold INF; omega
  have set1 : nwR (zst (zst (zst (zst S 3 0 1) 0 0 (nI v)) 1 0 (nI jr)) 2 0 (nI jt)) ow (240 * v + (24 * jr + jt)) := by
    refine ⟨fun c hc => ?_, by omega, fun z => by omega, fun _ => ⟨?_, ?_, ?_, ?_⟩⟩
    · rw [zst_ne _ (by decide), zst_ne _ (by decide), zst_ne _ (by decide), zst_ne _ (by decide)]; exact h1 c hc
    · rw [zst_ne _ (by decide), zst_ne _ (by decide), zst_ne _ (by decide), zst_same]
    · rw [zst_ne _ (by decide), zst_ne _ (by decide), zst_same, show (240 * v + (24 * jr + jt)) / 240 = v by omega]
    · rw [zst_ne _ (by decide), zst_same, show (240 * v + (24 * jr + jt)) % 240 / 24 = jr by omega]
    · rw [zst_same, show (240 * v + (24 * jr + jt)) % 240 % 24 = jt by omega]
  have j59 : f_X3_offer_J59 S (nI jr) (nI jt) (nI v) = some (zst (zst (zst (zst S 3 0 1) 0 0 (nI v)) 1 0 (nI jr)) 2 0 (nI jt)) := rfl
  by_cases he : e = INF
  · have h30 := h3 he
    have j29 : ∀ k, f_X3_offer_J29 S (nI jr) (nI jt) (nI v) k = some (zst (zst (zst (zst S 3 0 1) 0 0 (nI v)) 1 0 (nI jr)) 2 0 (nI jt)) := fun k => by
      unfold f_X3_offer_J29; rw [if_pos h30]; exact j59
    rw [if_pos (by omega)]
    refine ⟨_, ?_, set1⟩
    unfold f_X3_offer f_X3_offer_J24 f_X3_offer_J28
    rw [j29, j29]
    split
    · rfl
    · split
      · split <;> rfl
      · rfl
  · obtain ⟨q1, q2, q3, q4⟩ := h4 (by omega)
    have heb : e / 240 < 1000000000 := by unfold INF at h2 he; omega
    have j290 : f_X3_offer_J29 S (nI jr) (nI jt) (nI v) 0 = some (if v < e / 240 then zst (zst (zst (zst S 3 0 1) 0 0 (nI v)) 1 0 (nI jr)) 2 0 (nI jt) else S) := by
      unfold f_X3_offer_J29
      rw [if_neg (show ¬ S 3 0 = 0 by rw [q1]; decide), j59]
      by_cases z1 : v < e / 240
      · rw [if_pos (show nI v < S 0 0 by rw [q2]; exact nI_lt z1 (by omega)), if_pos z1]
      · rw [if_neg (show ¬ nI v < S 0 0 by rw [q2]; exact nI_nlt (by omega) (by omega)), if_neg z1, if_pos (show (0 : Int32) = 0 from rfl)]
        split <;> rfl
    have j291 : f_X3_offer_J29 S (nI jr) (nI jt) (nI v) 1 = some (if v ≤ e / 240 then zst (zst (zst (zst S 3 0 1) 0 0 (nI v)) 1 0 (nI jr)) 2 0 (nI jt) else S) := by
      unfold f_X3_offer_J29
      rw [if_neg (show ¬ S 3 0 = 0 by rw [q1]; decide), j59]
      by_cases z1 : v < e / 240
      · rw [if_pos (show nI v < S 0 0 by rw [q2]; exact nI_lt z1 (by omega)), if_pos (by omega)]
      · rw [if_neg (show ¬ nI v < S 0 0 by rw [q2]; exact nI_nlt (by omega) (by omega)), if_neg (show ¬ (1 : Int32) = 0 by decide)]
        by_cases z2 : v = e / 240
        · rw [if_pos (show nI v = S 0 0 by rw [q2, z2]), if_pos (by omega)]
        · rw [if_neg (show ¬ nI v = S 0 0 by rw [q2]; exact fun y => z2 ((nI_eq (by omega) (by omega)).mp y)), if_neg (by omega)]
    have main : f_X3_offer S (nI jr) (nI jt) (nI v) = some (if 240 * v + (24 * jr + jt) < e then zst (zst (zst (zst S 3 0 1) 0 0 (nI v)) 1 0 (nI jr)) 2 0 (nI jt) else S) := by
      unfold f_X3_offer f_X3_offer_J24 f_X3_offer_J28
      rw [j290, j291]
      by_cases z1 : jr < e % 240 / 24
      · rw [if_pos (show nI jr < S 1 0 by rw [q3]; exact nI_lt z1 (by omega))]
        by_cases y : v ≤ e / 240
        · rw [if_pos y, if_pos (by omega)]
        · rw [if_neg y, if_neg (by omega)]
      · rw [if_neg (show ¬ nI jr < S 1 0 by rw [q3]; exact nI_nlt (by omega) (by omega))]
        by_cases z2 : jr = e % 240 / 24
        · rw [if_pos (show nI jr = S 1 0 by rw [q3, z2])]
          by_cases z3 : e % 240 % 24 ≤ jt
          · rw [if_pos (show S 2 0 ≤ nI jt by rw [q4]; exact nI_le z3 (by omega))]
            by_cases y : v < e / 240
            · rw [if_pos y, if_pos (by omega)]
            · rw [if_neg y, if_neg (by omega)]
          · rw [if_neg (show ¬ S 2 0 ≤ nI jt by rw [q4]; exact nI_ge (by omega) (by omega))]
            by_cases y : v ≤ e / 240
            · rw [if_pos y, if_pos (by omega)]
            · rw [if_neg y, if_neg (by omega)]
        · rw [if_neg (show ¬ nI jr = S 1 0 by rw [q3]; exact fun y => z2 ((nI_eq (by omega) (by omega)).mp y))]
          by_cases y : v < e / 240
          · rw [if_pos y, if_pos (by omega)]
          · rw [if_neg y, if_neg (by omega)]
    rw [main]
    by_cases z : 240 * v + (24 * jr + jt) < e
    · rw [if_pos z, if_pos z]; exact ⟨_, rfl, set1⟩
    · rw [if_neg z, if_neg z]; exact ⟨S, rfl, h1, h2, h3, h4⟩
end MO2
