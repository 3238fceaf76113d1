/-! the text: the line of rocks -/
section RLN
def rkA (r t N : Nat) (rk : Nat → Nat) : Nat → Nat → Nat
  | 0 => rk
  | i + 1 => fun c => if c = 24 * r + (t + i) % N then 1 else rkA r t N rk i c
def hitP (pl : List zQ) (r t N i : Nat) : Prop := ∃ j, j < i ∧ inP pl r ((t + j) % N)
theorem hitP_s {pl : List zQ} {r t N i : Nat} : hitP pl r t N (i + 1) ↔ (hitP pl r t N i ∨ inP pl r ((t + i) % N)) := by
  constructor
  · rintro ⟨j, h1, h2⟩
    by_cases z : j = i
    · rw [z] at h2; exact Or.inr h2
    · exact Or.inl ⟨j, by omega, h2⟩
  · rintro (⟨j, h1, h2⟩ | h)
    · exact ⟨j, by omega, h2⟩
    · exact ⟨i, by omega, h⟩
theorem hitP_m {pl : List zQ} {r t N i j : Nat} (h : i ≤ j) : hitP pl r t N i → hitP pl r t N j := fun ⟨k, h1, h2⟩ => ⟨k, by omega, h2⟩
theorem rkA_ok {R N b d h r t : Nat} {rk : Nat → Nat} {pl : List zQ} (hw : wfP R N b d h rk pl) (hr1 : 1 ≤ r) (hr2 : r ≤ R) : ∀ i, ¬ hitP pl r t N i → wfP R N b d h (rkA r t N rk i) pl := by
  obtain ⟨b1, b2, b3, b4, _⟩ := hw.1
  have hbd := plOK_b pl hw.2.1
  intro i
  induction i with
  | zero => intro _; exact hw
  | succ i ih =>
    intro hh
    have hu := Nat.mod_lt (t + i) (show 0 < N by omega)
    obtain ⟨w1, w2, ⟨w3, w4, w5⟩, w6⟩ := ih fun z => hh (hitP_m (by omega) z)
    refine ⟨w1, w2, ⟨fun c => ?_, fun c hc => ?_, fun q hq => ?_⟩, w6⟩
    · show (if c = 24 * r + (t + i) % N then 1 else rkA r t N rk i c) ≤ 1
      split
      · exact Nat.le_refl _
      · exact w3 c
    · by_cases z : c = 24 * r + (t + i) % N
      · generalize (t + i) % N = u at z hu
        have h1 : c / 24 = r := by omega
        have h2 : c % 24 = u := by omega
        omega
      · have hc : (if c = 24 * r + (t + i) % N then 1 else rkA r t N rk i c) = 1 := hc
        rw [if_neg z] at hc
        exact w4 c hc
    · show (if 24 * q.1 + q.2.1 = 24 * r + (t + i) % N then 1 else rkA r t N rk i (24 * q.1 + q.2.1)) = 0
      have hq' := hbd q hq
      rw [if_neg (fun z => hh (hitP_s.mpr (Or.inr ⟨q, hq, by omega, by omega⟩)))]
      exact w5 q hq
theorem nb_mod {N t i : Nat} (hN : 0 < N) : nb N ((t + i) % N) 2 = (t + (i + 1)) % N := by
  have hu := Nat.mod_lt (t + i) hN
  unfold nb
  rw [if_neg (by decide), if_pos rfl, ← Nat.add_assoc, Nat.add_mod (t + i) 1]
  by_cases z : (t + i) % N = N - 1
  · rw [if_pos z, z]
    by_cases e : N = 1
    · rw [e]
    · rw [Nat.mod_eq_of_lt (show 1 < N by omega), show N - 1 + 1 = N by omega, Nat.mod_self]
  · rw [if_neg z, Nat.mod_eq_of_lt (show 1 < N by omega), Nat.mod_eq_of_lt (show (t + i) % N + 1 < N by omega)]
theorem repC_rk {D : Nat → Nat → Int32} {R N b d h c : Nat} {rk rk' : Nat → Nat} {pl : List zQ} (hD : repC D (chP R N b d h rk pl)) (h' : ∀ x, rk' x = if x = c then 1 else rk x) : repC (zst D 9 c 1) (chP R N b d h rk' pl) := by
  obtain ⟨h0, h1, h2, h3, h4, h5, h6, h9⟩ := repC_ch.mp hD
  refine repC_ch.mpr ⟨by rw [zst_ne _ (by decide)]; exact h0, by rw [zst_ne _ (by decide)]; exact h1, by rw [zst_ne _ (by decide)]; exact h2, by rw [zst_ne _ (by decide)]; exact h3, by rw [zst_ne _ (by decide)]; exact h4, by rw [zst_ne _ (by decide)]; exact h5, fun k p a6 a8 hp => by rw [zst_ne _ (by omega)]; exact h6 k p a6 a8 hp, fun x hx => ?_⟩
  rw [zst_row, h']
  by_cases z : x = c
  · rw [if_pos z, z, upd_same]; rfl
  · rw [if_neg z, upd_ne _ z]; exact h9 x hx
theorem L36_f {S D : Nat → Nat → Int32} {v w x i : Int32} (h : ¬ S 7 0 = 0) : f_X4_readRocks_L36 v w zfuel (x, i, S, D) = some (S, D) := by
  obtain ⟨ex, h1, h2⟩ := zinv (body := fun rec a => f_X4_readRocks_L36b v w rec a) (fun _ a => a.2.2 = (S, D)) (fun ex => ex = (S, D)) 0 (by decide) (fun i hi => absurd hi (Nat.not_lt_zero _)) (by
    intro a ha
    refine ⟨_, rfl, fun rec => ?_⟩
    unfold f_X4_readRocks_L36b
    rw [ha]
    by_cases z : w ≤ a.2.1
    · rw [if_pos z]
    · rw [if_neg z]; exact if_neg h) (a0 := (x, i, S, D)) rfl
  unfold f_X4_readRocks_L36
  rw [h2, h1]
theorem e_rocksC {S D : Nat → Nat → Int32} {R N b d h r t m s : Nat} {rk : Nat → Nat} {pl : List zQ} (h7 : S 7 0 = 0) (h5 : S 5 0 = nI s) (hs : s ≤ 500) (hD : repC D (chP R N b d h rk pl)) (hw : wfP R N b d h rk pl) (hr1 : 1 ≤ r) (hr2 : r ≤ R) (ht : t < N) (hm : m ≤ N) : ∃ S' D', f_X4_readRocks_L36 (nI r) (nI m) zfuel (nI t, 0, S, D) = some (S', D') ∧ (¬ hitP pl r t N m → S' = S ∧ repC D' (chP R N b d h (rkA r t N rk m) pl)) ∧ (hitP pl r t N m → S' = zst S 7 0 (nI (8 * s + 3))) := by
  obtain ⟨b1, b2, b3, b4, _⟩ := hw.1
  have hf : ¬ (zst S 7 0 (nI (8 * s + 3))) 7 0 = 0 := n0 (f := 8 * s + 3) (by omega) (by omega) (zst_same _ _ _ _)
  obtain ⟨ex, hq, e⟩ := zinvE (body := fun rec a => f_X4_readRocks_L36b (nI r) (nI m) rec a) (fun i a => a.2.1 = nI i ∧ ((¬ hitP pl r t N i ∧ a.1 = nI ((t + i) % N) ∧ a.2.2.1 = S ∧ repC a.2.2.2 (chP R N b d h (rkA r t N rk i) pl)) ∨ (hitP pl r t N m ∧ a.2.2.1 = zst S 7 0 (nI (8 * s + 3))))) (fun ex => (¬ hitP pl r t N m → ex.1 = S ∧ repC ex.2 (chP R N b d h (rkA r t N rk m) pl)) ∧ (hitP pl r t N m → ex.1 = zst S 7 0 (nI (8 * s + 3)))) m (by omega) (by
    intro i hi a ha
    obtain ⟨a1, ⟨a2, a3, a4, a5⟩ | ⟨a2, a3⟩⟩ := ha
    · refine Or.inl ?_
      have hu := Nat.mod_lt (t + i) (show 0 < N by omega)
      have hw' := rkA_ok (t := t) hw hr1 hr2 i a2
      have hD' : repC (zst a.2.2.2 9 (24 * r + (t + i) % N) 1) (chP R N b d h (rkA r t N rk (i + 1)) pl) := repC_rk a5 fun x => rfl
      obtain ⟨w, x1, x2, x3⟩ := e_placeAtP a5 hw' (r := r) (t := (t + i) % N) (by omega) (by omega)
      have hJ : ∀ rec S1, f_X4_readRocks_J65 rec S1 a.2.2.2 (nI r) (nI ((t + i) % N)) (nI m) (nI i) = rec (nI ((t + (i + 1)) % N), nI (i + 1), S1, zst a.2.2.2 9 (24 * r + (t + i) % N) 1) := by
        intro rec S1
        unfold f_X4_readRocks_J65
        rw [e_cellOf, Option.bind_some, zix_nI (by omega) (by decide), zlet_eq, show f_X1_turnBeside (zst a.2.2.2 9 (24 * r + (t + i) % N) 1) (nI ((t + i) % N)) 2 = _ from e_turnBeside (s := 2) hD' (show 1 ≤ N by omega) (show N ≤ 24 from b4) (show (t + i) % N < N from hu) (by decide), Option.bind_some, l_1, nI_add]
        show rec (nI (nb N ((t + i) % N) 2), _) = _
        rw [nb_mod (by omega)]
      by_cases z : inP pl r ((t + i) % N)
      · refine ⟨(nI ((t + (i + 1)) % N), nI (i + 1), zst S 7 0 (nI (8 * s + 3)), zst a.2.2.2 9 (24 * r + (t + i) % N) 1), ⟨rfl, Or.inr ⟨hitP_m (show i + 1 ≤ m by omega) (hitP_s.mpr (Or.inr z)), rfl⟩⟩, fun rec => ?_⟩
        unfold f_X4_readRocks_L36b
        rw [ilen rfl a1 hi (by omega), a4, if_pos h7, a3, x1, Option.bind_some, if_neg (x2 z), show f_X4_fail S 3 = _ from e_fail (k := 3) h7 h5, Option.bind_some, a1, hJ]
      · refine ⟨(nI ((t + (i + 1)) % N), nI (i + 1), S, zst a.2.2.2 9 (24 * r + (t + i) % N) 1), ⟨rfl, Or.inl ⟨fun w => (hitP_s.mp w).elim a2 z, rfl, rfl, hD'⟩⟩, fun rec => ?_⟩
        unfold f_X4_readRocks_L36b
        rw [ilen rfl a1 hi (by omega), a4, if_pos h7, a3, x1, Option.bind_some, if_pos (x3 z), a1, hJ]
    · refine Or.inr ⟨(zst S 7 0 (nI (8 * s + 3)), a.2.2.2), ⟨fun w => absurd a2 w, fun _ => rfl⟩, fun rec => ?_⟩
      unfold f_X4_readRocks_L36b
      rw [ilen rfl a1 hi (by omega), a3, if_neg hf]) (by
    intro a ha
    refine ⟨(a.2.2.1, a.2.2.2), ?_, fun rec => ?_⟩
    · obtain ⟨a1, ⟨a2, a3, a4, a5⟩ | ⟨a2, a3⟩⟩ := ha
      · exact ⟨fun _ => ⟨a4, a5⟩, fun w => absurd w a2⟩
      · exact ⟨fun w => absurd a2 w, fun _ => a3⟩
    · unfold f_X4_readRocks_L36b
      rw [ilep rfl ha.1 (Nat.le_refl _) (by omega)]) (a0 := (nI t, 0, S, D)) ⟨rfl, Or.inl ⟨fun ⟨j, j1, _⟩ => absurd j1 (Nat.not_lt_zero _), by rw [Nat.add_zero, Nat.mod_eq_of_lt ht], rfl, hD⟩⟩
  exact ⟨ex.1, ex.2, e, hq.1, hq.2⟩
theorem e_L60 {M : Nat → Nat → Int32} {R N b d h r t m : Nat} {rk : Nat → Nat} {pl : List zQ} (hR : rdM M R N b d h rk pl) (hw : wfP R N b d h rk pl) (hr : r ≤ R) (ht : t < N) (hm : m ≤ N) (h25 : M 25 0 = nI m) : ∃ v, f_X7_rocksLine_L60 M (nI r) (nI t) zfuel 0 = some v ∧ (hitP pl r t N m → v = 0) ∧ (¬ hitP pl r t N m → v = 1) := by
  obtain ⟨b1, b2, b3, b4, _⟩ := hw.1
  obtain ⟨ex, hq, e⟩ := zinvE (body := fun rec a => f_X7_rocksLine_L60b M (nI r) (nI t) rec a) (fun i a => a = nI i ∧ ¬ hitP pl r t N i) (fun v => (hitP pl r t N m → v = 0) ∧ (¬ hitP pl r t N m → v = 1)) m (by omega) (by
    intro i hi a ha
    obtain ⟨rfl, a2⟩ := ha
    have hu := Nat.mod_lt (t + i) (show 0 < N by omega)
    obtain ⟨w, x1, x2, x3⟩ := e_isRead hR hw (r := r) (t := (t + i) % N) (by omega) (by omega)
    have hb : ∀ rec, f_X7_rocksLine_L60b M (nI r) (nI t) rec (nI i) = if w = 0 then rec (nI (i + 1)) else some 0 := by
      intro rec
      unfold f_X7_rocksLine_L60b znz
      rw [ilen h25 rfl hi (by omega), ieqn hR.2.1 l_0 (by omega) (by omega) (by omega), hR.2.1, nI_add, pk_rem (by omega) (by omega) (by omega), x1, Option.bind_some, l_1, nI_add]
    by_cases z : inP pl r ((t + i) % N)
    · refine Or.inr ⟨0, ⟨fun _ => rfl, fun q => absurd (hitP_m (show i + 1 ≤ m by omega) (hitP_s.mpr (Or.inr z))) q⟩, fun rec => ?_⟩
      rw [hb, x2 z, if_neg (show ¬ (1 : Int32) = 0 by decide)]
    · refine Or.inl ⟨nI (i + 1), ⟨rfl, fun q => (hitP_s.mp q).elim a2 z⟩, fun rec => ?_⟩
      rw [hb, x3 z, if_pos rfl]) (by
    intro a ha
    obtain ⟨rfl, a2⟩ := ha
    refine ⟨1, ⟨fun q => absurd q a2, fun _ => rfl⟩, fun rec => ?_⟩
    unfold f_X7_rocksLine_L60b
    rw [ilep h25 rfl (Nat.le_refl _) (by omega)]) (a0 := 0) ⟨rfl, fun ⟨j, j1, _⟩ => absurd j1 (Nat.not_lt_zero _)⟩
  exact ⟨ex, e, hq⟩
theorem e_L102 {M : Nat → Nat → Int32} {R N r t m : Nat} {rk : Nat → Nat} (h20 : M 20 0 = nI N) (h23 : ∀ c, c < 240 → M 23 c = nI (rk c)) (h25 : M 25 0 = nI m) (hR : R ≤ 9) (hN : 1 ≤ N) (hN2 : N ≤ 24) (hr : r ≤ R) (ht : t < N) (hm : m ≤ N) : ∃ M', f_X7_rocksLine_L102 (nI r) (nI t) zfuel (0, M) = some M' ∧ (∀ c, c < 240 → M' 23 c = nI (rkA r t N rk m c)) ∧ ∀ k, k ≠ 23 → M' k = M k := by
  obtain ⟨ex, hq, e⟩ := zinv (body := fun rec a => f_X7_rocksLine_L102b (nI r) (nI t) rec a) (fun i a => a.1 = nI i ∧ (∀ c, c < 240 → a.2 23 c = nI (rkA r t N rk i c)) ∧ ∀ k, k ≠ 23 → a.2 k = M k) (fun M' => (∀ c, c < 240 → M' 23 c = nI (rkA r t N rk m c)) ∧ ∀ k, k ≠ 23 → M' k = M k) m (by omega) (by
    intro i hi a ha
    obtain ⟨a1, a2, a3⟩ := ha
    have hu := Nat.mod_lt (t + i) (show 0 < N by omega)
    refine ⟨(nI (i + 1), zst a.2 23 (24 * r + (t + i) % N) 1), ⟨rfl, fun c hc => ?_, fun k hk => (zst_ne _ hk _ _).trans (a3 k hk)⟩, fun rec => ?_⟩
    · show zst a.2 23 (24 * r + (t + i) % N) 1 23 c = nI (if c = 24 * r + (t + i) % N then 1 else rkA r t N rk i c)
      rw [zst_row]
      by_cases z : c = 24 * r + (t + i) % N
      · rw [if_pos z, z, upd_same]; rfl
      · rw [if_neg z, upd_ne _ z]; exact a2 c hc
    · have k20 : a.2 20 0 = nI N := by rw [a3 20 (by decide)]; exact h20
      have k25 : a.2 25 0 = nI m := by rw [a3 25 (by decide)]; exact h25
      unfold f_X7_rocksLine_L102b znz
      rw [ilen k25 a1 hi (by omega), ieqn k20 l_0 (by omega) (by omega) (by omega), k20, a1, nI_add, pk_rem (by omega) (by omega) (by omega), e_cellM, Option.bind_some, zix_nI (by omega) (by decide), zlet_eq, l_1, nI_add]) (by
    intro a ha
    obtain ⟨a1, a2, a3⟩ := ha
    refine ⟨a.2, ⟨a2, a3⟩, fun rec => ?_⟩
    have k25 : a.2 25 0 = nI m := by rw [a3 25 (by decide)]; exact h25
    unfold f_X7_rocksLine_L102b
    rw [ilep k25 a1 (Nat.le_refl _) (by omega)]) (a0 := (0, M)) ⟨rfl, h23, fun k _ => rfl⟩
  exact ⟨ex, e, hq⟩
end RLN
