/-! the text: tokens of both -/
section TOK
abbrev isB (c : Nat) : Prop := c = 32 ∨ c = 10
abbrev isL (c : Nat) : Prop := 97 ≤ c ∧ c ≤ 122
abbrev isD (c : Nat) : Prop := 48 ≤ c ∧ c ≤ 57
def skp (y : Nat → Nat) (n p : Nat) : Nat := fstp (fun i => decide (¬ isB (y i))) (n - p) p
def wen (y : Nat → Nat) (n s : Nat) : Nat := fstp (fun i => decide (¬ isL (y i))) (n - s) s
def den (y : Nat → Nat) (n s : Nat) : Nat := fstp (fun i => decide (¬ isD (y i))) (n - s) s
def vls (y : Nat → Nat) (s : Nat) : Nat → Nat
  | 0 => 0
  | k + 1 => if k < 3 then 10 * vls y s k + (y (s + k) - 48) else vls y s k
def kdc (c : Nat) : Nat := if isL c then 1 else if isD c then 2 else if c = 59 then 3 else 4
def tkK (y : Nat → Nat) (n p : Nat) : Nat := if n ≤ skp y n p then 0 else if isL (y (skp y n p)) then 1 else if isD (y (skp y n p)) then (if den y n (skp y n p) - skp y n p ≤ 3 then 2 else 4) else if y (skp y n p) = 59 then 3 else 4
def tkE (y : Nat → Nat) (n p : Nat) : Nat := if n ≤ skp y n p then skp y n p else if isL (y (skp y n p)) then wen y n (skp y n p) else if isD (y (skp y n p)) then den y n (skp y n p) else skp y n p + 1
def tkV (y : Nat → Nat) (n p : Nat) : Nat := vls y (skp y n p) (den y n (skp y n p) - skp y n p)
def bytC (S : Nat → Nat → Int32) (y : Nat → Nat) (n : Nat) : Prop := n ≤ 500 ∧ S 2 0 = nI n ∧ ∀ k, k < n → S 1 k = nI (y k) ∧ y k < 256
def bytM (M : Nat → Nat → Int32) (y : Nat → Nat) (n : Nat) : Prop := n ≤ 500 ∧ M 13 0 = nI n ∧ ∀ k, k < n → M 11 k &&& 255 = nI (y k) ∧ y k < 256
theorem fst_sp {P : Nat → Bool} {n p : Nat} (h : p ≤ n) : p ≤ fstp P (n - p) p ∧ fstp P (n - p) p ≤ n ∧ (∀ j, p ≤ j → j < fstp P (n - p) p → P j = false) ∧ (fstp P (n - p) p < n → P (fstp P (n - p) p) = true) := by
  obtain ⟨g1, g2, g3, g4⟩ := fstp_spec P (n - p) p
  exact ⟨g1, by omega, g3, fun q => g4 (by omega)⟩
theorem e_kindOf {c : Nat} (hc : c < 256) : f_X4_kindOf (nI c) = some (nI (kdc c)) := by
  have j28 : f_X4_kindOf_J28 (nI c) = some (nI (if c = 59 then 3 else 4)) := by
    unfold f_X4_kindOf_J28
    by_cases e : c = 59
    · rw [if_pos (show nI c = 59 by rw [e]; rfl), if_pos e]; rfl
    · rw [if_neg (show ¬ nI c = 59 from fun z => e ((nI_eq (b := 59) (by omega) (by omega)).mp z)), if_neg e]; rfl
  have j14 : f_X4_kindOf_J14 (nI c) = some (nI (if isD c then 2 else if c = 59 then 3 else 4)) := by
    unfold f_X4_kindOf_J14
    by_cases e : c < 48
    · rw [if_pos (show nI c < 48 from nI_lt (b := 48) e (by omega)), if_neg (show ¬ isD c by unfold isD; omega), j28]
    · rw [if_neg (show ¬ nI c < 48 from nI_nlt (b := 48) (by omega) (by omega))]
      by_cases e2 : 57 < c
      · rw [if_pos (show 57 < nI c from nI_lt (a := 57) e2 (by omega)), if_neg (show ¬ isD c by unfold isD; omega), j28]
      · rw [if_neg (show ¬ 57 < nI c from nI_nlt (a := 57) (by omega) (by omega)), if_pos (show isD c by unfold isD; omega)]; rfl
  unfold f_X4_kindOf kdc
  by_cases e : c < 97
  · rw [if_pos (show nI c < 97 from nI_lt (b := 97) e (by omega)), if_neg (show ¬ isL c by unfold isL; omega), j14]
  · rw [if_neg (show ¬ nI c < 97 from nI_nlt (b := 97) (by omega) (by omega))]
    by_cases e2 : 122 < c
    · rw [if_pos (show 122 < nI c from nI_lt (a := 122) e2 (by omega)), if_neg (show ¬ isL c by unfold isL; omega), j14]
    · rw [if_neg (show ¬ 122 < nI c from nI_nlt (a := 122) (by omega) (by omega)), if_pos (show isL c by unfold isL; omega)]; rfl
theorem vls_le (y : Nat → Nat) (s : Nat) (k : Nat) (h : ∀ i, i < k → y (s + i) ≤ 57) : vls y s k ≤ 999 ∧ (k ≤ 3 → vls y s k + 1 ≤ 10 ^ k) := by
  induction k with
  | zero => exact ⟨by show 0 ≤ 999; decide, fun _ => by show 0 + 1 ≤ 10 ^ 0; decide⟩
  | succ k ih =>
    obtain ⟨i1, i2⟩ := ih fun i hi => h i (by omega)
    have hk := h k (by omega)
    rw [vls]
    by_cases e : k < 3
    · rw [if_pos e]
      have h2 := i2 (by omega)
      have hp : 10 ^ (k + 1) = 10 * 10 ^ k := by rw [Nat.pow_succ, Nat.mul_comm]
      have hle : 10 ^ (k + 1) ≤ 1000 := by
        have : 10 ^ (k + 1) ≤ 10 ^ 3 := Nat.pow_le_pow_right (by decide) (by omega)
        exact this
      exact ⟨by omega, fun _ => by omega⟩
    · rw [if_neg e]; exact ⟨i1, fun z => by omega⟩
/-- the class's token -/
def tkC (S' S : Nat → Nat → Int32) (y : Nat → Nat) (n p : Nat) : Prop := S' 4 0 = nI (tkK y n p) ∧ S' 5 0 = nI (skp y n p) ∧ (tkK y n p ≠ 4 → S' 3 0 = nI (tkE y n p)) ∧ (tkK y n p = 2 → S' 6 0 = nI (tkV y n p)) ∧ ∀ k, k < 3 ∨ 6 < k → S' k = S k
theorem e_readToken {S : Nat → Nat → Int32} {y : Nat → Nat} {n p : Nat} (hB : bytC S y n) (hp : p ≤ n) (h3 : S 3 0 = nI p) : ∃ S', f_X4_readToken S = some S' ∧ tkC S' S y n p := by
  obtain ⟨hn, h2, hy⟩ := hB
  obtain ⟨s1, s2, s3, s4⟩ := fst_sp (P := fun i => decide (¬ isB (y i))) hp
  have hsd : fstp (fun i => decide (¬ isB (y i))) (n - p) p = skp y n p := rfl
  rw [hsd] at s1 s2 s3 s4
  -- blanks
  have k1 : ∃ ex : Nat → Nat → Int32, (ex 3 0 = nI (skp y n p) ∧ ∀ k, k ≠ 3 → ex k = S k) ∧ zloop (fun rec a => f_X4_readToken_L0b rec a) zfuel S = some ex := by
    refine zinv (I := fun i A => A 3 0 = nI (p + i) ∧ ∀ k, k ≠ 3 → A k = S k) _ (skp y n p - p) (by omega) ?_ ?_ ?_
    · rintro i hi A ⟨g1, g2⟩
      have hb := Decidable.of_not_not (of_decide_eq_false (s3 (p + i) (by omega) (by omega)))
      have hyi := (hy (p + i) (by omega)).1
      refine ⟨zst A 3 0 (nI (p + (i + 1))), ⟨zst_same _ _ _ _, fun k hk => by rw [zst_ne _ hk]; exact g2 k hk⟩, fun rec => ?_⟩
      unfold f_X4_readToken_L0b f_X4_readToken_J39
      simp only [zlet_eq]
      rw [ilen (a := n) (b := p + i) (by rw [g2 2 (by decide)]; exact h2) g1 (by omega) (by omega), g1, zix_nI (by omega) (by decide), zix_nI (by omega) (by decide), nI_clamp (by omega), g2 1 (by decide), hyi, nI_1, show p + i + 1 = p + (i + 1) by omega]
      rcases hb with z | z
      · rw [if_pos (show nI (y (p + i)) = 32 by rw [z]; rfl)]
      · rw [if_neg (show ¬ nI (y (p + i)) = 32 by rw [z]; decide), if_pos (show nI (y (p + i)) = 10 by rw [z]; rfl)]
    · rintro A ⟨g1, g2⟩
      rw [show p + (skp y n p - p) = skp y n p by omega] at g1
      refine ⟨A, ⟨g1, g2⟩, fun rec => ?_⟩
      unfold f_X4_readToken_L0b
      by_cases e : skp y n p < n
      · have hb := of_decide_eq_true (s4 e)
        have hyi := hy (skp y n p) e
        rw [ilen (a := n) (b := skp y n p) (by rw [g2 2 (by decide)]; exact h2) g1 e (by omega), g1, zix_nI (by omega) (by decide), zix_nI (by omega) (by decide), nI_clamp (by omega), g2 1 (by decide), hyi.1, if_neg (show ¬ nI (y (skp y n p)) = 32 from fun z => hb (Or.inl ((nI_eq (b := 32) (by omega) (by omega)).mp z))), if_neg (show ¬ nI (y (skp y n p)) = 10 from fun z => hb (Or.inr ((nI_eq (b := 10) (by omega) (by omega)).mp z)))]
      · rw [ilep (a := n) (b := skp y n p) (by rw [g2 2 (by decide)]; exact h2) g1 (by omega) (by omega)]
    · exact ⟨h3, fun _ _ => rfl⟩
  obtain ⟨A, ⟨a3, ao⟩, hz⟩ := k1
  unfold f_X4_readToken
  show ∃ S', (zloop (fun rec a => f_X4_readToken_L0b rec a) zfuel S).bind _ = some S' ∧ _
  rw [hz, Option.bind_some]
  unfold tkC tkK tkE tkV
  generalize skp y n p = s at *
  unfold f_X4_readToken_J52
  simp only [zlet_eq]
  -- after start and value
  have c3 : zst (zst A 5 0 (A 3 0)) 6 0 0 3 0 = nI s := by rw [zst_ne _ (by decide), zst_ne _ (by decide)]; exact a3
  have c5 : zst (zst A 5 0 (A 3 0)) 6 0 0 5 0 = nI s := by rw [zst_ne _ (by decide), zst_same]; exact a3
  have c6 : zst (zst A 5 0 (A 3 0)) 6 0 0 6 0 = nI 0 := by rw [zst_same]; rfl
  have c2 : zst (zst A 5 0 (A 3 0)) 6 0 0 2 0 = nI n := by rw [zst_ne _ (by decide), zst_ne _ (by decide), ao 2 (by decide)]; exact h2
  have c1 : ∀ k, k < n → zst (zst A 5 0 (A 3 0)) 6 0 0 1 k = nI (y k) := fun k hk => by rw [zst_ne _ (by decide), zst_ne _ (by decide), ao 1 (by decide)]; exact (hy k hk).1
  have co : ∀ k, k < 3 ∨ 6 < k → zst (zst A 5 0 (A 3 0)) 6 0 0 k = S k := fun k hk => by rw [zst_ne _ (by omega), zst_ne _ (by omega)]; exact ao k (by omega)
  generalize zst (zst A 5 0 (A 3 0)) 6 0 0 = C at *
  by_cases e : n ≤ s
  · rw [ilep c2 c3 e (by omega)]
    refine ⟨zst C 4 0 0, ?_, ?_⟩
    · unfold f_X4_readToken_J93 f_X4_readToken_J117 f_X4_readToken_J112
      rw [zlet_eq, if_neg (show ¬ zst C 4 0 0 4 0 = 1 by rw [zst_same]; decide), if_neg (show ¬ zst C 4 0 0 4 0 = 2 by rw [zst_same]; decide)]
      show ((some (zst C 4 0 0)).bind _) = _
      rw [Option.bind_some]
      unfold f_X4_readToken_J210
      rw [if_neg (show ¬ zst C 4 0 0 4 0 = 3 by rw [zst_same]; decide), if_neg (show ¬ zst C 4 0 0 4 0 = 2 by rw [zst_same]; decide)]
    · rw [if_pos e, if_pos e]
      exact ⟨zst_same _ _ _ _, by rw [zst_ne _ (by decide)]; exact c5, fun _ => by rw [zst_ne _ (by decide)]; exact c3, fun z => absurd z (by decide), fun k hk => by rw [zst_ne _ (by omega)]; exact co k hk⟩
  · obtain ⟨ys, ysb⟩ := hy s (by omega)
    rw [ilen c2 c3 (show s < n by omega) (by omega), c3, zix_nI (by omega) (by decide), nI_clamp (by omega), c1 s (by omega), e_kindOf ysb, Option.bind_some, if_neg e, if_neg e]
    -- a word or a number
    have run : ∀ (kd : Nat) (Pd : Nat → Bool) (C' : Nat → Nat → Int32), (kd = 1 ∨ kd = 2) → (∀ c, c < 256 → (Pd c = true ↔ kdc c ≠ kd)) → C' 4 0 = nI kd → C' 3 0 = nI s → C' 5 0 = nI s → C' 6 0 = nI 0 → C' 2 0 = nI n → (∀ k, k < n → C' 1 k = nI (y k)) → ∃ ex : Nat → Nat → Int32, (ex 3 0 = nI (fstp (fun i => Pd (y i)) (n - s) s) ∧ (kd = 2 → ex 6 0 = nI (vls y s (fstp (fun i => Pd (y i)) (n - s) s - s))) ∧ ∀ k, k ≠ 3 → k ≠ 6 → ex k = C' k) ∧ zloop (fun rec a => f_X4_readToken_L118b 1 rec a) zfuel C' = some ex := by
      intro kd Pd C' hkd hPd d4 d3 d5 d6 d2 d1
      obtain ⟨f1, f2, f3, f4⟩ := fst_sp (P := fun i => Pd (y i)) (show s ≤ n by omega)
      generalize hE : fstp (fun i => Pd (y i)) (n - s) s = E at *
      have hdig : kd = 2 → ∀ i, i < E - s → 48 ≤ y (s + i) ∧ y (s + i) ≤ 57 := by
        intro h2 i hi
        have := f3 (s + i) (by omega) (by omega)
        have hb := (hy (s + i) (by omega)).2
        have hk : kdc (y (s + i)) = kd := by
          rcases Nat.eq_or_lt_of_le (Nat.le_refl 0) with _ | _
          · by_cases q : kdc (y (s + i)) = kd
            · exact q
            · rw [(hPd _ hb).mpr q] at this; cases this
          · omega
        rw [h2] at hk
        unfold kdc at hk
        by_cases z1 : isL (y (s + i))
        · rw [if_pos z1] at hk; omega
        · rw [if_neg z1] at hk
          by_cases z2 : isD (y (s + i))
          · exact z2
          · rw [if_neg z2] at hk; split at hk <;> omega
      refine zinv (I := fun i B => B 3 0 = nI (s + i) ∧ (kd = 2 → B 6 0 = nI (vls y s i)) ∧ ∀ k, k ≠ 3 → k ≠ 6 → B k = C' k) _ (E - s) (by omega) ?_ ?_ ?_
      · rintro i hi B ⟨g1, g2, g3⟩
        have hfalse := f3 (s + i) (by omega) (by omega)
        obtain ⟨yi, yb⟩ := hy (s + i) (by omega)
        have hk : kdc (y (s + i)) = kd := by
          by_cases q : kdc (y (s + i)) = kd
          · exact q
          · rw [(hPd _ yb).mpr q] at hfalse; cases hfalse
        have b4 : B 4 0 = nI kd := by rw [g3 4 (by decide) (by decide)]; exact d4
        have b5 : B 5 0 = nI s := by rw [g3 5 (by decide) (by decide)]; exact d5
        have b1 : B 1 (s + i) = nI (y (s + i)) := by rw [g3 1 (by decide) (by decide)]; exact d1 _ (by omega)
        have pre : ∀ rec, f_X4_readToken_L118b 1 rec B = if B 4 0 = 2 then (if 3 ≤ nI i then f_X4_readToken_J197 rec B 1 else (f_X4_readToken_J197 rec (zst B 6 0 (((10 * (B 6 0)) + nI (y (s + i))) - 48)) 1)) else f_X4_readToken_J197 rec B 1 := by
          intro rec
          unfold f_X4_readToken_L118b
          simp only [zlet_eq]
          rw [if_neg (show ¬ (1 : Int32) = 0 by decide), ilen (a := n) (b := s + i) (by rw [g3 2 (by decide) (by decide)]; exact d2) g1 (by omega) (by omega), g1, zix_nI (by omega) (by decide), zix_nI (by omega) (by decide), nI_clamp (by omega), b1, e_kindOf yb, Option.bind_some, hk, b4, if_pos rfl, b5, pk_sub (by omega), show s + i - s = i by omega]
        have j197 : ∀ (B' : Nat → Nat → Int32) rec, B' 3 0 = nI (s + i) → f_X4_readToken_J197 rec B' 1 = rec (zst B' 3 0 (nI (s + (i + 1)))) := by
          intro B' rec h
          unfold f_X4_readToken_J197
          rw [zlet_eq, h, nI_1]; rfl
        rcases hkd with q | q
        · refine ⟨zst B 3 0 (nI (s + (i + 1))), ⟨zst_same _ _ _ _, fun z => by omega, fun k k3 k6 => by rw [zst_ne _ k3]; exact g3 k k3 k6⟩, fun rec => ?_⟩
          rw [pre, if_neg (show ¬ B 4 0 = 2 by rw [b4, q]; decide), j197 B rec g1]
        · have hd := hdig q i (by omega)
          by_cases q3 : i < 3
          · have hv := (vls_le y s i (fun j hj => (hdig q j (by omega)).2)).1
            have hval : (10 * B 6 0 + nI (y (s + i))) - 48 = nI (vls y s (i + 1)) := by
              rw [g2 q, l_10, pk_mul, nI_add, show (48 : Int32) = nI 48 from rfl, pk_sub (by omega), vls, if_pos q3]
              congr 1; omega
            refine ⟨zst (zst B 6 0 (nI (vls y s (i + 1)))) 3 0 (nI (s + (i + 1))), ⟨zst_same _ _ _ _, fun _ => by rw [zst_ne _ (by decide), zst_same], fun k k3 k6 => by rw [zst_ne _ k3, zst_ne _ k6]; exact g3 k k3 k6⟩, fun rec => ?_⟩
            rw [pre, if_pos (show B 4 0 = 2 by rw [b4, q]; rfl), if_neg (show ¬ 3 ≤ nI i from nI_ge (b := 3) q3 (by omega)), hval, j197 _ rec (by rw [zst_ne _ (by decide)]; exact g1)]
          · refine ⟨zst B 3 0 (nI (s + (i + 1))), ⟨zst_same _ _ _ _, fun _ => by rw [zst_ne _ (by decide), g2 q, vls, if_neg q3], fun k k3 k6 => by rw [zst_ne _ k3]; exact g3 k k3 k6⟩, fun rec => ?_⟩
            rw [pre, if_pos (show B 4 0 = 2 by rw [b4, q]; rfl), if_pos (show 3 ≤ nI i from nI_le (a := 3) (by omega) (by omega)), j197 B rec g1]
      · rintro B ⟨g1, g2, g3⟩
        rw [show s + (E - s) = E by omega] at g1
        refine ⟨B, ⟨g1, g2, g3⟩, fun rec => ?_⟩
        unfold f_X4_readToken_L118b
        rw [if_neg (show ¬ (1 : Int32) = 0 by decide)]
        by_cases q : E < n
        · obtain ⟨yi, yb⟩ := hy E q
          have hk := (hPd _ yb).mp (f4 q)
          rw [ilen (a := n) (b := E) (by rw [g3 2 (by decide) (by decide)]; exact d2) g1 q (by omega), g1, zix_nI (by omega) (by decide), nI_clamp (by omega), g3 1 (by decide) (by decide), d1 E q, e_kindOf yb, Option.bind_some, if_neg (show ¬ nI (kdc (y E)) = B 4 0 by
            rw [g3 4 (by decide) (by decide), d4]
            have : kdc (y E) < 5 := by unfold kdc; split <;> (try split) <;> (try split) <;> omega
            exact fun z => hk ((nI_eq (by omega) (by omega)).mp z))]
        · rw [ilep (a := n) (b := E) (by rw [g3 2 (by decide) (by decide)]; exact d2) g1 (by omega) (by omega)]
      · exact ⟨d3, fun _ => d6, fun _ _ _ => rfl⟩
    have e4 : ∀ v, zst C 4 0 v 4 0 = v := fun v => zst_same _ _ _ _
    have e3 : ∀ v, zst C 4 0 v 3 0 = nI s := fun v => by rw [zst_ne _ (by decide)]; exact c3
    have e5 : ∀ v, zst C 4 0 v 5 0 = nI s := fun v => by rw [zst_ne _ (by decide)]; exact c5
    have e6 : ∀ v, zst C 4 0 v 6 0 = nI 0 := fun v => by rw [zst_ne _ (by decide)]; exact c6
    have e2 : ∀ v, zst C 4 0 v 2 0 = nI n := fun v => by rw [zst_ne _ (by decide)]; exact c2
    have e1 : ∀ v k, k < n → zst C 4 0 v 1 k = nI (y k) := fun v k hk => by rw [zst_ne _ (by decide)]; exact c1 k hk
    have eo : ∀ v k, k < 3 ∨ 6 < k → zst C 4 0 v k = S k := fun v k hk => by rw [zst_ne _ (by omega)]; exact co k hk
    unfold f_X4_readToken_J93 f_X4_readToken_J112 f_X4_readToken_J117
    rw [zlet_eq]
    by_cases hL : isL (y s)
    · have hk : kdc (y s) = 1 := if_pos hL
      obtain ⟨ex, ⟨x1, _, x3⟩, hz2⟩ := run 1 (fun c => decide (¬ isL c)) (zst C 4 0 (nI (kdc (y s)))) (Or.inl rfl) (fun c _ => by
        rw [decide_eq_true_iff]
        unfold kdc
        by_cases z : isL c
        · rw [if_pos z]; simp [z]
        · rw [if_neg z]
          refine ⟨fun _ => ?_, fun _ => z⟩
          split
          · decide
          · split <;> decide) (by rw [e4, hk]) (e3 _) (e5 _) (e6 _) (e2 _) (e1 _)
      rw [if_pos (show zst C 4 0 (nI (kdc (y s))) 4 0 = 1 by rw [e4, hk]; rfl)]
      refine ⟨ex, ?_, ?_⟩
      · show (zloop (fun rec a => f_X4_readToken_L118b 1 rec a) zfuel (zst C 4 0 (nI (kdc (y s))))).bind _ = _
        rw [hz2, Option.bind_some]
        unfold f_X4_readToken_J210
        have h4 : ex 4 0 = 1 := by rw [x3 4 (by decide) (by decide), e4, hk]; rfl
        rw [if_neg (show ¬ ex 4 0 = 3 by rw [h4]; decide), if_neg (show ¬ ex 4 0 = 2 by rw [h4]; decide)]
      · rw [if_pos hL, if_pos hL]
        exact ⟨by rw [x3 4 (by decide) (by decide), e4, hk], by rw [x3 5 (by decide) (by decide)]; exact e5 _, fun _ => x1, fun z => absurd z (by decide), fun k hk' => by rw [x3 k (by omega) (by omega)]; exact eo _ k hk'⟩
    · by_cases hD : isD (y s)
      · have hk : kdc (y s) = 2 := by unfold kdc; rw [if_neg hL, if_pos hD]
        obtain ⟨ex, ⟨x1, x2, x3⟩, hz2⟩ := run 2 (fun c => decide (¬ isD c)) (zst C 4 0 (nI (kdc (y s)))) (Or.inr rfl) (fun c _ => by
          rw [decide_eq_true_iff]
          unfold kdc
          by_cases z : isL c
          · rw [if_pos z]
            refine ⟨fun _ => by decide, fun _ => ?_⟩
            unfold isD; unfold isL at z; omega
          · rw [if_neg z]
            by_cases z2 : isD c
            · rw [if_pos z2]; simp [z2]
            · rw [if_neg z2]
              refine ⟨fun _ => ?_, fun _ => z2⟩
              split <;> decide) (by rw [e4, hk]) (e3 _) (e5 _) (e6 _) (e2 _) (e1 _)
        rw [if_neg (show ¬ zst C 4 0 (nI (kdc (y s))) 4 0 = 1 by rw [e4, hk]; decide), if_pos (show zst C 4 0 (nI (kdc (y s))) 4 0 = 2 by rw [e4, hk]; rfl)]
        obtain ⟨d1, d2, _, _⟩ := fst_sp (P := fun i => decide (¬ isD (y i))) (show s ≤ n by omega)
        have hde : fstp (fun i => decide (¬ isD (y i))) (n - s) s = den y n s := rfl
        rw [hde] at x1 x2 d1 d2
        have h4 : ex 4 0 = 2 := by rw [x3 4 (by decide) (by decide), e4, hk]; rfl
        have h5 : ex 5 0 = nI s := by rw [x3 5 (by decide) (by decide)]; exact e5 _
        rw [if_neg hL, if_pos hD, if_neg hL, if_pos hD]
        show ∃ S', (zloop (fun rec a => f_X4_readToken_L118b 1 rec a) zfuel (zst C 4 0 (nI (kdc (y s))))).bind _ = some S' ∧ _
        rw [hz2, Option.bind_some]
        unfold f_X4_readToken_J210
        rw [if_neg (show ¬ ex 4 0 = 3 by rw [h4]; decide), if_pos h4, x1, h5, pk_sub d1]
        by_cases q : den y n s - s ≤ 3
        · rw [if_pos (show nI (den y n s - s) ≤ 3 from nI_le (b := 3) q (by omega)), if_pos q]
          exact ⟨ex, rfl, h4, h5, fun _ => x1, fun _ => x2 rfl, fun k hk' => by rw [x3 k (by omega) (by omega)]; exact eo _ k hk'⟩
        · rw [if_neg (show ¬ nI (den y n s - s) ≤ 3 from nI_ge (a := 3) (by omega) (by omega)), if_neg q]
          exact ⟨zst ex 4 0 4, rfl, zst_same _ _ _ _, by rw [zst_ne _ (by decide)]; exact h5, fun z => absurd rfl z, fun z => absurd z (by decide), fun k hk' => by rw [zst_ne _ (by omega), x3 k (by omega) (by omega)]; exact eo _ k hk'⟩
      · have hk : kdc (y s) = if y s = 59 then 3 else 4 := by unfold kdc; rw [if_neg hL, if_neg hD]
        have hk34 : kdc (y s) = 3 ∨ kdc (y s) = 4 := by rw [hk]; split <;> simp
        rw [if_neg (show ¬ zst C 4 0 (nI (kdc (y s))) 4 0 = 1 by rw [e4]; exact fun z => by have := (nq1 (by omega)).mp z; omega), if_neg (show ¬ zst C 4 0 (nI (kdc (y s))) 4 0 = 2 by rw [e4]; exact fun z => by have := (nq2 (by omega)).mp z; omega), if_neg hL, if_neg hD, if_neg hL, if_neg hD]
        show ∃ S', ((some (zst C 4 0 (nI (kdc (y s))))).bind _) = some S' ∧ _
        rw [Option.bind_some]
        unfold f_X4_readToken_J210
        by_cases q : y s = 59
        · rw [if_pos q] at hk ⊢
          rw [if_pos (show zst C 4 0 (nI (kdc (y s))) 4 0 = 3 by rw [e4, hk]; rfl), zlet_eq, e3, nI_1]
          exact ⟨_, rfl, by rw [zst_ne _ (by decide), e4, hk], by rw [zst_ne _ (by decide)]; exact e5 _, fun _ => zst_same _ _ _ _, fun z => absurd z (by decide), fun k hk' => by rw [zst_ne _ (by omega)]; exact eo _ k hk'⟩
        · rw [if_neg q] at hk ⊢
          rw [if_neg (show ¬ zst C 4 0 (nI (kdc (y s))) 4 0 = 3 by rw [e4, hk]; decide), if_neg (show ¬ zst C 4 0 (nI (kdc (y s))) 4 0 = 2 by rw [e4, hk]; decide)]
          exact ⟨_, rfl, by rw [e4, hk], e5 _, fun z => absurd rfl z, fun z => absurd z (by decide), eo _⟩
end TOK
