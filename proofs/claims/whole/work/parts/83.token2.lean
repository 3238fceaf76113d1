/-! the text: the reference's tokens; words of both -/
section TK2
def tkM (M' M : Nat → Nat → Int32) (y : Nat → Nat) (n p : Nat) : Prop := M' 16 0 = nI (tkK y n p) ∧ M' 14 0 = nI (skp y n p) ∧ (tkK y n p ≠ 4 → M' 15 0 = nI (tkE y n p)) ∧ (tkK y n p = 2 → M' 17 0 = nI (tkV y n p)) ∧ ∀ k, k < 14 ∨ 17 < k → M' k = M k
theorem e_byteAt {M : Nat → Nat → Int32} {y : Nat → Nat} {n k : Nat} (hB : bytM M y n) (hk : k < 2 ^ 31) : f_X7_byteAt M (nI k) = some (if k < n then nI (y k) else -1) := by
  obtain ⟨hn, h13, hy⟩ := hB
  unfold f_X7_byteAt
  by_cases e : k < n
  · rw [ilen h13 rfl e (by omega), zix_nI (by omega) (by decide), nI_clamp hk, (hy k e).1, if_pos e]
  · rw [ilep h13 rfl (by omega) hk, if_neg e]
theorem e_isLetter {c : Nat} (hc : c < 256) : f_X7_isLetter (nI c) = some (if isL c then 1 else 0) := by
  unfold f_X7_isLetter f_X7_within
  by_cases e : c < 97
  · rw [if_pos (show nI c < 97 from nI_lt (b := 97) e (by omega)), if_neg (show ¬ isL c by unfold isL; omega)]; rfl
  · rw [if_neg (show ¬ nI c < 97 from nI_nlt (b := 97) (by omega) (by omega))]
    by_cases e2 : 122 < c
    · rw [if_pos (show 122 < nI c from nI_lt (a := 122) e2 (by omega)), if_neg (show ¬ isL c by unfold isL; omega)]; rfl
    · rw [if_neg (show ¬ 122 < nI c from nI_nlt (a := 122) (by omega) (by omega)), if_pos (show isL c by unfold isL; omega)]; rfl
theorem e_isDigit {c : Nat} (hc : c < 256) : f_X7_isDigit (nI c) = some (if isD c then 1 else 0) := by
  unfold f_X7_isDigit f_X7_within
  by_cases e : c < 48
  · rw [if_pos (show nI c < 48 from nI_lt (b := 48) e (by omega)), if_neg (show ¬ isD c by unfold isD; omega)]; rfl
  · rw [if_neg (show ¬ nI c < 48 from nI_nlt (b := 48) (by omega) (by omega))]
    by_cases e2 : 57 < c
    · rw [if_pos (show 57 < nI c from nI_lt (a := 57) e2 (by omega)), if_neg (show ¬ isD c by unfold isD; omega)]; rfl
    · rw [if_neg (show ¬ 57 < nI c from nI_nlt (a := 57) (by omega) (by omega)), if_pos (show isD c by unfold isD; omega)]; rfl
theorem bytM_fr {M M' : Nat → Nat → Int32} {y : Nat → Nat} {n : Nat} (h1 : M' 11 = M 11) (h3 : M' 13 = M 13) (h : bytM M y n) : bytM M' y n := by
  unfold bytM; rw [h1, h3]; exact h
theorem e_goM {M : Nat → Nat → Int32} {y : Nat → Nat} {n p : Nat} (hB : bytM M y n) (hp : p ≤ n) (h15 : M 15 0 = nI p) : ∃ M', f_X7_go M = some M' ∧ tkM M' M y n p := by
  obtain ⟨hn, h13, hy⟩ := hB
  obtain ⟨s1, s2, s3, s4⟩ := fst_sp (P := fun i => decide (¬ isB (y i))) hp
  have hsd : fstp (fun i => decide (¬ isB (y i))) (n - p) p = skp y n p := rfl
  rw [hsd] at s1 s2 s3 s4
  have k1 : ∃ ex : Nat → Nat → Int32, (ex 15 0 = nI (skp y n p) ∧ ∀ k, k ≠ 15 → ex k = M k) ∧ zloop (fun rec a => f_X7_go_L0b rec a) zfuel M = some ex := by
    refine zinv (I := fun i A => A 15 0 = nI (p + i) ∧ ∀ k, k ≠ 15 → A k = M k) _ (skp y n p - p) (by omega) ?_ ?_ ?_
    · rintro i hi A ⟨g1, g2⟩
      have hb := Decidable.of_not_not (of_decide_eq_false (s3 (p + i) (by omega) (by omega)))
      have hBA : bytM A y n := bytM_fr (g2 11 (by decide)) (g2 13 (by decide)) ⟨hn, h13, hy⟩
      refine ⟨zst A 15 0 (nI (p + (i + 1))), ⟨zst_same _ _ _ _, fun k hk => by rw [zst_ne _ hk]; exact g2 k hk⟩, fun rec => ?_⟩
      unfold f_X7_go_L0b f_X7_go_J26
      simp only [zlet_eq]
      rw [g1, e_byteAt hBA (by omega), Option.bind_some, if_pos (show p + i < n by omega), nI_1, show p + i + 1 = p + (i + 1) by omega]
      rcases hb with z | z
      · rw [if_pos (show nI (y (p + i)) = 32 by rw [z]; rfl)]
      · rw [if_neg (show ¬ nI (y (p + i)) = 32 by rw [z]; decide), Option.bind_some, if_pos (show nI (y (p + i)) = 10 by rw [z]; rfl)]
    · rintro A ⟨g1, g2⟩
      rw [show p + (skp y n p - p) = skp y n p by omega] at g1
      have hBA : bytM A y n := bytM_fr (g2 11 (by decide)) (g2 13 (by decide)) ⟨hn, h13, hy⟩
      refine ⟨A, ⟨g1, g2⟩, fun rec => ?_⟩
      unfold f_X7_go_L0b
      rw [g1, e_byteAt hBA (by omega), Option.bind_some, Option.bind_some]
      by_cases e : skp y n p < n
      · have hb := of_decide_eq_true (s4 e)
        have hyi := hy (skp y n p) e
        rw [if_pos e, if_neg (show ¬ nI (y (skp y n p)) = 32 from fun z => hb (Or.inl ((nI_eq (b := 32) (by omega) (by omega)).mp z))), if_neg (show ¬ nI (y (skp y n p)) = 10 from fun z => hb (Or.inr ((nI_eq (b := 10) (by omega) (by omega)).mp z)))]
      · rw [if_neg e, if_neg (by decide), if_neg (by decide)]
    · exact ⟨h15, fun _ _ => rfl⟩
  obtain ⟨A, ⟨a15, ao⟩, hz⟩ := k1
  unfold f_X7_go
  show ∃ M', (zloop (fun rec a => f_X7_go_L0b rec a) zfuel M).bind _ = some M' ∧ _
  rw [hz, Option.bind_some]
  unfold tkM tkK tkE tkV
  generalize skp y n p = s at *
  simp only [zlet_eq]
  have c15 : zst A 14 0 (A 15 0) 15 0 = nI s := by rw [zst_ne _ (by decide)]; exact a15
  have c14 : zst A 14 0 (A 15 0) 14 0 = nI s := by rw [zst_same]; exact a15
  have co : ∀ k, k < 14 ∨ 17 < k → zst A 14 0 (A 15 0) k = M k := fun k hk => by rw [zst_ne _ (by omega)]; exact ao k (by omega)
  generalize zst A 14 0 (A 15 0) = C at *
  have hBC : bytM C y n := bytM_fr (co 11 (by omega)) (co 13 (by omega)) ⟨hn, h13, hy⟩
  rw [c15, e_byteAt hBC (by omega), Option.bind_some]
  by_cases e : n ≤ s
  · rw [if_neg (show ¬ s < n by omega), if_neg (show ¬ (0 : Int32) ≤ -1 by decide), if_pos e, if_pos e]
    exact ⟨_, rfl, zst_same _ _ _ _, by rw [zst_ne _ (by decide)]; exact c14, fun _ => by rw [zst_ne _ (by decide)]; exact c15, fun z => absurd z (by decide), fun k hk => by rw [zst_ne _ (by omega)]; exact co k hk⟩
  · obtain ⟨ys, ysb⟩ := hy s (by omega)
    rw [if_pos (show s < n by omega), if_pos (nI_pos' (by omega)), e_isLetter ysb, Option.bind_some, if_neg e, if_neg e]
    by_cases hL : isL (y s)
    · rw [if_pos hL, if_neg (show ¬ (1 : Int32) = 0 by decide), if_pos hL, if_pos hL]
      obtain ⟨f1, f2, f3, f4⟩ := fst_sp (P := fun i => decide (¬ isL (y i))) (show s ≤ n by omega)
      have hde : fstp (fun i => decide (¬ isL (y i))) (n - s) s = wen y n s := rfl
      rw [hde] at f1 f2 f3 f4
      have k2 : ∃ ex : Nat → Nat → Int32, (ex 15 0 = nI (wen y n s) ∧ ∀ k, k ≠ 15 → ex k = C k) ∧ zloop (fun rec a => f_X7_go_L75b rec a) zfuel C = some ex := by
        refine zinv (I := fun i B => B 15 0 = nI (s + i) ∧ ∀ k, k ≠ 15 → B k = C k) _ (wen y n s - s) (by omega) ?_ ?_ ?_
        · rintro i hi B ⟨g1, g2⟩
          have hl := Decidable.of_not_not (of_decide_eq_false (f3 (s + i) (by omega) (by omega)))
          have hBB : bytM B y n := bytM_fr (g2 11 (by decide)) (g2 13 (by decide)) hBC
          refine ⟨zst B 15 0 (nI (s + (i + 1))), ⟨zst_same _ _ _ _, fun k hk => by rw [zst_ne _ hk]; exact g2 k hk⟩, fun rec => ?_⟩
          unfold f_X7_go_L75b
          simp only [zlet_eq]
          rw [g1, e_byteAt hBB (by omega), Option.bind_some, if_pos (show s + i < n by omega), e_isLetter (hy _ (by omega)).2, Option.bind_some, if_pos hl, if_neg (show ¬ (1 : Int32) = 0 by decide), nI_1]; rfl
        · rintro B ⟨g1, g2⟩
          rw [show s + (wen y n s - s) = wen y n s by omega] at g1
          have hBB : bytM B y n := bytM_fr (g2 11 (by decide)) (g2 13 (by decide)) hBC
          refine ⟨B, ⟨g1, g2⟩, fun rec => ?_⟩
          unfold f_X7_go_L75b
          rw [g1, e_byteAt hBB (by omega), Option.bind_some]
          by_cases q : wen y n s < n
          · rw [if_pos q, e_isLetter (hy _ q).2, Option.bind_some, if_neg (of_decide_eq_true (f4 q)), if_pos rfl]
          · rw [if_neg q]; rfl
        · exact ⟨c15, fun _ _ => rfl⟩
      obtain ⟨ex, ⟨x1, x2⟩, hz2⟩ := k2
      refine ⟨zst ex 16 0 1, ?_, zst_same _ _ _ _, by rw [zst_ne _ (by decide), x2 14 (by decide)]; exact c14, fun _ => by rw [zst_ne _ (by decide)]; exact x1, fun z => absurd z (by decide), fun k hk => by rw [zst_ne _ (by omega), x2 k (by omega)]; exact co k hk⟩
      show ((zloop (fun rec a => f_X7_go_L75b rec a) zfuel C).bind _) = _
      rw [hz2]; rfl
    · rw [if_neg hL, if_pos rfl, if_neg hL, if_neg hL, e_isDigit ysb, Option.bind_some]
      by_cases hD : isD (y s)
      · rw [if_pos hD, if_neg (show ¬ (1 : Int32) = 0 by decide), if_pos hD, if_pos hD]
        obtain ⟨f1, f2, f3, f4⟩ := fst_sp (P := fun i => decide (¬ isD (y i))) (show s ≤ n by omega)
        have hde : fstp (fun i => decide (¬ isD (y i))) (n - s) s = den y n s := rfl
        rw [hde] at f1 f2 f3 f4
        have hdig : ∀ i, i < den y n s - s → isD (y (s + i)) := fun i hi => Decidable.of_not_not (of_decide_eq_false (f3 (s + i) (by omega) (by omega)))
        have k2 : ∃ ex : Nat → Nat → Int32, (ex 15 0 = nI (den y n s) ∧ ex 17 0 = nI (vls y s (den y n s - s)) ∧ ∀ k, k ≠ 15 → k ≠ 17 → ex k = C k) ∧ zloop (fun rec a => f_X7_go_L122b rec a) zfuel (zst C 17 0 0) = some ex := by
          refine zinv (I := fun i B => B 15 0 = nI (s + i) ∧ B 17 0 = nI (vls y s i) ∧ ∀ k, k ≠ 15 → k ≠ 17 → B k = C k) _ (den y n s - s) (by omega) ?_ ?_ ?_
          · rintro i hi B ⟨g1, g17, g2⟩
            have hl := hdig i (by omega)
            have hBB : bytM B y n := bytM_fr (g2 11 (by decide) (by decide)) (g2 13 (by decide) (by decide)) hBC
            have b14 : B 14 0 = nI s := by rw [g2 14 (by decide) (by decide)]; exact c14
            have hv := (vls_le y s i (fun j hj => (hdig j (by omega)).2)).1
            refine ⟨zst (zst B 17 0 (nI (vls y s (i + 1)))) 15 0 (nI (s + (i + 1))), ⟨zst_same _ _ _ _, by rw [zst_ne _ (by decide), zst_same], fun k k1 k2 => by rw [zst_ne _ k1, zst_ne _ k2]; exact g2 k k1 k2⟩, fun rec => ?_⟩
            unfold f_X7_go_L122b f_X7_go_J176
            simp only [zlet_eq]
            rw [g1, b14, e_byteAt hBB (by omega), Option.bind_some, if_pos (show s + i < n by omega), e_isDigit (hy _ (by omega)).2, Option.bind_some, if_pos hl, if_neg (show ¬ (1 : Int32) = 0 by decide), pk_sub (by omega), show s + i - s = i by omega, Option.bind_some, g17]
            have z15 : ∀ v, zst B 17 0 v 15 0 = nI (s + i) := fun v => by rw [zst_ne _ (by decide)]; exact g1
            rw [z15, z15, nI_1, show s + i + 1 = s + (i + 1) by omega]
            by_cases q3 : i < 3
            · have hval : (10 * nI (vls y s i) + nI (y (s + i))) - 48 = nI (vls y s (i + 1)) := by
                have : 48 ≤ y (s + i) := hl.1
                rw [l_10, pk_mul, nI_add, show (48 : Int32) = nI 48 from rfl, pk_sub (by omega), vls, if_pos q3]
                congr 1; omega
              rw [if_neg (show ¬ 3 ≤ nI i from nI_ge (b := 3) q3 (by omega)), hval]
            · rw [if_pos (show 3 ≤ nI i from nI_le (a := 3) (by omega) (by omega)), vls, if_neg q3]
          · rintro B ⟨g1, g17, g2⟩
            rw [show s + (den y n s - s) = den y n s by omega] at g1
            have hBB : bytM B y n := bytM_fr (g2 11 (by decide) (by decide)) (g2 13 (by decide) (by decide)) hBC
            refine ⟨B, ⟨g1, g17, g2⟩, fun rec => ?_⟩
            unfold f_X7_go_L122b
            rw [g1, e_byteAt hBB (by omega), Option.bind_some]
            by_cases q : den y n s < n
            · rw [if_pos q, e_isDigit (hy _ q).2, Option.bind_some, if_neg (of_decide_eq_true (f4 q)), if_pos rfl]
            · rw [if_neg q]; rfl
          · exact ⟨by rw [zst_ne _ (by decide)]; exact c15, by rw [zst_same]; rfl, fun k _ k2 => zst_ne _ k2 _ _⟩
        obtain ⟨ex, ⟨x1, x17, x2⟩, hz2⟩ := k2
        have x14 : ex 14 0 = nI s := by rw [x2 14 (by decide) (by decide)]; exact c14
        show ∃ M', ((zloop (fun rec a => f_X7_go_L122b rec a) zfuel (zst C 17 0 0)).bind _) = some M' ∧ _
        rw [hz2, Option.bind_some, x1, x14, pk_sub f1]
        unfold f_X7_go_J211
        by_cases q : den y n s - s ≤ 3
        · rw [if_neg (show ¬ 4 ≤ nI (den y n s - s) from nI_ge (b := 4) (by omega) (by omega)), if_pos q]
          exact ⟨_, rfl, by rw [zst_same]; rfl, by rw [zst_ne _ (by decide)]; exact x14, fun _ => by rw [zst_ne _ (by decide)]; exact x1, fun _ => by rw [zst_ne _ (by decide)]; exact x17, fun k hk => by rw [zst_ne _ (by omega), x2 k (by omega) (by omega)]; exact co k hk⟩
        · rw [if_pos (show 4 ≤ nI (den y n s - s) from nI_le (a := 4) (by omega) (by omega)), if_neg q]
          exact ⟨_, rfl, by rw [zst_same]; rfl, by rw [zst_ne _ (by decide)]; exact x14, fun z => absurd rfl z, fun z => absurd z (by decide), fun k hk => by rw [zst_ne _ (by omega), x2 k (by omega) (by omega)]; exact co k hk⟩
      · rw [if_neg hD, if_pos rfl, if_neg hD, if_neg hD, nI_1]
        unfold f_X7_go_J239
        by_cases q : y s = 59
        · rw [if_pos (show nI (y s) = 59 by rw [q]; rfl), if_pos q]
          exact ⟨_, rfl, by rw [zst_same]; rfl, by rw [zst_ne _ (by decide), zst_ne _ (by decide)]; exact c14, fun _ => by rw [zst_ne _ (by decide), zst_same], fun z => absurd z (by decide), fun k hk => by rw [zst_ne _ (by omega), zst_ne _ (by omega)]; exact co k hk⟩
        · rw [if_neg (show ¬ nI (y s) = 59 from fun z => q ((nI_eq (b := 59) (by omega) (by omega)).mp z)), if_neg q]
          exact ⟨_, rfl, by rw [zst_same]; rfl, by rw [zst_ne _ (by decide), zst_ne _ (by decide)]; exact c14, fun z => absurd rfl z, fun z => absurd z (by decide), fun k hk => by rw [zst_ne _ (by omega), zst_ne _ (by omega)]; exact co k hk⟩
/-! words -/
def wdN : Nat → List Nat := fun i => ([[99, 104, 97, 114, 116], [112, 108, 97, 99, 101], [114, 111, 99, 107, 115], [98, 97, 115, 101], [98, 101, 110, 100], [114, 101, 97, 99, 104]] : List (List Nat)).getD i []
def isW (y : Nat → Nat) (n p i : Nat) : Prop := tkK y n p = 1 ∧ tkE y n p - skp y n p = (wdN i).length ∧ ∀ k, k < (wdN i).length → y (skp y n p + k) = (wdN i).getD k 0
theorem wd_ok : ∀ i, i < 6 → zlen.getD i 0 = (wdN i).length ∧ (wdN i).length ≤ 5 ∧ 4 ≤ (wdN i).length ∧ (∀ k, k < 5 → k < (wdN i).length → zchr i (nI k) = nI ((wdN i).getD k 0) ∧ 97 ≤ (wdN i).getD k 0 ∧ (wdN i).getD k 0 < 128) := by decide +kernel
theorem word_sp {y : Nat → Nat} {n p : Nat} (hp : p ≤ n) (h : tkK y n p = 1) : skp y n p < n ∧ skp y n p ≤ tkE y n p ∧ tkE y n p ≤ n ∧ ∀ k, k < tkE y n p - skp y n p → isL (y (skp y n p + k)) := by
  obtain ⟨s1, s2, _, _⟩ := fst_sp (P := fun i => decide (¬ isB (y i))) hp
  have hsd : fstp (fun i => decide (¬ isB (y i))) (n - p) p = skp y n p := rfl
  rw [hsd] at s1 s2
  unfold tkK at h
  by_cases e : n ≤ skp y n p
  · rw [if_pos e] at h; omega
  · rw [if_neg e] at h
    by_cases hL : isL (y (skp y n p))
    · obtain ⟨f1, f2, f3, f4⟩ := fst_sp (P := fun i => decide (¬ isL (y i))) (show skp y n p ≤ n from s2)
      have hE : tkE y n p = wen y n (skp y n p) := by unfold tkE; rw [if_neg e, if_pos hL]
      rw [hE]
      exact ⟨by omega, f1, f2, fun k hk => Decidable.of_not_not (of_decide_eq_false (f3 _ (by omega) (by unfold wen at hk; omega)))⟩
    · rw [if_neg hL] at h
      by_cases hD : isD (y (skp y n p))
      · rw [if_pos hD] at h; split at h <;> omega
      · rw [if_neg hD] at h; split at h <;> omega
theorem e_isWord {S S0 : Nat → Nat → Int32} {y : Nat → Nat} {n p i : Nat} (hB : bytC S0 y n) (hp : p ≤ n) (hT : tkC S S0 y n p) (hi : i < 6) : ∃ r : Int32, f_X4_isWord i S = some r ∧ (isW y n p i → r = 1) ∧ (¬ isW y n p i → r = 0) := by
  obtain ⟨t4, t5, t3, _, to⟩ := hT
  obtain ⟨w1, w2, w2', w3⟩ := wd_ok i hi
  obtain ⟨hn, h2, hy⟩ := hB
  unfold f_X4_isWord
  by_cases e : tkK y n p = 1
  · obtain ⟨q1, q2, q3, q4⟩ := word_sp hp e
    rw [if_pos (show S 4 0 = 1 by rw [t4, e]; rfl), t3 (by omega), t5, pk_sub q2, w1]
    by_cases e2 : tkE y n p - skp y n p = (wdN i).length
    · rw [if_pos (by rw [e2])]
      obtain ⟨g1, g2, g3, g4⟩ := fstp_spec (fun k => decide (y (skp y n p + k) ≠ (wdN i).getD k 0)) (wdN i).length 0
      generalize hd : fstp (fun k => decide (y (skp y n p + k) ≠ (wdN i).getD k 0)) (wdN i).length 0 = d at *
      have hl : f_X4_isWord_L28 i S zfuel 0 = some (if d < (wdN i).length then 0 else 1) := by
        refine zfor0 (fun k => nI k) d _ (by omega) (fun k hk rec => ?_) (fun rec => ?_)
        · show f_X4_isWord_L28b i S rec (nI k) = rec (nI (k + 1))
          have hv := Decidable.of_not_not (of_decide_eq_false (g3 k (Nat.zero_le _) hk))
          unfold f_X4_isWord_L28b
          rw [w1, ilen rfl rfl (show k < (wdN i).length by omega) (by omega), t5, nI_add, zix_nI (by omega) (by decide), zix_nI (by omega) (by omega), nI_clamp (by omega), to 1 (by omega), (hy _ (by omega)).1, (w3 k (by omega) (by omega)).1, hv, if_pos rfl, nI_1]
        · show f_X4_isWord_L28b i S rec (nI d) = _
          unfold f_X4_isWord_L28b
          rw [w1]
          by_cases z : d < (wdN i).length
          · have hv := of_decide_eq_true (g4 (by omega))
            have hb := (w3 d (by omega) z).2.2
            have hyb := (hy (skp y n p + d) (by omega)).2
            rw [ilen rfl rfl z (by omega), t5, nI_add, zix_nI (by omega) (by decide), zix_nI (by omega) (by omega), nI_clamp (by omega), to 1 (by omega), (hy _ (by omega)).1, (w3 d (by omega) z).1, if_neg (fun x => hv ((nI_eq (by omega) (by omega)).mp x)), if_pos z]
          · rw [ilep rfl rfl (show (wdN i).length ≤ d by omega) (by omega), if_neg z]
      rw [hl, Option.bind_some]
      by_cases z : d < (wdN i).length
      · rw [if_pos z, if_pos rfl]
        exact ⟨0, rfl, fun x => absurd (x.2.2 d z) (of_decide_eq_true (g4 (by omega))), fun _ => rfl⟩
      · rw [if_neg z, if_neg (by decide)]
        exact ⟨1, rfl, fun _ => rfl, fun x => absurd ⟨e, e2, fun k hk => Decidable.of_not_not (of_decide_eq_false (g3 k (Nat.zero_le _) (by omega)))⟩ x⟩
    · rw [if_neg (fun x => e2 ((nI_eq (by omega) (by omega)).mp x))]
      exact ⟨0, rfl, fun x => absurd x.2.1 e2, fun _ => rfl⟩
  · have hk5 : tkK y n p < 5 := by unfold tkK; split <;> (try split) <;> (try split) <;> (try split) <;> omega
    rw [if_neg (show ¬ S 4 0 = 1 by rw [t4]; exact fun x => e ((nq1 (by omega)).mp x))]
    exact ⟨0, rfl, fun x => absurd x.1 e, fun _ => rfl⟩
theorem zx5 {α : Type} {f : Nat → Option α} : zix 0 5 f = f 0 ∧ zix 1 5 f = f 1 ∧ zix 2 5 f = f 2 ∧ zix 3 5 f = f 3 ∧ zix 4 5 f = f 4 := ⟨zix_nI (i := 0) (by decide) (by decide), zix_nI (i := 1) (by decide) (by decide), zix_nI (i := 2) (by decide) (by decide), zix_nI (i := 3) (by decide) (by decide), zix_nI (i := 4) (by decide) (by decide)⟩
theorem e_isWordM {M M0 : Nat → Nat → Int32} {y : Nat → Nat} {n p i : Nat} {v1 v2 v3 v4 v5 : Int32} (hB : bytM M y n) (hp : p ≤ n) (hT : tkM M M0 y n p) (hi : i < 6) (h1 : v1 = nI ((wdN i).getD 0 0)) (h2 : v2 = nI ((wdN i).getD 1 0)) (h3 : v3 = nI ((wdN i).getD 2 0)) (h4 : v4 = nI ((wdN i).getD 3 0)) (h5 : v5 = nI ((wdN i).getD 4 0)) : ∃ r : Int32, f_X7_isWord M v1 v2 v3 v4 v5 = some r ∧ (isW y n p i → r = 1) ∧ (¬ isW y n p i → r = 0) := by
  obtain ⟨t16, t14, t15, _, _⟩ := hT
  obtain ⟨w1, w2, w2', w3⟩ := wd_ok i hi
  have hw4 : (wdN i).length = 4 → (wdN i).getD 4 0 = 0 := fun h => by rw [List.getD_eq_getElem?_getD, List.getElem?_eq_none (by omega)]; rfl
  have hlt : ∀ k, k < 5 → (wdN i).getD k 0 < 128 := by
    intro k hk
    by_cases z : k < (wdN i).length
    · exact (w3 k hk z).2.2
    · rw [show k = 4 by omega, hw4 (by omega)]; decide
  unfold f_X7_isWord
  simp only [zlet_eq]
  rw [zx5.1, zx5.2.1, zx5.2.2.1, zx5.2.2.2.1, zx5.2.2.2.2]
  have row : ∀ k, k < 5 → zst (zst (zst (zst (zst (fun _ _ => 0) 0 0 v1) 0 1 v2) 0 2 v3) 0 3 v4) 0 4 v5 0 k = nI ((wdN i).getD k 0) := by
    intro k hk
    have : k = 0 ∨ k = 1 ∨ k = 2 ∨ k = 3 ∨ k = 4 := by omega
    rcases this with rfl | rfl | rfl | rfl | rfl
    · simp [zst, upd, h1]
    · simp [zst, upd, h2]
    · simp [zst, upd, h3]
    · simp [zst, upd, h4]
    · simp [zst, upd, h5]
  generalize zst (zst (zst (zst (zst (fun _ _ => 0) 0 0 v1) 0 1 v2) 0 2 v3) 0 3 v4) 0 4 v5 = R at *
  have z0 : f_X7_isWord_J53 M R 0 = some 0 := by
    have hl0 : f_X7_isWord_L58 M R zfuel (0, 0) = some 0 := by
      show f_X7_isWord_L58b M R (zloop (fun rec a => f_X7_isWord_L58b M R rec a) 999) (0, 0) = _
      generalize zloop (fun rec a => f_X7_isWord_L58b M R rec a) 999 = rec
      unfold f_X7_isWord_L58b
      dsimp only
      rw [if_neg (by decide), if_pos rfl]
    unfold f_X7_isWord_J53
    rw [hl0]; rfl
  by_cases e : tkK y n p = 1
  · obtain ⟨q1, q2, q3, q4⟩ := word_sp hp e
    rw [if_pos (show M 16 0 = 1 by rw [t16, e]; rfl), t15 (by omega), t14, pk_sub q2]
    have hn := hB.1
    by_cases e5 : tkE y n p - skp y n p ≤ 5
    · rw [if_neg (show ¬ 5 < nI (tkE y n p - skp y n p) from nI_nlt (a := 5) e5 (by omega))]
      obtain ⟨g1, g2, g3, g4⟩ := fstp_spec (fun k => decide ((if k < tkE y n p - skp y n p then y (skp y n p + k) else 0) ≠ (wdN i).getD k 0)) 5 0
      generalize hd : fstp (fun k => decide ((if k < tkE y n p - skp y n p then y (skp y n p + k) else 0) ≠ (wdN i).getD k 0)) 5 0 = d at *
      have stp : ∀ k rec, k < 5 → f_X7_isWord_L58b M R rec (1, nI k) = rec (if (if k < tkE y n p - skp y n p then y (skp y n p + k) else 0) = (wdN i).getD k 0 then 1 else 0, nI (k + 1)) := by
        intro k rec hk
        have j98 : ∀ z : Nat, z < 2 ^ 31 → f_X7_isWord_J98 rec M R (nI k) (nI z) = rec (if z = (wdN i).getD k 0 then 1 else 0, nI (k + 1)) := by
          intro z hz
          unfold f_X7_isWord_J98 f_X7_isWord_J111
          have := hlt k hk
          rw [zix_nI hk (by decide), nI_clamp (by omega), row k hk, nI_1]
          by_cases x : z = (wdN i).getD k 0
          · rw [if_pos (by rw [x]), if_pos x]
          · rw [if_neg (fun u => x ((nI_eq hz (by omega)).mp u)), if_neg x]
        unfold f_X7_isWord_L58b
        dsimp only
        rw [if_neg (show ¬ 5 ≤ nI k from nI_ge (b := 5) hk (by omega)), if_neg (show ¬ (1 : Int32) = 0 by decide), t15 (by omega), t14, pk_sub q2, nI_add, e_byteAt hB (by omega)]
        by_cases z : k < tkE y n p - skp y n p
        · rw [if_neg (nI_ge z (by omega)), Option.bind_some, if_pos (show skp y n p + k < n by omega), if_pos z]
          exact j98 _ (by have := (hB.2.2 (skp y n p + k) (by omega)).2; omega)
        · rw [if_pos (nI_le (by omega) (by omega)), if_neg z]; exact j98 0 (by decide)
      have hl : f_X7_isWord_L58 M R zfuel (1, 0) = some (if d < 5 then 0 else 1) := by
        have key : ∃ ex, ex = (if d < 5 then (0 : Int32) else 1) ∧ zloop (fun rec a => f_X7_isWord_L58b M R rec a) zfuel (1, 0) = some ex := by
          refine zinvE (I := fun k a => a = (if k ≤ d then (1 : Int32) else 0, nI k) ∧ k ≤ d + 1) _ 5 (by omega) ?_ ?_ ?_
          · rintro k hk a ⟨rfl, hkd⟩
            by_cases z : k ≤ d
            · rw [if_pos z]
              refine Or.inl ⟨(if k + 1 ≤ d then 1 else 0, nI (k + 1)), ⟨rfl, by omega⟩, fun rec => ?_⟩
              rw [stp k rec hk]
              by_cases x : k + 1 ≤ d
              · rw [if_pos x, if_pos (Decidable.of_not_not (of_decide_eq_false (g3 k (Nat.zero_le _) (by omega))))]
              · rw [if_neg x, if_neg (show ¬ _ from by
                  have hkd' : k = d := by omega
                  have := of_decide_eq_true (g4 (by omega))
                  rw [← hkd'] at this; exact this)]
            · rw [if_neg z]
              refine Or.inr ⟨0, by rw [if_pos (by omega)], fun rec => ?_⟩
              unfold f_X7_isWord_L58b
              dsimp only
              rw [if_neg (show ¬ 5 ≤ nI k from nI_ge (b := 5) hk (by omega)), if_pos rfl]
          · rintro a ⟨rfl, hkd⟩
            refine ⟨if 5 ≤ d then 1 else 0, ?_, fun rec => ?_⟩
            · by_cases z : 5 ≤ d
              · rw [if_pos z, if_neg (by omega)]
              · rw [if_neg z, if_pos (by omega)]
            · unfold f_X7_isWord_L58b
              dsimp only
              rw [if_pos (show (5 : Int32) ≤ nI 5 by decide)]
          · exact ⟨by rw [if_pos (Nat.zero_le _)]; rfl, Nat.zero_le _⟩
        obtain ⟨ex, k1, k2⟩ := key
        rw [← k1]; exact k2
      unfold f_X7_isWord_J53
      rw [hl, Option.bind_some]
      by_cases z : d < 5
      · rw [if_pos z]
        refine ⟨0, zbo_0, fun x => ?_, fun _ => rfl⟩
        exfalso
        have hv := of_decide_eq_true (g4 (by omega))
        by_cases u : d < tkE y n p - skp y n p
        · rw [if_pos u] at hv
          exact hv (x.2.2 d (by have := x.2.1; omega))
        · rw [if_neg u] at hv
          have hl4 : (wdN i).length = 4 := by have := x.2.1; omega
          have hd4 : d = 4 := by have := x.2.1; omega
          rw [hd4, hw4 hl4] at hv
          exact hv rfl
      · rw [if_neg z]
        refine ⟨1, zbo_1, fun _ => rfl, fun x => absurd ⟨e, ?_, fun k hk => ?_⟩ x⟩
        · have hk4 := fun k (hk : k < 5) => Decidable.of_not_not (of_decide_eq_false (g3 k (Nat.zero_le _) (by omega)))
          rcases Nat.lt_trichotomy (tkE y n p - skp y n p) (wdN i).length with u | u | u
          · have := hk4 (tkE y n p - skp y n p) (by omega)
            rw [if_neg (by omega)] at this
            have := (w3 (tkE y n p - skp y n p) (by omega) u).2.1
            omega
          · exact u
          · have h4' : (wdN i).length = 4 := by omega
            have := hk4 4 (by omega)
            rw [if_pos (by omega), hw4 h4'] at this
            have := (q4 4 (by omega)).1
            omega
        · have hv := Decidable.of_not_not (of_decide_eq_false (g3 k (Nat.zero_le _) (by omega)))
          by_cases u : k < tkE y n p - skp y n p
          · rw [if_pos u] at hv; exact hv
          · rw [if_neg u] at hv
            have := (w3 k (by omega) hk).2.1
            omega
    · rw [if_pos (show 5 < nI (tkE y n p - skp y n p) from nI_lt (a := 5) (by omega) (by omega))]
      unfold f_X7_isWord_J52
      exact ⟨0, z0, fun x => by have := x.2.1; omega, fun _ => rfl⟩
  · have hk5 : tkK y n p < 5 := by unfold tkK; split <;> (try split) <;> (try split) <;> (try split) <;> omega
    rw [if_neg (show ¬ M 16 0 = 1 by rw [t16]; exact fun x => e ((nq1 (by omega)).mp x))]
    unfold f_X7_isWord_J52
    exact ⟨0, z0, fun x => absurd x.1 e, fun _ => rfl⟩
end TK2
