/-! the class's choose -/
section CHO
theorem zinv {α β : Type} {body : (α → Option β) → α → Option β} (I : Nat → α → Prop) (Q : β → Prop) (n : Nat) (hn : n < 1000) (hs : ∀ i, i < n → ∀ a, I i a → ∃ a', I (i + 1) a' ∧ ∀ rec, body rec a = rec a') (he : ∀ a, I n a → ∃ ex, Q ex ∧ ∀ rec, body rec a = some ex) {a0 : α} (h0 : I 0 a0) : ∃ ex, Q ex ∧ zloop body zfuel a0 = some ex := by
  have key : ∀ (fuel i : Nat) (a : α), i ≤ n → n - i < fuel → I i a → ∃ ex, Q ex ∧ zloop body fuel a = some ex := by
    intro fuel
    induction fuel with
    | zero => intro i a _ h; omega
    | succ f ih =>
      intro i a hi hf hI
      by_cases e : i = n
      · subst e
        obtain ⟨ex, hq, he⟩ := he a hI
        exact ⟨ex, hq, he _⟩
      · obtain ⟨a', hI', hb⟩ := hs i (by omega) a hI
        obtain ⟨ex, hq, hz⟩ := ih (i + 1) a' (by omega) (by omega) hI'
        refine ⟨ex, hq, ?_⟩
        show body (zloop body f) a = some ex
        rw [hb, hz]
  exact key zfuel 0 a0 (Nat.zero_le _) (by show n - 0 < 1000; omega) h0
theorem e_comesTo {S : Nat → Nat → Int32} {c s X : Nat} (hc : c < 240) (hs : s < 128) (hX : X < 128) (h5 : S 5 c = nI X) : f_X0_comesTo S (nI c) (nI s) = some (if s &&& X = s then 1 else 0) := by
  unfold f_X0_comesTo
  rw [zix_nI hc (by decide), nI_clamp (by omega), h5]
  by_cases e : s &&& X = s
  · rw [if_pos e, if_pos ((e_not hs hX).mpr e)]
  · rw [if_neg e, if_neg (fun q => e ((e_not hs hX).mp q))]
def inkI (a : zV) : Int32 := if a.1 = 1000000000 then nI 1073741824 else nI a.1
def parI (a : zV) : Int32 := if a.2.1 = 1 then nI a.2.2 else nI 0
def froI (K : Nat → Nat → Nat) (r t : Nat) (a : zV) : Int32 := if a.2.1 = 2 then nI (24 * (r + 1) + frm K r t a.2.2) else -1
def sidI (r : Nat) (a : zV) : Int32 := if a.2.1 = 2 then nI (sid r a.2.2) else -1
def chS (S : Nat → Nat → Int32) (K : Nat → Nat → Nat) (r t : Nat) (a : zV) : Nat → Nat → Int32 := zst (zst (zst (zst S 1 0 (inkI a)) 2 0 (parI a)) 3 0 (froI K r t a)) 4 0 (sidI r a)
theorem chS_ne {S : Nat → Nat → Int32} {K : Nat → Nat → Nat} {r t : Nat} {a : zV} {k : Nat} (h : k = 0 ∨ 5 ≤ k) : chS S K r t a k = S k := by
  unfold chS
  rw [zst_ne _ (by omega), zst_ne _ (by omega), zst_ne _ (by omega), zst_ne _ (by omega)]
theorem chS_1 {S : Nat → Nat → Int32} {K : Nat → Nat → Nat} {r t : Nat} {a : zV} : chS S K r t a 1 0 = inkI a ∧ chS S K r t a 2 0 = parI a ∧ chS S K r t a 3 0 = froI K r t a ∧ chS S K r t a 4 0 = sidI r a := by
  unfold chS
  simp [zst, upd]
theorem ink_le {a : zV} {v : Nat} (ha : a.1 ≤ 1000000000) (hv : v < 1000000000) : inkI a ≤ nI v ↔ ¬ v < a.1 := by
  unfold inkI
  by_cases e : a.1 = 1000000000
  · rw [if_pos e, nI_leI (by decide) (by omega)]; omega
  · rw [if_neg e, nI_leI (by omega) (by omega)]; omega
theorem chS_le {S : Nat → Nat → Int32} {K : Nat → Nat → Nat} {r t : Nat} {a : zV} {v : Nat} (ha : a.1 ≤ 1000000000) (hv : v < 1000000000) : chS S K r t a 1 0 ≤ nI v ↔ ¬ v < a.1 := by
  rw [chS_1.1]; exact ink_le ha hv
theorem chS_part {S : Nat → Nat → Int32} {K : Nat → Nat → Nat} {r t : Nat} {a : zV} {v p : Nat} (ha : a.2.1 ≠ 2) (hv : v < 1000000000) : zst (zst (chS S K r t a) 1 0 (nI v)) 2 0 (nI p) = chS S K r t (v, 1, p) := by
  have e1 : inkI (v, 1, p) = nI v := if_neg (by show ¬ v = 1000000000; omega)
  have e2 : parI (v, 1, p) = nI p := if_pos rfl
  have e3 : froI K r t (v, 1, p) = -1 := if_neg (show ¬ (1 : Nat) = 2 by decide)
  have e4 : sidI r (v, 1, p) = -1 := if_neg (show ¬ (1 : Nat) = 2 by decide)
  have e5 : froI K r t a = -1 := if_neg ha
  have e6 : sidI r a = -1 := if_neg ha
  unfold chS
  rw [e1, e2, e3, e4, e5, e6]
  funext k j
  by_cases h1 : k = 1 <;> by_cases h2 : k = 2 <;> by_cases h3 : k = 3 <;> by_cases h4 : k = 4 <;> by_cases h5 : j = 0 <;> simp_all [zst, upd]
theorem chS_step {S : Nat → Nat → Int32} {K : Nat → Nat → Nat} {r t : Nat} {a : zV} {v x : Nat} (hv : v < 1000000000) : zst (zst (zst (zst (chS S K r t a) 1 0 (nI v)) 2 0 (nI 0)) 3 0 (nI (24 * (r + 1) + frm K r t x))) 4 0 (nI (sid r x)) = chS S K r t (v, 2, x) := by
  have e1 : inkI (v, 2, x) = nI v := if_neg (by show ¬ v = 1000000000; omega)
  have e2 : parI (v, 2, x) = nI 0 := if_neg (show ¬ (2 : Nat) = 1 by decide)
  have e3 : froI K r t (v, 2, x) = nI (24 * (r + 1) + frm K r t x) := if_pos rfl
  have e4 : sidI r (v, 2, x) = nI (sid r x) := if_pos rfl
  unfold chS
  rw [e1, e2, e3, e4]
  funext k j
  by_cases h1 : k = 1 <;> by_cases h2 : k = 2 <;> by_cases h3 : k = 3 <;> by_cases h4 : k = 4 <;> by_cases h5 : j = 0 <;> simp_all [zst, upd]
theorem range_fold {α : Type} (g : Nat → Nat) (f : α → Nat → α) (a : α) (i : Nat) : ((List.range (i + 1)).map g).foldl f a = f (((List.range i).map g).foldl f a) (g i) := by
  rw [List.range_succ, List.map_append, List.foldl_append]; rfl
theorem nsub_pos : ∀ a, a < 128 → 1 ≤ nsub a := by decide +kernel
theorem low_x : ∀ s, s < 128 → 0 < s → s ^^^ lowb s < 128 ∧ lowb s < 128 := by decide +kernel
theorem xor_lt7 {a b : Nat} (ha : a < 128) (hb : b < 128) : a ^^^ b < 128 := Nat.xor_lt_two_pow (n := 7) ha hb
/-- a fold of parts keeps under the bound and is no step -/
theorem ptf_inv {row : Nat → zV} {s : Nat} {xs : List Nat} : (xs.foldl (ptf row s) (1000000000, 0, 0)).1 ≤ 1000000000 ∧ (xs.foldl (ptf row s) (1000000000, 0, 0)).2.1 ≠ 2 := by
  unfold ptf
  refine ⟨(gf_le _ _).1, ?_⟩
  rcases gf_form (av := fun p => decide ((row p).1 < 1000000000 ∧ (row (s - p)).1 < 1000000000)) (v := fun p => (row p).1 + (row (s - p)).1) (k := 1) xs (1000000000, 0, 0) with h | ⟨x, _, _, h⟩
  · rw [h]; decide
  · rw [h]; exact (by decide : (1 : Nat) ≠ 2)
theorem e_tryParts {S : Nat → Nat → Int32} {K : Nat → Nat → Nat} {r t c s : Nat} {row : Nat → zV} (hc : c < 240) (hs : s < 128) (h0 : 0 < s) (hp : ∀ p, 0 < p → p < s → sb p s → (row p).1 ≤ 99000 * p ∧ S 7 (128 * c + p) = nI (row p).1) : f_X0_tryParts (chS S K r t (1000000000, 0, 0)) (nI c) (nI s) = some (chS S K r t ((pts s).foldl (ptf row s) (1000000000, 0, 0))) := by
  obtain ⟨hl1, hl2⟩ := low_x s hs h0
  have hb := e_bitCount (s ^^^ lowb s) hl1
  have hle := nsub_le (s ^^^ lowb s) hl1
  have hpo := nsub_pos (s ^^^ lowb s) hl1
  unfold f_X0_tryParts
  simp only [zlet_eq]
  rw [e_low hs, nx_xor, l_128, pk_mul]
  cases hr : f_J6_bitCount_0f7a4 (nI (s ^^^ lowb s)) with
  | none => rw [hr] at hb; cases hb
  | some b =>
    rw [hr] at hb
    have hb' : (1 : Int32) <<< (b &&& 31) = nI (nsub (s ^^^ lowb s)) := Option.some.inj hb
    rw [Option.bind_some, hb']
    have hl : f_X0_tryParts_L33 (nI s) (nI (c * 128)) (nI (lowb s)) (nI (s ^^^ lowb s)) (nI (nsub (s ^^^ lowb s))) zfuel (0, 1, chS S K r t (1000000000, 0, 0)) = some (chS S K r t ((pts s).foldl (ptf row s) (1000000000, 0, 0))) := by
      refine zfor0 (fun i => (nI (subN (s ^^^ lowb s) i), nI (i + 1), chS S K r t (((List.range i).map (fun i => lowb s ||| subN (s ^^^ lowb s) i)).foldl (ptf row s) (1000000000, 0, 0)))) (nsub (s ^^^ lowb s) - 1) _ (by omega) (fun i hi rec => ?_) (fun rec => ?_)
      · have hm : (lowb s ||| subN (s ^^^ lowb s) i) ∈ pts s := by
          rw [← enum2 s hs h0]
          exact List.mem_map.mpr ⟨i, List.mem_range.mpr hi, rfl⟩
        rw [range_fold]
        obtain ⟨hi1, hi2⟩ := ptf_inv (row := row) (s := s) (xs := (List.range i).map (fun i => lowb s ||| subN (s ^^^ lowb s) i))
        generalize ((List.range i).map (fun i => lowb s ||| subN (s ^^^ lowb s) i)).foldl (ptf row s) (1000000000, 0, 0) = a at *
        obtain ⟨p1, p2, p3, p4, _⟩ := pts_ok s hs _ hm
        show f_X0_tryParts_L33b (nI s) (nI (c * 128)) (nI (lowb s)) (nI (s ^^^ lowb s)) (nI (nsub (s ^^^ lowb s))) rec (nI (subN (s ^^^ lowb s) i), nI (i + 1), chS S K r t a) = rec (nI (subN (s ^^^ lowb s) (i + 1)), nI (i + 1 + 1), chS S K r t _)
        unfold f_X0_tryParts_L33b f_X0_tryParts_J91
        dsimp only
        simp only [zlet_eq]
        rw [e_nextSubset hl1, if_neg (nI_ge (by omega) (by omega)), nx_or]
        generalize lowb s ||| subN (s ^^^ lowb s) i = p at *
        obtain ⟨q1, q2⟩ := hp p p1 p2 p4
        obtain ⟨q3, q4⟩ := hp (s - p) (by omega) (by omega) (by rw [p3]; exact sb_xor p4)
        have hpf : ptf row s a p = ofr a ((row p).1 + (row (s - p)).1) 1 p := by
          unfold ptf gf
          rw [if_pos (decide_eq_true (by omega))]
        rw [nx_xor, ← p3, nI_add, nI_add, zix_nI (by omega) (by decide), zix_nI (by omega) (by decide), nI_clamp (by omega), nI_clamp (by omega), chS_ne (k := 7) (by omega), show c * 128 + p = 128 * c + p by omega, show c * 128 + (s - p) = 128 * c + (s - p) by omega, q2, q4, nI_add, nI_1, hpf]
        unfold ofr
        by_cases e : (row p).1 + (row (s - p)).1 < a.1
        · rw [if_neg (fun q => (chS_le hi1 (by omega)).mp q e), if_pos e, chS_part hi2 (by omega)]; rfl
        · rw [if_pos ((chS_le hi1 (by omega)).mpr e), if_neg e]; rfl
      · show f_X0_tryParts_L33b (nI s) (nI (c * 128)) (nI (lowb s)) (nI (s ^^^ lowb s)) (nI (nsub (s ^^^ lowb s))) rec (nI (subN (s ^^^ lowb s) (nsub (s ^^^ lowb s) - 1)), nI (nsub (s ^^^ lowb s) - 1 + 1), chS S K r t _) = _
        unfold f_X0_tryParts_L33b
        dsimp only
        rw [if_pos (nI_le (by omega) (by omega)), enum2 s hs h0]
    rw [hl]; rfl
theorem e_tryStep {S : Nat → Nat → Int32} {K : Nat → Nat → Nat} {r t s X x v l : Nat} {a : zV} (hc : 24 * (r + 1) + frm K r t x < 240) (hs : s < 128) (hX : X < 128) (h5 : S 5 (24 * (r + 1) + frm K r t x) = nI X) (ha : a.1 ≤ 1000000000) (hsd : sid r x < 3)
    (h7 : s &&& X = s → v ≤ 99000 * s ∧ S 7 (128 * (24 * (r + 1) + frm K r t x) + s) = nI v) (hl : l < 100000 ∧ (sid r x = 0 → S 8 s = nI l) ∧ (sid r x ≠ 0 → S 9 s = nI l)) : f_X0_tryStep (chS S K r t a) (nI (24 * (r + 1) + frm K r t x)) (nI (sid r x)) (nI s) = some (chS S K r t (if s &&& X = s then ofr a (v + l) 2 x else a)) := by
  unfold f_X0_tryStep
  rw [e_comesTo hc hs hX (by rw [chS_ne (by omega)]; exact h5), Option.bind_some]
  by_cases e : s &&& X = s
  · rw [if_pos e, if_neg (by decide), if_pos e]
    obtain ⟨q1, q2⟩ := h7 e
    have hd : f_X0_tryStep_J41 (chS S K r t a) (nI (24 * (r + 1) + frm K r t x)) (nI (sid r x)) (nI v) (nI l) = some (chS S K r t (ofr a (v + l) 2 x)) := by
      unfold f_X0_tryStep_J41
      simp only [zlet_eq]
      rw [nI_add, chS_1.1]
      unfold ofr
      by_cases e2 : v + l < a.1
      · rw [if_neg (fun q => (ink_le ha (by omega)).mp q e2), if_pos e2, l_0, chS_step (by omega)]
      · rw [if_pos ((ink_le ha (by omega)).mpr e2), if_neg e2]
    rw [l_128, pk_mul, nI_add, zix_nI (by omega) (by decide), nI_clamp (by omega), chS_ne (k := 7) (by omega), chS_ne (k := 8) (by omega), chS_ne (k := 9) (by omega), show (24 * (r + 1) + frm K r t x) * 128 + s = 128 * (24 * (r + 1) + frm K r t x) + s by omega, q2, zix_nI (by omega) (by decide), zix_nI (by omega) (by decide), nI_clamp (by omega)]
    by_cases e3 : sid r x = 0
    · rw [if_pos ((nq0 (by omega)).mpr e3), hl.2.1 e3]; exact hd
    · rw [if_neg (fun q => e3 ((nq0 (by omega)).mp q)), hl.2.2 e3]; exact hd
  · rw [if_neg e, if_pos rfl, if_neg e]
end CHO
