/-! more: by numbers (ink times 240 and the cell where it comes to the tree), and the reference's -/
section MOR
def INF : Nat := 240000000000
def lenr (K : Nat → Nat → Nat) (r s : Nat) : Nat := if r = 1 ∨ s = 0 then 10 else 10 + K 3 0
def mw (K : Nat → Nat → Nat) (F : Nat → Nat) (r t s : Nat) : Nat := if K 9 (tg (K 1 0) (r + 1) t s) = 0 then F (tgt K r t s) else INF
def mvF (K : Nat → Nat → Nat) (w : Nat → Nat) (a : Nat) : Nat → Nat → Nat
  | 0 => fun _ => 0
  | r + 1 => fun t => if w (24 * (r + 1) + t) ≠ 3 then 240 * (mvF K w a r (tgt K r t (w (24 * (r + 1) + t))) / 240 + lenr K (r + 1) (w (24 * (r + 1) + t)) * a) + (24 * (r + 1) + t)
      else if K 9 (24 * (r + 1) + t) ≠ 0 then INF
      else (([0, 1, 2] : List Nat).foldl (gf (fun s => decide (mw K (mvF K w a r) r t s < INF)) (fun s => mw K (mvF K w a r) r t s + 240 * (lenr K (r + 1) s * (K 2 0 + a))) 2) (INF, 0, 0)).1
theorem mvF_s (K : Nat → Nat → Nat) (w : Nat → Nat) (a r t : Nat) : mvF K w a (r + 1) t = if w (24 * (r + 1) + t) ≠ 3 then 240 * (mvF K w a r (tgt K r t (w (24 * (r + 1) + t))) / 240 + lenr K (r + 1) (w (24 * (r + 1) + t)) * a) + (24 * (r + 1) + t) else if K 9 (24 * (r + 1) + t) ≠ 0 then INF else (([0, 1, 2] : List Nat).foldl (gf (fun s => decide (mw K (mvF K w a r) r t s < INF)) (fun s => mw K (mvF K w a r) r t s + 240 * (lenr K (r + 1) s * (K 2 0 + a))) 2) (INF, 0, 0)).1 := rfl
theorem lenr_le {K : Nat → Nat → Nat} (hb : K 3 0 ≤ 40) (r s : Nat) : 10 ≤ lenr K r s ∧ lenr K r s ≤ 50 := by
  unfold lenr; split <;> omega
/-- a cell of the tree goes to a cell of the tree -/
theorem on_tree {K : Nat → Nat → Nat} (hK : wfK K) {b w : Nat → Nat} (hW : wfT K b w) {r t : Nat} (hr1 : 1 ≤ r) (hr : r + 1 ≤ K 0 0) (ht : t < K 1 0) (h : w (24 * (r + 1) + t) ≠ 3) : w (24 * r + nb (K 1 0) t (w (24 * (r + 1) + t))) ≠ 3 := by
  have h9 := hK.1.2.1
  have h24 := hK.1.2.2.2.1
  have hn := nb_lt (w (24 * (r + 1) + t)) ht
  have hb := (hW.2.2.1 (24 * (r + 1) + t) (by omega) (by omega)).1.mpr h
  obtain ⟨p, hp, hbit⟩ := bit_ex (hW.1 (24 * (r + 1) + t) (by omega)).1 hb
  have hin := (hW.2.2.2 r (nb (K 1 0) t (w (24 * (r + 1) + t))) hr1 (by omega) hn p hp).mpr (Or.inr ⟨t, ht, by omega, h, rfl, hbit⟩)
  refine (hW.2.2.1 _ (by omega) (by omega)).1.mp fun z => ?_
  rw [z, Nat.zero_testBit] at hin; cases hin
theorem pth_shift {N : Nat} {w : Nat → Nat} {r t : Nat} : ∀ i, pth N w (r + 1) t (i + 1) = pth N w r (nb N t (w (24 * (r + 1) + t))) i := by
  intro i
  induction i with
  | zero => rfl
  | succ i ih => rw [pth, ih, pth, show r + 1 - (i + 1) = r - i by omega]
theorem lnF_s {K : Nat → Nat → Nat} {w : Nat → Nat} {r t : Nat} : lnF K w (r + 1) t = lns K (w (24 * (r + 1) + t)) + lnF K w r (nb (K 1 0) t (w (24 * (r + 1) + t))) := by
  unfold lnF
  rw [su_shift]
  refine congrArg (fun z => _ + z) (su_cg r fun i hi => ?_)
  rw [pth_shift, show r + 1 - (i + 1) = r - i by omega]
/-- ways along the tree bend or not, till the source -/
theorem pth_w {K : Nat → Nat → Nat} (hK : wfK K) {b w : Nat → Nat} (hW : wfT K b w) : ∀ r t, r ≤ K 0 0 → t < K 1 0 → (1 ≤ r → w (24 * r + t) ≠ 3) → ∀ k, k < r → w (24 * (r - k) + pth (K 1 0) w r t k) < 3 := by
  have h9 := hK.1.2.1
  have h24 := hK.1.2.2.2.1
  intro r
  induction r with
  | zero => intro t _ _ _ k hk; omega
  | succ r ih =>
    intro t hr ht hw k hk
    have hw4 := (hW.1 (24 * (r + 1) + t) (by omega)).2
    have hw0 := hw (by omega)
    cases k with
    | zero => show w (24 * (r + 1) + t) < 3; omega
    | succ k =>
      rw [pth_shift, show r + 1 - (k + 1) = r - k by omega]
      exact ih _ (by omega) (nb_lt _ ht) (fun h1 => on_tree hK hW h1 hr ht hw0) k (by omega)
theorem mv_tree {K : Nat → Nat → Nat} (hK : wfK K) {b w : Nat → Nat} (hW : wfT K b w) {a : Nat} : ∀ r t, r + 1 ≤ K 0 0 → t < K 1 0 → w (24 * (r + 1) + t) ≠ 3 → mvF K w a (r + 1) t = 240 * (a * lnF K w (r + 1) t) + (24 * (r + 1) + t) ∧ lnF K w (r + 1) t ≤ 50 * (r + 1) := by
  have h9 := hK.1.2.1
  have h24 := hK.1.2.2.2.1
  have hb := hK.1.2.2.2.2.2.2.1
  intro r
  induction r with
  | zero =>
    intro t hr ht h
    have hw0 : w (24 * (0 + 1) + t) = 0 := by
      have := (hW.2.2.1 (24 * (0 + 1) + t) (by omega) (by omega)).2.2 (by omega)
      omega
    have hl : lnF K w (0 + 1) t = 10 := by rw [lnF_s, hw0]; rfl
    rw [mvF_s, if_pos h, hw0, hl]
    refine ⟨?_, by omega⟩
    show 240 * (0 / 240 + lenr K (0 + 1) 0 * a) + _ = _
    unfold lenr
    rw [if_pos (Or.inl rfl), Nat.zero_div, Nat.zero_add, Nat.mul_comm 10 a]
  | succ r ih =>
    intro t hr ht h
    have hon := on_tree hK hW (r := r + 1) (by omega) hr ht h
    have hn := nb_lt (w (24 * (r + 1 + 1) + t)) ht
    obtain ⟨i1, i2⟩ := ih _ (by omega) hn hon
    have hw4 := (hW.1 (24 * (r + 1 + 1) + t) (by omega)).2
    have hlen : lenr K (r + 1 + 1) (w (24 * (r + 1 + 1) + t)) = lns K (w (24 * (r + 1 + 1) + t)) := by
      unfold lenr lns
      by_cases e : w (24 * (r + 1 + 1) + t) = 0
      · rw [if_pos (Or.inr e), if_pos e]
      · rw [if_neg (by omega), if_neg e]
    have htg : tgt K (r + 1) t (w (24 * (r + 1 + 1) + t)) = nb (K 1 0) t (w (24 * (r + 1 + 1) + t)) := by unfold tgt; rw [if_neg (by omega)]
    rw [mvF_s, if_pos h, htg, i1, hlen, lnF_s (r := r + 1)]
    have hls : lns K (w (24 * (r + 1 + 1) + t)) ≤ 50 := by unfold lns; split <;> omega
    refine ⟨?_, by omega⟩
    rw [show (240 * (a * lnF K w (r + 1) (nb (K 1 0) t (w (24 * (r + 1 + 1) + t)))) + (24 * (r + 1) + nb (K 1 0) t (w (24 * (r + 1 + 1) + t)))) / 240 = a * lnF K w (r + 1) (nb (K 1 0) t (w (24 * (r + 1 + 1) + t))) by omega, Nat.mul_add a, Nat.mul_comm a (lns K _), Nat.add_comm (a * _)]
theorem mv_le {K : Nat → Nat → Nat} {w : Nat → Nat} {a r t s : Nat} (hw : w (24 * (r + 1) + t) = 3) (hk : K 9 (24 * (r + 1) + t) = 0) (hs : s < 3) (hf : K 9 (tg (K 1 0) (r + 1) t s) = 0) (hl : mvF K w a r (tgt K r t s) < INF) : mvF K w a (r + 1) t ≤ mvF K w a r (tgt K r t s) + 240 * (lenr K (r + 1) s * (K 2 0 + a)) := by
  rw [mvF_s, if_neg (by omega), if_neg (by omega)]
  have hmw : mw K (mvF K w a r) r t s = mvF K w a r (tgt K r t s) := if_pos hf
  have h := (gf_le (av := fun s => decide (mw K (mvF K w a r) r t s < INF)) (v := fun s => mw K (mvF K w a r) r t s + 240 * (lenr K (r + 1) s * (K 2 0 + a))) (k := 2) [0, 1, 2] (INF, 0, 0)).2 s (by simp; omega) (by rw [hmw]; exact decide_eq_true hl)
  rw [hmw] at h
  exact h
theorem mv_ex {K : Nat → Nat → Nat} {w : Nat → Nat} {a r t : Nat} (hw : w (24 * (r + 1) + t) = 3) (h : mvF K w a (r + 1) t < INF) : K 9 (24 * (r + 1) + t) = 0 ∧ ∃ s, s < 3 ∧ K 9 (tg (K 1 0) (r + 1) t s) = 0 ∧ mvF K w a r (tgt K r t s) < INF ∧ mvF K w a (r + 1) t = mvF K w a r (tgt K r t s) + 240 * (lenr K (r + 1) s * (K 2 0 + a)) := by
  rw [mvF_s, if_neg (by omega)] at h ⊢
  by_cases hk : K 9 (24 * (r + 1) + t) = 0
  · refine ⟨hk, ?_⟩
    rw [if_neg (by omega)] at h ⊢
    rcases gf_form (av := fun s => decide (mw K (mvF K w a r) r t s < INF)) (v := fun s => mw K (mvF K w a r) r t s + 240 * (lenr K (r + 1) s * (K 2 0 + a))) (k := 2) [0, 1, 2] (INF, 0, 0) with hg | ⟨s, hs, hav, hg⟩
    · rw [hg] at h; exact absurd h (Nat.lt_irrefl _)
    · have hs3 : s < 3 := by have : s = 0 ∨ s = 1 ∨ s = 2 := by simpa using hs
                             omega
      have hav := of_decide_eq_true hav
      rw [hg]
      by_cases e : K 9 (tg (K 1 0) (r + 1) t s) = 0
      · have hmw : mw K (mvF K w a r) r t s = mvF K w a r (tgt K r t s) := if_pos e
        refine ⟨s, hs3, e, by rw [← hmw]; exact hav, ?_⟩
        show mw K (mvF K w a r) r t s + _ = _
        rw [hmw]
      · have hmw : mw K (mvF K w a r) r t s = INF := if_neg e
        rw [hmw] at hav; exact absurd hav (Nat.lt_irrefl _)
  · rw [if_pos hk] at h; exact absurd h (Nat.lt_irrefl _)
theorem mv_inf {K : Nat → Nat → Nat} (hK : wfK K) {b w : Nat → Nat} (hW : wfT K b w) {a : Nat} (ha : a ≤ 99) : ∀ r t, r ≤ K 0 0 → t < K 1 0 → mvF K w a r t ≤ INF ∧ (mvF K w a r t < INF → mvF K w a r t / 240 ≤ 9900 * r ∧ mvF K w a r t % 240 < 24 * r + 24 ∧ mvF K w a r t % 240 % 24 < 24) := by
  have h9 := hK.1.2.1
  have h24 := hK.1.2.2.2.1
  have hb := hK.1.2.2.2.2.2.2.1
  have hbs := hK.1.2.2.2.2.2.1
  intro r
  induction r with
  | zero => intro t _ _; exact ⟨Nat.zero_le _, fun _ => ⟨by show 0 / 240 ≤ 9900 * 0; decide, by show 0 % 240 < 24 * 0 + 24; decide, by show 0 % 240 % 24 < 24; decide⟩⟩
  | succ r ih =>
    intro t hr ht
    by_cases hw : w (24 * (r + 1) + t) = 3
    · have hle : mvF K w a (r + 1) t ≤ INF := by
        rw [mvF_s, if_neg (by omega)]
        by_cases hk : K 9 (24 * (r + 1) + t) = 0
        · rw [if_neg (by omega)]; exact (gf_le _ _).1
        · rw [if_pos hk]; exact Nat.le_refl _
      refine ⟨hle, fun h => ?_⟩
      obtain ⟨_, s, s3, hf, hl, he⟩ := mv_ex hw h
      have htt : tgt K r t s < K 1 0 := by
        unfold tgt; split
        · omega
        · exact nb_lt s ht
      obtain ⟨_, i2⟩ := ih (tgt K r t s) (by omega) htt
      obtain ⟨j1, j2, j3⟩ := i2 hl
      have hl50 := lenr_le hb (r + 1) s
      have hm : lenr K (r + 1) s * (K 2 0 + a) ≤ 50 * 198 := Nat.mul_le_mul hl50.2 (by omega)
      rw [he]
      omega
    · obtain ⟨t1, t2⟩ := mv_tree hK hW (a := a) r t hr ht hw
      rw [t1]
      have hm : a * lnF K w (r + 1) t ≤ 99 * (50 * (r + 1)) := Nat.mul_le_mul ha t2
      unfold INF
      omega
/-- the reference's arrays at a cell -/
def mvM (M : Nat → Nat → Int32) (c F : Nat) : Prop := M 32 c = nI (if F < INF then F / 240 else 1000000000) ∧ (F < INF → M 33 c = nI (F % 240 / 24) ∧ M 34 c = nI (F % 240 % 24))
theorem mvM_fr {M M' : Nat → Nat → Int32} {c F : Nat} (h2 : M' 32 c = M 32 c) (h3 : M' 33 c = M 33 c) (h4 : M' 34 c = M 34 c) (h : mvM M c F) : mvM M' c F := by
  unfold mvM; rw [h2, h3, h4]; exact h
theorem e_laysMore {M : Nat → Nat → Int32} {K : Nat → Nat → Nat} {b w : Nat → Nat} (hK : wfK K) (hM : repM M K) (hT : treeM M K b w) (hW : wfT K b w) {a r t : Nat} (ha : a ≤ 99) (hr : r + 1 ≤ K 0 0) (ht : t < K 1 0) (hI : ∀ s, s < 4 → mvM M (tg (K 1 0) (r + 1) t s) (mvF K w a r (tgt K r t s))) : ∃ M', f_X7_laysMore M (nI (r + 1)) (nI t) (nI a) = some M' ∧ mvM M' (24 * (r + 1) + t) (mvF K w a (r + 1) t) ∧ (∀ c, c ≠ 24 * (r + 1) + t → M' 32 c = M 32 c ∧ M' 33 c = M 33 c ∧ M' 34 c = M 34 c) ∧ ∀ k, k ≠ 32 → k ≠ 33 → k ≠ 34 → M' k = M k := by
  have h9 := hK.1.2.1
  have h24 := hK.1.2.2.2.1
  have h6 := hK.1.2.2.1
  have hb := hK.1.2.2.2.2.2.2.1
  have hbs := hK.1.2.2.2.2.2.1
  have hw4 := (hW.1 (24 * (r + 1) + t) (by omega)).2
  have htg := fun s => tg_lt hK (r := r + 1) (i := t) (s := s) hr ht
  have hcell : ∀ s, tg (K 1 0) (r + 1) t s = 24 * r + tgt K r t s := by
    intro s
    unfold tg tgt
    by_cases e : r = 0
    · rw [if_pos (by omega), if_pos e, e]
    · rw [if_neg (by omega), if_neg e]; rfl
  have htt : ∀ s, tgt K r t s < K 1 0 := by
    intro s
    unfold tgt; split
    · omega
    · exact nb_lt s ht
  have hne : ∀ s, tg (K 1 0) (r + 1) t s ≠ 24 * (r + 1) + t := fun s => by have := htt s; rw [hcell]; omega
  have hM2 : repM (zst M 32 (24 * (r + 1) + t) 1000000000) K := repM_fr (fun k hk => zst_ne _ (by omega) _ _) hM
  unfold f_X7_laysMore
  rw [e_cellM, Option.bind_some, zix_nI (by omega) (by decide), zlet_eq, zix_nI (by omega) (by decide), nI_clamp (by omega), zst_ne _ (show (26 : Nat) ≠ 32 by decide), (hT _ (by omega)).1]
  by_cases hw : w (24 * (r + 1) + t) = 3
  · rw [if_pos ((sd_n hw4).mpr hw), zix_nI (by omega) (by decide), zst_ne _ (show (10 : Nat) ≠ 32 by decide), hM.2.2 _ (by omega)]
    have hk1 := hK.2.2.2.1 (24 * (r + 1) + t)
    by_cases hk : K 9 (24 * (r + 1) + t) = 0
    · rw [hk, if_pos nI_0]
      -- the loop
      have hmvF : mvF K w a (r + 1) t = ((List.range 3).foldl (gf (fun s => decide (mw K (mvF K w a r) r t s < INF)) (fun s => mw K (mvF K w a r) r t s + 240 * (lenr K (r + 1) s * (K 2 0 + a))) 2) (INF, 0, 0)).1 := by
        rw [mvF_s, if_neg (by omega), if_neg (by omega)]; rfl
      have key : ∃ ex : Nat → Nat → Int32, (mvM ex (24 * (r + 1) + t) (mvF K w a (r + 1) t) ∧ (∀ c, c ≠ 24 * (r + 1) + t → ex 32 c = M 32 c ∧ ex 33 c = M 33 c ∧ ex 34 c = M 34 c) ∧ ∀ k, k ≠ 32 → k ≠ 33 → k ≠ 34 → ex k = M k) ∧ zloop (fun rec x => f_X7_laysMore_L97b (nI (r + 1)) (nI t) (nI a) (nI (24 * (r + 1) + t)) rec x) zfuel (0, zst M 32 (24 * (r + 1) + t) 1000000000) = some ex := by
        refine zinv (I := fun i x => ∃ A, x = (nI i, A) ∧ (mvM A (24 * (r + 1) + t) ((List.range i).foldl (gf (fun s => decide (mw K (mvF K w a r) r t s < INF)) (fun s => mw K (mvF K w a r) r t s + 240 * (lenr K (r + 1) s * (K 2 0 + a))) 2) (INF, 0, 0)).1) ∧ (∀ c, c ≠ 24 * (r + 1) + t → A 32 c = M 32 c ∧ A 33 c = M 33 c ∧ A 34 c = M 34 c) ∧ ∀ k, k ≠ 32 → k ≠ 33 → k ≠ 34 → A k = M k) _ 3 (by omega) ?_ ?_ ?_
        · rintro s hs x ⟨A, rfl, g1, g2, g3⟩
          have hA : repM A K := repM_fr (fun k hk => g3 k (by omega) (by omega) (by omega)) hM
          obtain ⟨t1, _⟩ := htg s
          have hfo : (List.range (s + 1)).foldl (gf (fun s => decide (mw K (mvF K w a r) r t s < INF)) (fun s => mw K (mvF K w a r) r t s + 240 * (lenr K (r + 1) s * (K 2 0 + a))) 2) (INF, 0, 0) = gf (fun s => decide (mw K (mvF K w a r) r t s < INF)) (fun s => mw K (mvF K w a r) r t s + 240 * (lenr K (r + 1) s * (K 2 0 + a))) 2 ((List.range s).foldl (gf (fun s => decide (mw K (mvF K w a r) r t s < INF)) (fun s => mw K (mvF K w a r) r t s + 240 * (lenr K (r + 1) s * (K 2 0 + a))) 2) (INF, 0, 0)) s := by
            rw [List.range_succ, List.foldl_append]; rfl
          rw [hfo]
          have haccle : ((List.range s).foldl (gf (fun s => decide (mw K (mvF K w a r) r t s < INF)) (fun s => mw K (mvF K w a r) r t s + 240 * (lenr K (r + 1) s * (K 2 0 + a))) 2) (INF, 0, 0)).1 ≤ INF := (gf_le _ _).1
          generalize (List.range s).foldl (gf (fun s => decide (mw K (mvF K w a r) r t s < INF)) (fun s => mw K (mvF K w a r) r t s + 240 * (lenr K (r + 1) s * (K 2 0 + a))) 2) (INF, 0, 0) = acc at *
          have hgf : gf (fun s => decide (mw K (mvF K w a r) r t s < INF)) (fun s => mw K (mvF K w a r) r t s + 240 * (lenr K (r + 1) s * (K 2 0 + a))) 2 acc s = if decide (mw K (mvF K w a r) r t s < INF) = true then (if mw K (mvF K w a r) r t s + 240 * (lenr K (r + 1) s * (K 2 0 + a)) < acc.1 then (mw K (mvF K w a r) r t s + 240 * (lenr K (r + 1) s * (K 2 0 + a)), 2, s) else acc) else acc := rfl
          rw [hgf]
          have pre : ∀ rec, f_X7_laysMore_L97b (nI (r + 1)) (nI t) (nI a) (nI (24 * (r + 1) + t)) rec (nI s, A) = (fun r_4 : Int32 => (if r_4 = 0 then rec (nI (s + 1), A) else (if 1000000000 ≤ A 32 (tg (K 1 0) (r + 1) t s) then rec (nI (s + 1), A) else (if A 32 (24 * (r + 1) + t) = 1000000000 then (f_X7_laysMore_J185 rec A (nI (r + 1)) (nI t) (nI a) (nI (24 * (r + 1) + t)) (nI s) (nI (tg (K 1 0) (r + 1) t s)) (A 32 (tg (K 1 0) (r + 1) t s) + nI (lenr K (r + 1) s * (K 2 0 + a)))) else ((f_X7_isBefore A (A 32 (tg (K 1 0) (r + 1) t s) + nI (lenr K (r + 1) s * (K 2 0 + a))) (nI (tg (K 1 0) (r + 1) t s)) (nI (24 * (r + 1) + t))).bind fun r_10 => if r_10 = 0 then rec (nI (s + 1), A) else (f_X7_laysMore_J185 rec A (nI (r + 1)) (nI t) (nI a) (nI (24 * (r + 1) + t)) (nI s) (nI (tg (K 1 0) (r + 1) t s)) (A 32 (tg (K 1 0) (r + 1) t s) + nI (lenr K (r + 1) s * (K 2 0 + a))))))))) (if K 9 (tg (K 1 0) (r + 1) t s) = 0 then (1 : Int32) else 0) := by
            intro rec
            unfold f_X7_laysMore_L97b f_X7_laysMore_J222
            dsimp only
            rw [if_neg (show ¬ 2 < nI s from nI_nlt (a := 2) (by omega) (by omega)), e_target hA (by omega) (by omega) (by omega) (by omega) ht hs, Option.bind_some, e_isFree hK hA (by omega) hr ht hs, Option.bind_some, zix_nI t1 (by decide), zix_nI t1 (by decide), e_lengthOfM hA (by omega) hs, Option.bind_some, zlet_eq, zix_nI (by omega) (by decide), nI_clamp (by omega), nI_clamp (by omega), hA.1.2.2.1, nI_add, pk_mul, nI_1]
            rfl
          have hAs : mvM A (tg (K 1 0) (r + 1) t s) (mvF K w a r (tgt K r t s)) := by
            obtain ⟨z1, z2, z3⟩ := g2 (tg (K 1 0) (r + 1) t s) (hne s)
            exact mvM_fr z1 z2 z3 (hI s (by omega))
          by_cases e : K 9 (tg (K 1 0) (r + 1) t s) = 0
          · have hmw : mw K (mvF K w a r) r t s = mvF K w a r (tgt K r t s) := if_pos e
            rw [hmw]
            obtain ⟨_, hbnd⟩ := mv_inf hK hW ha r (tgt K r t s) (by omega) (htt s)
            generalize mvF K w a r (tgt K r t s) = fo at *
            by_cases q : fo < INF
            · obtain ⟨b1, b2, b3⟩ := hbnd q
              rw [if_pos (decide_eq_true q)]
              have hl50 := lenr_le hb (r + 1) s
              have hm : lenr K (r + 1) s * (K 2 0 + a) ≤ 50 * 198 := Nat.mul_le_mul hl50.2 (by omega)
              generalize lenr K (r + 1) s * (K 2 0 + a) = L at *
              have hA32 : A 32 (tg (K 1 0) (r + 1) t s) = nI (fo / 240) := by rw [hAs.1, if_pos q]
              have hnew : (fo + 240 * L) < INF := by unfold INF at *; omega
              have hset : ∀ rec, f_X7_laysMore_J185 rec A (nI (r + 1)) (nI t) (nI a) (nI (24 * (r + 1) + t)) (nI s) (nI (tg (K 1 0) (r + 1) t s)) (nI (fo / 240) + nI L) = rec (nI (s + 1), zst (zst (zst A 32 (24 * (r + 1) + t) (nI (fo / 240 + L))) 33 (24 * (r + 1) + t) (nI (fo % 240 / 24))) 34 (24 * (r + 1) + t) (nI (fo % 240 % 24))) := by
                intro rec
                unfold f_X7_laysMore_J185 f_X7_laysMore_J222
                rw [nI_add, zix_nI (by omega) (by decide), zlet_eq, zix_nI t1 (by decide), zix_nI (by omega) (by decide), zlet_eq, zix_nI t1 (by decide), zix_nI (by omega) (by decide), zlet_eq, nI_clamp (by omega), zst_ne _ (show (33 : Nat) ≠ 32 by decide), zst_ne _ (show (34 : Nat) ≠ 33 by decide), zst_ne _ (show (34 : Nat) ≠ 32 by decide), (hAs.2 q).1, (hAs.2 q).2, nI_1]
              have hgood : mvM (zst (zst (zst A 32 (24 * (r + 1) + t) (nI (fo / 240 + L))) 33 (24 * (r + 1) + t) (nI (fo % 240 / 24))) 34 (24 * (r + 1) + t) (nI (fo % 240 % 24))) (24 * (r + 1) + t) (fo + 240 * L) := by
                refine ⟨?_, fun _ => ⟨?_, ?_⟩⟩
                · rw [zst_ne _ (by decide), zst_ne _ (by decide), zst_same, if_pos hnew, show (fo + 240 * L) / 240 = fo / 240 + L by omega]
                · rw [zst_ne _ (by decide), zst_same, show (fo + 240 * L) % 240 = fo % 240 by omega]
                · rw [zst_same, show (fo + 240 * L) % 240 = fo % 240 by omega]
              have hfr2 : (∀ c, c ≠ 24 * (r + 1) + t → (zst (zst (zst A 32 (24 * (r + 1) + t) (nI (fo / 240 + L))) 33 (24 * (r + 1) + t) (nI (fo % 240 / 24))) 34 (24 * (r + 1) + t) (nI (fo % 240 % 24))) 32 c = M 32 c ∧ (zst (zst (zst A 32 (24 * (r + 1) + t) (nI (fo / 240 + L))) 33 (24 * (r + 1) + t) (nI (fo % 240 / 24))) 34 (24 * (r + 1) + t) (nI (fo % 240 % 24))) 33 c = M 33 c ∧ (zst (zst (zst A 32 (24 * (r + 1) + t) (nI (fo / 240 + L))) 33 (24 * (r + 1) + t) (nI (fo % 240 / 24))) 34 (24 * (r + 1) + t) (nI (fo % 240 % 24))) 34 c = M 34 c) := by
                intro c hc
                obtain ⟨z1, z2, z3⟩ := g2 c hc
                rw [zst_ne _ (show (32 : Nat) ≠ 34 by decide), zst_ne _ (show (32 : Nat) ≠ 33 by decide), zst_row, upd_ne _ hc, zst_ne _ (show (33 : Nat) ≠ 34 by decide), zst_row, upd_ne _ hc, zst_ne _ (show (33 : Nat) ≠ 32 by decide), zst_row, upd_ne _ hc, zst_ne _ (show (34 : Nat) ≠ 33 by decide), zst_ne _ (show (34 : Nat) ≠ 32 by decide)]
                exact ⟨z1, z2, z3⟩
              have hfr3 : ∀ k, k ≠ 32 → k ≠ 33 → k ≠ 34 → (zst (zst (zst A 32 (24 * (r + 1) + t) (nI (fo / 240 + L))) 33 (24 * (r + 1) + t) (nI (fo % 240 / 24))) 34 (24 * (r + 1) + t) (nI (fo % 240 % 24))) k = M k := fun k k1 k2 k3 => by rw [zst_ne _ k3, zst_ne _ k2, zst_ne _ k1]; exact g3 k k1 k2 k3
              have hlt1 : ¬ (1000000000 : Int32) ≤ A 32 (tg (K 1 0) (r + 1) t s) := by rw [hA32, l_far]; exact nI_ge (by omega) (by omega)
              by_cases hfull : acc.1 < INF
              · -- something stands there
                have h32 : A 32 (24 * (r + 1) + t) = nI (acc.1 / 240) := by rw [g1.1, if_pos hfull]
                have haf : acc.1 / 240 < 1000000000 := by unfold INF at hfull; omega
                have hnf : ¬ A 32 (24 * (r + 1) + t) = 1000000000 := by
                  rw [h32, l_far]; exact fun z => by have := (nI_eq (by omega) (by omega)).mp z; omega
                have hbef : f_X7_isBefore A (A 32 (tg (K 1 0) (r + 1) t s) + nI L) (nI (tg (K 1 0) (r + 1) t s)) (nI (24 * (r + 1) + t)) = some (if fo + 240 * L < acc.1 then 1 else 0) := by
                  unfold f_X7_isBefore
                  obtain ⟨o1, o2⟩ := hAs.2 q
                  obtain ⟨c1, c2⟩ := g1.2 hfull
                  rw [zix_nI (by omega) (by decide), zix_nI t1 (by decide), zix_nI (by omega) (by decide), zix_nI t1 (by decide), zix_nI (by omega) (by decide), zix_nI t1 (by decide), zix_nI (by omega) (by decide), zix_nI (by omega) (by decide), nI_clamp (by omega), nI_clamp (by omega), hA32, nI_add, h32, o1, o2, c1, c2]
                  by_cases z1 : fo / 240 + L = acc.1 / 240
                  · rw [if_pos (by rw [z1])]
                    by_cases z2 : fo % 240 / 24 = acc.1 % 240 / 24
                    · rw [if_pos (by rw [z2])]
                      by_cases z3 : acc.1 % 240 % 24 ≤ fo % 240 % 24
                      · rw [if_pos (nI_le z3 (by omega)), if_neg (by omega)]
                      · rw [if_neg (nI_ge (by omega) (by omega)), if_pos (by omega)]
                    · rw [if_neg (fun y => z2 ((nI_eq (by omega) (by omega)).mp y))]
                      by_cases z3 : acc.1 % 240 / 24 ≤ fo % 240 / 24
                      · rw [if_pos (nI_le z3 (by omega)), if_neg (by omega)]
                      · rw [if_neg (nI_ge (by omega) (by omega)), if_pos (by omega)]
                  · rw [if_neg (fun y => z1 ((nI_eq (by omega) (by omega)).mp y))]
                    by_cases z3 : acc.1 / 240 ≤ fo / 240 + L
                    · rw [if_pos (nI_le z3 (by omega)), if_neg (by omega)]
                    · rw [if_neg (nI_ge (by omega) (by omega)), if_pos (by omega)]
                by_cases hbt : fo + 240 * L < acc.1
                · rw [if_pos hbt]
                  refine ⟨(nI (s + 1), _), ⟨_, rfl, hgood, hfr2, hfr3⟩, fun rec => ?_⟩
                  rw [pre]
                  dsimp only
                  rw [if_pos e, if_neg (show ¬ (1 : Int32) = 0 by decide), if_neg hlt1, if_neg hnf, hbef, Option.bind_some, if_pos hbt, if_neg (show ¬ (1 : Int32) = 0 by decide), hA32]
                  exact hset rec
                · rw [if_neg hbt]
                  refine ⟨(nI (s + 1), A), ⟨A, rfl, g1, g2, g3⟩, fun rec => ?_⟩
                  rw [pre]
                  dsimp only
                  rw [if_pos e, if_neg (show ¬ (1 : Int32) = 0 by decide), if_neg hlt1, if_neg hnf, hbef, Option.bind_some, if_neg hbt, if_pos rfl]
              · rw [if_pos (by omega)]
                have h32 : A 32 (24 * (r + 1) + t) = 1000000000 := by rw [g1.1, if_neg hfull]; rfl
                refine ⟨(nI (s + 1), _), ⟨_, rfl, hgood, hfr2, hfr3⟩, fun rec => ?_⟩
                rw [pre]
                dsimp only
                rw [if_pos e, if_neg (show ¬ (1 : Int32) = 0 by decide), if_neg hlt1, if_pos h32, hA32]
                exact hset rec
            · rw [if_neg (fun z => q (of_decide_eq_true z))]
              refine ⟨(nI (s + 1), A), ⟨A, rfl, g1, g2, g3⟩, fun rec => ?_⟩
              rw [pre]
              dsimp only
              rw [if_pos e, if_neg (show ¬ (1 : Int32) = 0 by decide), if_pos (show (1000000000 : Int32) ≤ A 32 (tg (K 1 0) (r + 1) t s) by rw [hAs.1, if_neg q]; decide)]
          · have hmw : mw K (mvF K w a r) r t s = INF := if_neg e
            rw [hmw, if_neg (by simp)]
            refine ⟨(nI (s + 1), A), ⟨A, rfl, g1, g2, g3⟩, fun rec => ?_⟩
            rw [pre]
            dsimp only
            rw [if_neg e, if_pos rfl]
        · rintro x ⟨A, rfl, g1, g2, g3⟩
          refine ⟨A, ⟨by rw [hmvF]; exact g1, g2, g3⟩, fun rec => ?_⟩
          unfold f_X7_laysMore_L97b
          dsimp only
          rw [if_pos (show (2 : Int32) < nI 3 by decide)]
        · refine ⟨_, rfl, ⟨?_, fun z => absurd z (Nat.lt_irrefl _)⟩, fun c hc => ?_, fun k k1 k2 k3 => zst_ne _ k1 _ _⟩
          · rw [zst_same]
            show (1000000000 : Int32) = nI (if INF < INF then INF / 240 else 1000000000)
            rw [if_neg (Nat.lt_irrefl _)]; rfl
          · rw [zst_row, upd_ne _ hc, zst_ne _ (by decide), zst_ne _ (by decide)]; exact ⟨rfl, rfl, rfl⟩
      obtain ⟨M', ⟨k1, k2, k3⟩, hz⟩ := key
      refine ⟨M', ?_, k1, k2, k3⟩
      show (zloop (fun rec x => f_X7_laysMore_L97b (nI (r + 1)) (nI t) (nI a) (nI (24 * (r + 1) + t)) rec x) zfuel (0, zst M 32 (24 * (r + 1) + t) 1000000000)).bind _ = _
      rw [hz]; rfl
    · rw [if_neg (nI_ne0 (by omega) (by omega))]
      refine ⟨_, rfl, ?_, fun c hc => ?_, fun k k1 k2 k3 => zst_ne _ k1 _ _⟩
      · rw [mvF_s, if_neg (by omega), if_pos hk]
        refine ⟨?_, fun z => absurd z (Nat.lt_irrefl _)⟩
        rw [zst_same, if_neg (Nat.lt_irrefl _)]; rfl
      · rw [zst_row, upd_ne _ hc, zst_ne _ (by decide), zst_ne _ (by decide)]; exact ⟨rfl, rfl, rfl⟩
  · have hws : w (24 * (r + 1) + t) < 3 := by omega
    rw [if_neg (fun z => hw ((sd_n hw4).mp z))]
    obtain ⟨t1, _⟩ := htg (w (24 * (r + 1) + t))
    obtain ⟨hinf, hbd⟩ := mv_inf hK hW ha r (tgt K r t (w (24 * (r + 1) + t))) (by omega) (htt _)
    have hfin : mvF K w a r (tgt K r t (w (24 * (r + 1) + t))) < INF := by
      cases r with
      | zero => show (0 : Nat) < INF; decide
      | succ r' =>
        have hon := on_tree hK hW (r := r' + 1) (by omega) hr ht hw
        have htg' : tgt K (r' + 1) t (w (24 * (r' + 1 + 1) + t)) = nb (K 1 0) t (w (24 * (r' + 1 + 1) + t)) := by unfold tgt; rw [if_neg (by omega)]
        rw [htg']
        obtain ⟨z1, z2⟩ := mv_tree hK hW (a := a) r' _ (by omega) (nb_lt _ ht) hon
        have hn := nb_lt (w (24 * (r' + 1 + 1) + t)) ht
        have hm : a * lnF K w (r' + 1) (nb (K 1 0) t (w (24 * (r' + 1 + 1) + t))) ≤ 99 * (50 * (r' + 1)) := Nat.mul_le_mul ha z2
        rw [z1]; unfold INF; omega
    obtain ⟨b1, b2, b3⟩ := hbd hfin
    have h32 : M 32 (tg (K 1 0) (r + 1) t (w (24 * (r + 1) + t))) = nI (mvF K w a r (tgt K r t (w (24 * (r + 1) + t))) / 240) := by rw [(hI _ hw4).1, if_pos hfin]
    have hl50 := lenr_le hb (r + 1) (w (24 * (r + 1) + t))
    have hm : lenr K (r + 1) (w (24 * (r + 1) + t)) * a ≤ 50 * 99 := Nat.mul_le_mul hl50.2 ha
    have hmv : mvF K w a (r + 1) t = 240 * (mvF K w a r (tgt K r t (w (24 * (r + 1) + t))) / 240 + lenr K (r + 1) (w (24 * (r + 1) + t)) * a) + (24 * (r + 1) + t) := by rw [mvF_s, if_pos hw]
    rw [zix_nI (by omega) (by decide), e_tgS hM2 (by omega) (by omega) (by omega) (by omega) ht hw4, Option.bind_some, zix_nI t1 (by decide), zix_nI (by omega) (by decide), sd_ne hw, e_lengthOfM hM2 (by omega) hws, Option.bind_some, zix_nI (by omega) (by decide), zlet_eq, zix_nI (by omega) (by decide), zlet_eq, zix_nI (by omega) (by decide), zlet_eq, nI_clamp (by omega)]
    have hrd : zst M 32 (24 * (r + 1) + t) 1000000000 32 (tg (K 1 0) (r + 1) t (w (24 * (r + 1) + t))) = nI (mvF K w a r (tgt K r t (w (24 * (r + 1) + t))) / 240) := by rw [zst_row, upd_ne _ (hne _)]; exact h32
    rw [hrd, pk_mul, nI_add]
    refine ⟨_, rfl, ?_, fun c hc => ?_, fun k k1 k2 k3 => by rw [zst_ne _ k3, zst_ne _ k2, zst_ne _ k1, zst_ne _ k1]⟩
    · rw [hmv]
      have hlt : 240 * (mvF K w a r (tgt K r t (w (24 * (r + 1) + t))) / 240 + lenr K (r + 1) (w (24 * (r + 1) + t)) * a) + (24 * (r + 1) + t) < INF := by unfold INF; omega
      refine ⟨?_, fun _ => ⟨?_, ?_⟩⟩
      · rw [zst_ne _ (by decide), zst_ne _ (by decide), zst_same, if_pos hlt, show (240 * (mvF K w a r (tgt K r t (w (24 * (r + 1) + t))) / 240 + lenr K (r + 1) (w (24 * (r + 1) + t)) * a) + (24 * (r + 1) + t)) / 240 = mvF K w a r (tgt K r t (w (24 * (r + 1) + t))) / 240 + lenr K (r + 1) (w (24 * (r + 1) + t)) * a by omega]; rfl
      · rw [zst_ne _ (by decide), zst_same, show (240 * (mvF K w a r (tgt K r t (w (24 * (r + 1) + t))) / 240 + lenr K (r + 1) (w (24 * (r + 1) + t)) * a) + (24 * (r + 1) + t)) % 240 / 24 = r + 1 by omega]
      · rw [zst_same, show (240 * (mvF K w a r (tgt K r t (w (24 * (r + 1) + t))) / 240 + lenr K (r + 1) (w (24 * (r + 1) + t)) * a) + (24 * (r + 1) + t)) % 240 % 24 = t by omega]
    · rw [zst_ne _ (show (32 : Nat) ≠ 34 by decide), zst_ne _ (show (32 : Nat) ≠ 33 by decide), zst_row, upd_ne _ hc, zst_row, upd_ne _ hc, zst_ne _ (show (33 : Nat) ≠ 34 by decide), zst_row, upd_ne _ hc, zst_ne _ (show (33 : Nat) ≠ 32 by decide), zst_ne _ (show (33 : Nat) ≠ 32 by decide), zst_row, upd_ne _ hc, zst_ne _ (show (34 : Nat) ≠ 33 by decide), zst_ne _ (show (34 : Nat) ≠ 32 by decide), zst_ne _ (show (34 : Nat) ≠ 32 by decide)]
      exact ⟨rfl, rfl, rfl⟩
end MOR
