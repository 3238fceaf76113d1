/-! the class's unfold, drawLeast -/
section UNF
def wrC (T : Nat → Nat → Int32) (q : zEn) : Nat → Nat → Int32 := zst (zst T 3 (kc q) (nI q.2.2.1)) 4 (kc q) (nI q.2.2.2)
theorem wrC_at (T : Nat → Nat → Int32) (q : zEn) : wrC T q 3 (kc q) = nI q.2.2.1 ∧ wrC T q 4 (kc q) = nI q.2.2.2 := by
  unfold wrC
  rw [zst_ne _ (show (3 : Nat) ≠ 4 by decide), zst_same, zst_same]; exact ⟨rfl, rfl⟩
theorem wrC_ne (T : Nat → Nat → Int32) {q : zEn} {c : Nat} (h : c ≠ kc q) : wrC T q 3 c = T 3 c ∧ wrC T q 4 c = T 4 c := by
  unfold wrC
  rw [zst_ne _ (show (3 : Nat) ≠ 4 by decide), zst_row, upd_ne _ h, zst_row, upd_ne _ h, zst_ne _ (show (4 : Nat) ≠ 3 by decide)]; exact ⟨rfl, rfl⟩
theorem fwc_out {c : Nat} : ∀ (l : List zEn) (T : Nat → Nat → Int32), (∀ q, q ∈ l → kc q ≠ c) → l.foldl wrC T 3 c = T 3 c ∧ l.foldl wrC T 4 c = T 4 c := by
  intro l
  induction l with
  | nil => intro T _; exact ⟨rfl, rfl⟩
  | cons x xs ih =>
    intro T h
    obtain ⟨i1, i2⟩ := ih (wrC T x) fun q hq => h q (List.mem_cons_of_mem _ hq)
    obtain ⟨j1, j2⟩ := wrC_ne T (q := x) (c := c) fun z => h x List.mem_cons_self z.symm
    rw [List.foldl_cons, i1, i2, j1, j2]; exact ⟨rfl, rfl⟩
theorem fwc_in {q : zEn} : ∀ (l : List zEn) (T : Nat → Nat → Int32), (∀ q', q' ∈ l → kc q' = kc q → q' = q) → (q ∈ l ∨ (T 3 (kc q) = nI q.2.2.1 ∧ T 4 (kc q) = nI q.2.2.2)) → l.foldl wrC T 3 (kc q) = nI q.2.2.1 ∧ l.foldl wrC T 4 (kc q) = nI q.2.2.2 := by
  intro l
  induction l with
  | nil => intro T _ h; exact h.elim (fun z => absurd z List.not_mem_nil) id
  | cons x xs ih =>
    intro T hu h
    rw [List.foldl_cons]
    refine ih (wrC T x) (fun q' hq' => hu q' (List.mem_cons_of_mem _ hq')) ?_
    by_cases e : kc x = kc q
    · have := hu x List.mem_cons_self e
      rw [this]; exact Or.inr (wrC_at T q)
    · rcases h with h | h
      · rcases List.mem_cons.mp h with z | z
        · exact absurd (by rw [z]) e
        · exact Or.inl z
      · obtain ⟨j1, j2⟩ := wrC_ne T (q := x) (c := kc q) fun z => e z.symm
        rw [j1, j2]; exact Or.inr h
def stkA (A : Nat → Nat → Int32) : List Nat → Prop
  | [] => True
  | x :: xs => A 10 xs.length = nI x ∧ stkA A xs
theorem stkA_fr {A B : Nat → Nat → Int32} : ∀ l : List Nat, (∀ j, j < l.length → B 10 j = A 10 j) → stkA A l → stkA B l := by
  intro l
  induction l with
  | nil => intro _ _; trivial
  | cons x xs ih =>
    intro h hA
    exact ⟨by rw [h xs.length (by simp)]; exact hA.1, ih (fun j hj => h j (by simp; omega)) hA.2⟩
def meas (l : List Nat) : Nat := (l.map (fun x => 2 * cnt x - 1)).sum
theorem tabF_fr {S S' : Nat → Nat → Int32} {K : Nat → Nat → Nat} (h : ∀ k, k = 5 ∨ k = 6 ∨ k = 7 ∨ k = 8 ∨ k = 9 → S' k = S k) (hT : tabF S K) : tabF S' K := by
  refine ⟨tabP_fr (h 6 (by omega)) (h 8 (by omega)) (h 9 (by omega)) hT.1, fun r t hr ht => ?_⟩
  unfold tabR
  rw [h 5 (by omega), h 7 (by omega)]; exact hT.2 r t hr ht
theorem e_chooseF {S S1 : Nat → Nat → Int32} {K : Nat → Nat → Nat} (hK : wfK K) (hC : repC S1 K) (hT : tabF S K) {r t s : Nat} (hv : vld K r t s) : f_X0_choose S S1 (nI r) (nI t) (nI s) = some (chS S K r t (Bt K r t s)) :=
  e_choose hK hC hv.1 hv.2.1 hv.2.2.1 hv.2.2.2 hT.1 (fun e t' ht' => hT.2 (r + 1) t' (by omega) (by unfold wid; rw [if_neg (by omega)]; exact ht')) (fun p p0 _ ps => (hT.2 r t hv.1 hv.2.1).2 p p0 (sb_tr ps hv.2.2.2))
theorem e_unfold1 {S S1 T : Nat → Nat → Int32} {K : Nat → Nat → Nat} (hK : wfK K) (hC : repC S1 K) (hT : tabF S K) {r t s : Nat} (hv : vld K r t s) (hs : T 3 (24 * r + t) = nI s) : ∃ S', f_X0_unfold S S1 T (nI r) (nI t) = some (S', (IM K r t s).foldl wrC T) ∧ tabF S' K ∧ S' 0 = S 0 := by
  obtain ⟨p1, p2, p3, p4, p5⟩ := vld_P hK hv
  have h9 := hK.1.2.1
  have h0 := hv.2.2.1
  have key : ∃ ex : (Nat → Nat → Int32) × (Nat → Nat → Int32), (tabF ex.1 K ∧ ex.1 0 = S 0 ∧ ex.2 = (IM K r t s).foldl wrC T) ∧ zloop (fun rec a => f_X0_unfold_L36b S1 (nI r) (nI t) rec a) zfuel (1, 0, zst S 10 0 (nI s), T) = some ex := by
    refine zinvE (I := fun i a => ∃ (stk : List Nat) (A T' : Nat → Nat → Int32), a = (nI stk.length, nI i, A, T') ∧ tabF A K ∧ A 0 = S 0 ∧ stkA A stk ∧ (∀ x, x ∈ stk → vld K r t x) ∧ i + meas stk ≤ 13 ∧ stk.length ≤ meas stk ∧ (stk.flatMap (IM K r t)).foldl wrC T' = (IM K r t s).foldl wrC T) _ 14 (by omega) ?_ ?_ ?_
    · rintro i hi a ⟨stk, A, T', rfl, g1, g2, g3, g4, g5, g6, g7⟩
      cases stk with
      | nil =>
        refine Or.inr ⟨(A, T'), ⟨g1, g2, g7⟩, fun rec => ?_⟩
        unfold f_X0_unfold_L36b
        dsimp only
        rw [l_14, if_neg (nI_ge hi (by omega)), if_pos (show nI (List.length ([] : List Nat)) ≤ 0 by decide)]
      | cons x xs =>
        have hvx := g4 x List.mem_cons_self
        obtain ⟨x1, x2, x3, x4, x5⟩ := vld_P hK hvx
        have hcx := cnt_pos x x2 hvx.2.2.1
        have hm : meas (x :: xs) = (2 * cnt x - 1) + meas xs := rfl
        have hlen : (x :: xs).length = xs.length + 1 := rfl
        have hml : xs.length ≤ meas xs := by
          have : ∀ l : List Nat, (∀ y, y ∈ l → vld K r t y) → l.length ≤ meas l := by
            intro l
            induction l with
            | nil => intro _; exact Nat.le_refl _
            | cons y ys ih =>
              intro h
              have h1 := ih fun z hz => h z (List.mem_cons_of_mem _ hz)
              have hy := h y List.mem_cons_self
              have h2 := cnt_pos y (vld_P hK hy).2.1 hy.2.2.1
              have h3 : meas (y :: ys) = (2 * cnt y - 1) + meas ys := rfl
              rw [List.length_cons]; omega
          exact this xs fun z hz => g4 z (List.mem_cons_of_mem _ hz)
        have hch := e_chooseF hK hC g1 hvx
        have hB1 : tabF (chS A K r t (Bt K r t x)) K := tabF_fr (fun k hk => chS_ne (by omega)) g1
        have hB0 : chS A K r t (Bt K r t x) 0 = S 0 := by rw [chS_ne (by omega)]; exact g2
        have hB10 : chS A K r t (Bt K r t x) 10 = A 10 := chS_ne (by omega)
        have pre : ∀ rec, f_X0_unfold_L36b S1 (nI r) (nI t) rec (nI (x :: xs).length, nI i, A, T') = (fun r_4 : Nat → Nat → Int32 => if (r_4 2 0) = 0 then (f_X0_unfold_J122 rec r_4 S1 T' (nI r) (nI t) (nI xs.length) (nI i) (nI x)) else (if 14 < (nI xs.length + 2) then (f_X0_unfold_J122 rec r_4 S1 T' (nI r) (nI t) (nI xs.length) (nI i) (nI x)) else (zix (nI xs.length) 14 fun j => zlet (zst r_4 10 j (r_4 2 0)) fun S0_7 => zix (nI xs.length + 1) 14 fun j => zlet (zst S0_7 10 j (nI x ^^^ (S0_7 2 0))) fun S0_8 => f_X0_unfold_J154 rec S0_8 S1 T' (nI r) (nI t) (nI xs.length + 2) (nI i)))) (chS A K r t (Bt K r t x)) := by
          intro rec
          unfold f_X0_unfold_L36b
          dsimp only
          rw [l_14, if_neg (nI_ge hi (by omega)), hlen, if_neg (nI_nle (by omega) (by omega)), pk_m1, zix_nI (by omega) (by decide), zlet_eq, nI_clamp (by omega), g3.1, hch, Option.bind_some]
        rcases vcase hK hvx with ⟨q1, q2⟩ | ⟨p, q1, q2, q3, q4⟩ | ⟨y, q1, q2, q3⟩
        · refine Or.inl ⟨(nI xs.length, nI (i + 1), chS A K r t (Bt K r t x), T'), ⟨xs, _, T', rfl, hB1, hB0, stkA_fr xs (fun j _ => by rw [hB10]) g3.2, fun z hz => g4 z (List.mem_cons_of_mem _ hz), by omega, hml, ?_⟩, fun rec => ?_⟩
          · rw [← g7, List.flatMap_cons, (FO_0 q2).2]; rfl
          · rw [pre]
            dsimp only
            have e2 : chS A K r t (Bt K r t x) 2 0 = 0 := by rw [chS_1.2.1, q2]; rfl
            have e3 : chS A K r t (Bt K r t x) 3 0 = -1 := by rw [chS_1.2.2.1, q2]; rfl
            rw [if_pos e2]
            unfold f_X0_unfold_J122 f_X0_unfold_J154
            rw [if_pos e3, nI_1]
        · obtain ⟨z1, z2, z3, z4, _⟩ := pts_ok x x2 p q1
          obtain ⟨c1, c2, c3, c4⟩ := cnt_pts x x2 p q1
          have hlt : x ^^^ p < 128 := by rw [← z3]; omega
          refine Or.inl ⟨(nI (xs.length + 2), nI (i + 1), zst (zst (chS A K r t (Bt K r t x)) 10 xs.length (nI p)) 10 (xs.length + 1) (nI (x ^^^ p)), T'), ⟨(x ^^^ p) :: p :: xs, _, T', rfl, tabF_fr (fun k hk => by rw [zst_ne _ (by omega), zst_ne _ (by omega)]) hB1, by rw [zst_ne _ (by omega), zst_ne _ (by omega)]; exact hB0, ⟨?_, ?_, ?_⟩, ?_, ?_, ?_, ?_⟩, fun rec => ?_⟩
          · exact zst_same _ _ _ _
          · rw [zst_row, upd_ne _ (by omega), zst_same]
          · refine stkA_fr xs (fun j hj => ?_) g3.2
            rw [zst_row, upd_ne _ (by omega), zst_row, upd_ne _ (by omega), hB10]
          · intro z hz
            rcases List.mem_cons.mp hz with e | hz
            · rw [e]; exact q4
            · rcases List.mem_cons.mp hz with e | hz
              · rw [e]; exact q3
              · exact g4 z (List.mem_cons_of_mem _ hz)
          · have : meas ((x ^^^ p) :: p :: xs) = (2 * cnt (x ^^^ p) - 1) + ((2 * cnt p - 1) + meas xs) := rfl
            omega
          · have : meas ((x ^^^ p) :: p :: xs) = (2 * cnt (x ^^^ p) - 1) + ((2 * cnt p - 1) + meas xs) := rfl
            rw [List.length_cons, List.length_cons]; omega
          · rw [← g7, List.flatMap_cons, List.flatMap_cons, List.flatMap_cons, (FO_1 hK hvx q1 q2 q3 q4).2, List.append_assoc]
          · rw [pre]
            dsimp only
            have e2 : chS A K r t (Bt K r t x) 2 0 = nI p := by rw [chS_1.2.1, q2]; rfl
            have e2' : zst (chS A K r t (Bt K r t x)) 10 xs.length (nI p) 2 0 = nI p := by rw [zst_ne _ (by decide)]; exact e2
            rw [if_neg (show ¬ chS A K r t (Bt K r t x) 2 0 = 0 by rw [e2]; exact nI_ne0 z1 (by omega)), show (2 : Int32) = nI 2 from rfl, nI_add, l_14, if_neg (nI_nlt (by omega) (by omega)), zix_nI (by omega) (by decide), e2, zlet_eq, nI_1, zix_nI (by omega) (by decide), zlet_eq, e2', nx_xor]
            unfold f_X0_unfold_J154
            rw [nI_1]
        · have hfr := frm_lt hv.2.1 q1
          have h24 := hK.1.2.2.2.1
          have hR := q3.1
          refine Or.inl ⟨(nI xs.length, nI (i + 1), chS A K r t (Bt K r t x), wrC T' (r + 1, frm K r t y, x, sid r y)), ⟨xs, _, _, rfl, hB1, hB0, stkA_fr xs (fun j _ => by rw [hB10]) g3.2, fun z hz => g4 z (List.mem_cons_of_mem _ hz), by omega, hml, ?_⟩, fun rec => ?_⟩
          · rw [← g7, List.flatMap_cons, (FO_2 hK q2 q3).2]; rfl
          · rw [pre]
            dsimp only
            have e2 : chS A K r t (Bt K r t x) 2 0 = 0 := by rw [chS_1.2.1, q2]; rfl
            have e3 : chS A K r t (Bt K r t x) 3 0 = nI (24 * (r + 1) + frm K r t y) := by rw [chS_1.2.2.1, q2]; rfl
            have e4 : chS A K r t (Bt K r t x) 4 0 = nI (sid r y) := by rw [chS_1.2.2.2, q2]; rfl
            rw [if_pos e2]
            unfold f_X0_unfold_J122 f_X0_unfold_J154
            rw [if_neg (show ¬ chS A K r t (Bt K r t x) 3 0 = -1 by rw [e3]; exact nI_nm1 (by omega)), e3, zix_nI (by omega) (by decide), zlet_eq, zix_nI (by omega) (by decide), zlet_eq, e4, nI_1]
            rfl
    · rintro a ⟨stk, A, T', rfl, g1, g2, g3, g4, g5, g6, g7⟩
      omega
    · have hc := cnt_pos s p2 h0
      refine ⟨[s], zst S 10 0 (nI s), T, rfl, tabF_fr (fun k hk => zst_ne _ (by omega) _ _) hT, zst_ne _ (by omega) _ _, ⟨zst_same _ _ _ _, trivial⟩, fun x hx => by rw [List.mem_singleton.mp hx]; exact hv, ?_, ?_, ?_⟩
      · have : meas [s] = 2 * cnt s - 1 := rfl
        omega
      · have : meas [s] = 2 * cnt s - 1 := rfl
        rw [this]; show 1 ≤ _; omega
      · rw [List.flatMap_cons, List.flatMap_nil, List.append_nil]
  obtain ⟨ex, ⟨k1, k2, k3⟩, k4⟩ := key
  refine ⟨ex.1, ?_, k1, k2⟩
  unfold f_X0_unfold f_X0_unfold_J31
  rw [e_cellOf, Option.bind_some, zix_nI p4 (by decide), nI_clamp (by omega), hs]
  show (zix (nI 0) 14 fun j => _) = _
  rw [zix_nI (by decide) (by decide), zlet_eq]
  show (zix (nI 0) 14 fun _ => _) = _
  rw [zix_nI (by decide) (by decide)]
  rw [if_neg (show ¬ zst S 10 0 (nI s) 10 (Int32.toNatClampNeg 0) = 0 from by
    show ¬ zst S 10 0 (nI s) 10 0 = 0
    rw [zst_same]; exact nI_ne0 h0 (by omega))]
  show (zloop (fun rec a => f_X0_unfold_L36b S1 (nI r) (nI t) rec a) zfuel (1, 0, zst S 10 0 (nI s), T)).bind _ = _
  rw [k4, Option.bind_some, k3]
theorem e_unfold0 {S S1 T : Nat → Nat → Int32} {K : Nat → Nat → Nat} (hT : tabF S K) {r t : Nat} (hc : 24 * r + t < 240) (hs : T 3 (24 * r + t) = 0) : ∃ S', f_X0_unfold S S1 T (nI r) (nI t) = some (S', T) ∧ tabF S' K ∧ S' 0 = S 0 := by
  refine ⟨zst S 10 0 0, ?_, tabF_fr (fun k hk => zst_ne _ (by omega) _ _) hT, zst_ne _ (by omega) _ _⟩
  unfold f_X0_unfold f_X0_unfold_J31
  rw [e_cellOf, Option.bind_some, zix_nI hc (by decide), nI_clamp (by omega), hs]
  show (zix (nI 0) 14 fun j => _) = _
  rw [zix_nI (by decide) (by decide), zlet_eq]
  show (zix (nI 0) 14 fun _ => _) = _
  rw [zix_nI (by decide) (by decide)]
  rw [if_pos (show zst S 10 0 0 10 (Int32.toNatClampNeg 0) = 0 from zst_same _ _ _ _)]
  rfl
end UNF
