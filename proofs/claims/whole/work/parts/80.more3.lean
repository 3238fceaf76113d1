/-! more: the class's findWay -/
section MO3
def FF (K : Nat → Nat → Nat) (w : Nat → Nat) (a c : Nat) : Nat := mvF K w a (c / 24) (c % 24)
def unp (r i c : Nat) : Prop := c / 24 < r ∨ (c / 24 = r ∧ i ≤ c % 24)
def ownK (K : Nat → Nat → Nat) (w : Nat → Nat) (R0 : Nat) (ow : Nat → Nat) : Prop := ∀ c, ow c ≠ NW → 24 ≤ c ∧ c / 24 ≤ R0 ∧ c % 24 < K 1 0 ∧ c < 240 ∧ w c = 3 ∧ K 9 c = 0 ∧ ow c ≤ 50 * (R0 - c / 24)
def att (K : Nat → Nat → Nat) (w : Nat → Nat) (a F0 r i : Nat) (ow : Nat → Nat) (e : Nat) (X : Prop) : Prop := F0 < INF → e = F0 ∨ (∃ c, ow c ≠ NW ∧ unp r i c ∧ F0 = 240 * (ow c * (K 2 0 + a)) + FF K w a c) ∨ X
def nInv (K : Nat → Nat → Nat) (w : Nat → Nat) (a F0 R0 r i : Nat) (ow : Nat → Nat) (e : Nat) (X : Prop) : Prop :=
  ownK K w R0 ow ∧ F0 ≤ e ∧ (∀ c, ow c ≠ NW → unp r i c → F0 ≤ 240 * (ow c * (K 2 0 + a)) + FF K w a c) ∧ att K w a F0 r i ow e X
theorem ff_c {K : Nat → Nat → Nat} {w : Nat → Nat} {a r t : Nat} (ht : t < 24) : FF K w a (24 * r + t) = mvF K w a r t := by
  unfold FF; rw [show (24 * r + t) / 24 = r by omega, show (24 * r + t) % 24 = t by omega]
theorem nw_set {S : Nat → Nat → Int32} {ow : Nat → Nat} {e c l : Nat} (h : nwR S ow e) (hl : l < NW) : nwR (zst S 4 c (nI l)) (fun x => if x = c then l else ow x) e := by
  obtain ⟨h1, h2, h3, h4⟩ := h
  refine ⟨fun x hx => ?_, h2, fun z => by rw [zst_ne _ (by decide)]; exact h3 z, fun z => by rw [zst_ne _ (by decide), zst_ne _ (by decide), zst_ne _ (by decide), zst_ne _ (by decide)]; exact h4 z⟩
  show (if x = c then l else ow x) ≤ NW ∧ zst S 4 c (nI l) 4 x = if (if x = c then l else ow x) = NW then -1 else nI (if x = c then l else ow x)
  by_cases q : x = c
  · rw [if_pos q, q, zst_same, if_neg (by omega)]; exact ⟨by omega, rfl⟩
  · rw [if_neg q, zst_row, upd_ne _ q]; exact h1 x hx
theorem e_goOn {S S1 T : Nat → Nat → Int32} {K : Nat → Nat → Nat} {b w : Nat → Nat} (hK : wfK K) (hC : repC S1 K) (hT : treeC T b w) (hW : wfT K b w) {a F0 R0 r i e : Nat} {ow : Nat → Nat} (ha1 : 1 ≤ a) (ha : a ≤ 99) (hR0 : R0 ≤ K 0 0) (hr1 : 1 ≤ r) (hr : r ≤ R0) (hi : i < K 1 0) (hF : F0 ≤ INF) (hS : nwR S ow e) (hI : nInv K w a F0 R0 r i ow e False) (ho : ow (24 * r + i) ≠ NW) : ∃ S' ow' e', f_X3_goOn S S1 T (nI r) (nI i) (nI a) = some S' ∧ nwR S' ow' e' ∧ nInv K w a F0 R0 r (i + 1) ow' e' False := by
  have h9 := hK.1.2.1
  have h24 := hK.1.2.2.2.1
  have h6 := hK.1.2.2.1
  have hb := hK.1.2.2.2.2.2.2.1
  have hbs := hK.1.2.2.2.2.2.1
  have hbs1 := hK.1.2.2.2.2.1
  obtain ⟨i1, i2, i3, i4⟩ := hI
  obtain ⟨o1, o2, o3, o4, o5, o6, o7⟩ := i1 _ ho
  have hsc := (hS.1 (24 * r + i) o4).2
  rw [if_neg ho] at hsc
  have hlb := i3 _ ho (by unfold unp; omega)
  rw [ff_c (by omega)] at hlb
  rw [show (24 * r + i) / 24 = r by omega] at o7
  have hun : ∀ c, unp r (i + 1) c → unp r i c := fun c h => by unfold unp at *; omega
  have hne : ∀ c, unp r (i + 1) c → c ≠ 24 * r + i := fun c h z => by unfold unp at h; omega
  have hun2 : ∀ c, unp r i c → c ≠ 24 * r + i → c < 240 → unp r (i + 1) c := fun c h z _ => by unfold unp at *; omega
  generalize hod : ow (24 * r + i) = o at *
  unfold f_X3_goOn
  rw [e_cellOf, Option.bind_some, zix_nI o4 (by decide), zlet_eq, nI_clamp (by omega), hsc]
  by_cases hr2 : r = 1
  · subst hr2
    -- the source
    have hfree : ∀ s, K 9 (tg (K 1 0) (0 + 1) i s) = 0 := fun s => by unfold tg; rw [if_pos (by omega)]; exact rk0 hK
    have hmv : mvF K w a 1 i = 240 * (10 * (K 2 0 + a)) := by
      have hle := mv_le (K := K) (w := w) (a := a) (r := 0) (t := i) (s := 0) o5 o6 (by decide) (hfree 0) (by show (0 : Nat) < INF; decide)
      have hz : mvF K w a 0 (tgt K 0 i 0) = 0 := rfl
      have hl10 : lenr K (0 + 1) 0 = 10 := by unfold lenr; rw [if_pos (Or.inl rfl)]
      rw [hz, hl10, Nat.zero_add] at hle
      have hm : 10 * (K 2 0 + a) ≤ 10 * 198 := Nat.mul_le_mul (Nat.le_refl _) (by omega)
      obtain ⟨_, s, _, _, _, he⟩ := mv_ex (K := K) (w := w) (a := a) (r := 0) (t := i) o5 (by show mvF K w a 1 i < INF; unfold INF; omega)
      have hls : lenr K (0 + 1) s = 10 := by unfold lenr; rw [if_pos (Or.inl rfl)]
      have hz2 : mvF K w a 0 (tgt K 0 i s) = 0 := rfl
      rw [hls, hz2] at he
      have he' : mvF K w a 1 i = 0 + 240 * (10 * (K 2 0 + a)) := he
      omega
    rw [hmv] at hlb
    have hob : (o + 10) * (K 2 0 + a) ≤ 460 * 198 := Nat.mul_le_mul (by omega) (by omega)
    have hsp : (o + 10) * (K 2 0 + a) = o * (K 2 0 + a) + 10 * (K 2 0 + a) := Nat.add_mul _ _ _
    obtain ⟨S', f1, f2⟩ := e_offer (v := (o + 10) * (K 2 0 + a)) (jr := 0) (jt := 0) hS (by omega) (by decide) (by decide)
    refine ⟨S', ow, _, ?_, f2, i1, ?_, fun c hc hu => i3 c hc (hun c hu), fun hlt => ?_⟩
    · rw [if_pos (by decide), l_10, nI_add, hC.1 2 (by omega), nI_add, pk_mul]
      show (f_X3_offer S (nI 0) (nI 0) (nI ((o + 10) * (K 2 0 + a)))).bind _ = _
      rw [f1]; rfl
    · split <;> omega
    · rcases i4 hlt with z | ⟨c, z1, z2, z3⟩ | z
      · left; rw [if_neg (by omega)]; exact z
      · by_cases ec : c = 24 * 1 + i
        · left
          rw [ec, hod, ff_c (by omega), hmv] at z3
          split <;> omega
        · exact Or.inr (Or.inl ⟨c, z1, hun2 c z2 ec (i1 c z1).2.2.2.1, z3⟩)
      · exact z.elim
  · obtain ⟨ρ, rfl⟩ : ∃ ρ, r = ρ + 1 + 1 := ⟨r - 2, by omega⟩
    rw [if_neg (fun z => hr2 ((nq1 (by omega)).mp z))]
    have htgt : ∀ s, tgt K (ρ + 1) i s = nb (K 1 0) i s := fun s => by unfold tgt; rw [if_neg (by omega)]
    have htg : ∀ s, tg (K 1 0) (ρ + 1 + 1) i s = 24 * (ρ + 1) + nb (K 1 0) i s := fun s => by unfold tg; rw [if_neg (by omega)]; rfl
    have key : ∃ ex : Nat → Nat → Int32, (∃ ow' e', nwR ex ow' e' ∧ nInv K w a F0 R0 (ρ + 1 + 1) (i + 1) ow' e' False) ∧ zloop (fun rec x => f_X3_goOn_L41b S1 T (nI (ρ + 1 + 1)) (nI i) (nI a) (nI o) rec x) zfuel (0, S) = some ex := by
      refine zinv (I := fun j x => ∃ A ow' e', x = (nI j, A) ∧ nwR A ow' e' ∧ nInv K w a F0 R0 (ρ + 1 + 1) (i + 1) ow' e' (∃ s, j ≤ s ∧ s < 3 ∧ K 9 (tg (K 1 0) (ρ + 1 + 1) i s) = 0 ∧ mvF K w a (ρ + 1) (nb (K 1 0) i s) < INF ∧ F0 = 240 * ((o + lenr K (ρ + 1 + 1) s) * (K 2 0 + a)) + mvF K w a (ρ + 1) (nb (K 1 0) i s))) _ 3 (by omega) ?_ ?_ ?_
      · rintro s hs x ⟨A, ow', e', rfl, g1, g2, g3, g4, g5⟩
        have hn := nb_lt s hi
        have hL := lenr_le hb (ρ + 1 + 1) s
        have hlenS : (if s = 0 then 10 else 10 + K 3 0) = lenr K (ρ + 1 + 1) s := by
          unfold lenr
          by_cases q : s = 0
          · rw [if_pos q, if_pos (Or.inr q)]
          · rw [if_neg q, if_neg (by omega)]
        have hto : 24 * (ρ + 1) + nb (K 1 0) i s < 240 := by omega
        have hwto := (hW.2.2.1 (24 * (ρ + 1) + nb (K 1 0) i s) (by omega) hto)
        have hw4 := (hW.1 (24 * (ρ + 1) + nb (K 1 0) i s) hto).2
        have hbP := (hW.1 (24 * (ρ + 1) + nb (K 1 0) i s) hto).1
        have hpw := pw_le (wf7 hK)
        have hk1 := hK.2.2.2.1 (24 * (ρ + 1) + nb (K 1 0) i s)
        have hsp : (o + lenr K (ρ + 1 + 1) s) * (K 2 0 + a) = o * (K 2 0 + a) + lenr K (ρ + 1 + 1) s * (K 2 0 + a) := Nat.add_mul _ _ _
        have hob : (o + lenr K (ρ + 1 + 1) s) * (K 2 0 + a) ≤ 500 * 198 := Nat.mul_le_mul (by omega) (by omega)
        have hnext : K 9 (24 * (ρ + 1) + nb (K 1 0) i s) = 0 → F0 ≤ 240 * ((o + lenr K (ρ + 1 + 1) s) * (K 2 0 + a)) + mvF K w a (ρ + 1) (nb (K 1 0) i s) := by
          intro hk
          rcases Nat.lt_or_ge (mvF K w a (ρ + 1) (nb (K 1 0) i s)) INF with q | q
          · have hle := mv_le (K := K) (w := w) (a := a) (r := ρ + 1) (t := i) (s := s) o5 o6 hs (by rw [htg]; exact hk) (by rw [htgt]; exact q)
            rw [htgt] at hle
            omega
          · omega
        have pre : ∀ rec, f_X3_goOn_L41b S1 T (nI (ρ + 1 + 1)) (nI i) (nI a) (nI o) rec (nI s, A) = (if nI (b (24 * (ρ + 1) + nb (K 1 0) i s)) = 0 then (if nI (K 9 (24 * (ρ + 1) + nb (K 1 0) i s)) = 0 then (if A 4 (24 * (ρ + 1) + nb (K 1 0) i s) = -1 then rec (nI (s + 1), zst A 4 (24 * (ρ + 1) + nb (K 1 0) i s) (nI (o + lenr K (ρ + 1 + 1) s))) else (if A 4 (24 * (ρ + 1) + nb (K 1 0) i s) ≤ nI (o + lenr K (ρ + 1 + 1) s) then rec (nI (s + 1), A) else rec (nI (s + 1), zst A 4 (24 * (ρ + 1) + nb (K 1 0) i s) (nI (o + lenr K (ρ + 1 + 1) s))))) else rec (nI (s + 1), A)) else ((f_X5_lengthFrom T S1 (nI (ρ + 1)) (nI (nb (K 1 0) i s))).bind fun r_8 => (f_X3_offer A (nI (ρ + 1)) (nI (nb (K 1 0) i s)) (nI ((o + lenr K (ρ + 1 + 1) s) * (K 2 0 + a)) + nI a * r_8)).bind fun r_10 => rec (nI (s + 1), r_10))) := by
          intro rec
          unfold f_X3_goOn_L41b f_X3_goOn_J161 f_X3_goOn_J170
          dsimp only
          simp only [zlet_eq]
          rw [if_neg (show ¬ 2 < nI s from nI_nlt (a := 2) (by omega) (by omega)), e_turnBeside hC (by omega) (by omega) hi hs, Option.bind_some, show nI (ρ + 1 + 1) - 1 = nI (ρ + 1) from nI_pred _, e_cellOf, Option.bind_some, e_lengthOf hC hs, Option.bind_some, hlenS, zix_nI hto (by decide), zix_nI hto (by decide), zix_nI hto (by decide), zix_nI hto (by decide), nI_clamp (by omega), (hT _ hto).1, hC.2.2 _ hto, hC.1 2 (by omega), nI_add, nI_add, pk_mul, nI_1, zix_nI hto (by decide)]
        by_cases hon : w (24 * (ρ + 1) + nb (K 1 0) i s) = 3
        · have hb0 : b (24 * (ρ + 1) + nb (K 1 0) i s) = 0 := by
            rcases Nat.eq_zero_or_pos (b (24 * (ρ + 1) + nb (K 1 0) i s)) with q | q
            · exact q
            · exact absurd hon (hwto.1.mp (by omega))
          by_cases hk : K 9 (24 * (ρ + 1) + nb (K 1 0) i s) = 0
          · obtain ⟨n1, n2⟩ := g1.1 (24 * (ρ + 1) + nb (K 1 0) i s) hto
            have hunp : unp (ρ + 1 + 1) (i + 1) (24 * (ρ + 1) + nb (K 1 0) i s) := by unfold unp; omega
            -- the value kept
            have upd1 : o + lenr K (ρ + 1 + 1) s < NW := by unfold NW; omega
            have fin : ∀ (ow2 : Nat → Nat) A2, nwR A2 ow2 e' → (∀ c, c ≠ 24 * (ρ + 1) + nb (K 1 0) i s → ow2 c = ow' c) → ow2 (24 * (ρ + 1) + nb (K 1 0) i s) ≠ NW → ow2 (24 * (ρ + 1) + nb (K 1 0) i s) ≤ o + lenr K (ρ + 1 + 1) s → (ow2 (24 * (ρ + 1) + nb (K 1 0) i s) = o + lenr K (ρ + 1 + 1) s ∨ ow2 (24 * (ρ + 1) + nb (K 1 0) i s) = ow' (24 * (ρ + 1) + nb (K 1 0) i s)) → (ow' (24 * (ρ + 1) + nb (K 1 0) i s) ≠ NW → ow2 (24 * (ρ + 1) + nb (K 1 0) i s) ≤ ow' (24 * (ρ + 1) + nb (K 1 0) i s)) → nInv K w a F0 R0 (ρ + 1 + 1) (i + 1) ow2 e' (∃ s', s + 1 ≤ s' ∧ s' < 3 ∧ K 9 (tg (K 1 0) (ρ + 1 + 1) i s') = 0 ∧ mvF K w a (ρ + 1) (nb (K 1 0) i s') < INF ∧ F0 = 240 * ((o + lenr K (ρ + 1 + 1) s') * (K 2 0 + a)) + mvF K w a (ρ + 1) (nb (K 1 0) i s')) := by
              intro ow2 A2 hA2 hsame hne2 hle2 hcase hmono
              have hff : FF K w a (24 * (ρ + 1) + nb (K 1 0) i s) = mvF K w a (ρ + 1) (nb (K 1 0) i s) := ff_c (by omega)
              have hlb2 : F0 ≤ 240 * (ow2 (24 * (ρ + 1) + nb (K 1 0) i s) * (K 2 0 + a)) + FF K w a (24 * (ρ + 1) + nb (K 1 0) i s) := by
                rcases hcase with z | z
                · rw [z, hff]; exact hnext hk
                · rw [z]; exact g4 _ (by rw [← z]; exact hne2) hunp
              refine ⟨fun c hc => ?_, g3, fun c hc hu => ?_, fun hlt => ?_⟩
              · by_cases ec : c = 24 * (ρ + 1) + nb (K 1 0) i s
                · rw [ec] at hc ⊢
                  refine ⟨by omega, by omega, by omega, hto, hon, hk, ?_⟩
                  rw [show (24 * (ρ + 1) + nb (K 1 0) i s) / 24 = ρ + 1 by omega]
                  omega
                · rw [hsame c ec] at hc ⊢; exact g2 c hc
              · by_cases ec : c = 24 * (ρ + 1) + nb (K 1 0) i s
                · rw [ec]; exact hlb2
                · rw [hsame c ec] at hc ⊢; exact g4 c hc hu
              · rcases g5 hlt with z | ⟨c, z1, z2, z3⟩ | ⟨s', y1, y2, y3, y4, y5⟩
                · exact Or.inl z
                · by_cases ec : c = 24 * (ρ + 1) + nb (K 1 0) i s
                  · rw [ec] at z1 z3
                    have hm := Nat.mul_le_mul_right (K 2 0 + a) (hmono z1)
                    exact Or.inr (Or.inl ⟨_, hne2, hunp, by omega⟩)
                  · exact Or.inr (Or.inl ⟨c, by rw [hsame c ec]; exact z1, z2, by rw [hsame c ec]; exact z3⟩)
                · by_cases es : s' = s
                  · subst es
                    have hm := Nat.mul_le_mul_right (K 2 0 + a) hle2
                    rw [hff] at hlb2
                    exact Or.inr (Or.inl ⟨_, hne2, hunp, by rw [hff]; omega⟩)
                  · exact Or.inr (Or.inr ⟨s', by omega, y2, y3, y4, y5⟩)
            by_cases hnw : ow' (24 * (ρ + 1) + nb (K 1 0) i s) = NW
            · rw [if_pos hnw] at n2
              refine ⟨(nI (s + 1), zst A 4 (24 * (ρ + 1) + nb (K 1 0) i s) (nI (o + lenr K (ρ + 1 + 1) s))), ⟨_, _, e', rfl, nw_set g1 upd1, fin _ _ (nw_set g1 upd1) (fun c ec => if_neg ec) (by rw [if_pos rfl]; omega) (by rw [if_pos rfl]; exact Nat.le_refl _) (Or.inl (if_pos rfl)) (fun z => absurd hnw z)⟩, fun rec => ?_⟩
              rw [pre, if_pos (show nI (b (24 * (ρ + 1) + nb (K 1 0) i s)) = 0 by rw [hb0]; rfl), if_pos (show nI (K 9 (24 * (ρ + 1) + nb (K 1 0) i s)) = 0 by rw [hk]; rfl), if_pos n2]
            · rw [if_neg hnw] at n2
              have hlt : ow' (24 * (ρ + 1) + nb (K 1 0) i s) < 2 ^ 31 := by unfold NW at n1; omega
              by_cases hl : o + lenr K (ρ + 1 + 1) s < ow' (24 * (ρ + 1) + nb (K 1 0) i s)
              · refine ⟨(nI (s + 1), zst A 4 (24 * (ρ + 1) + nb (K 1 0) i s) (nI (o + lenr K (ρ + 1 + 1) s))), ⟨_, _, e', rfl, nw_set g1 upd1, fin _ _ (nw_set g1 upd1) (fun c ec => if_neg ec) (by rw [if_pos rfl]; omega) (by rw [if_pos rfl]; exact Nat.le_refl _) (Or.inl (if_pos rfl)) (fun _ => by rw [if_pos rfl]; omega)⟩, fun rec => ?_⟩
                rw [pre, if_pos (show nI (b (24 * (ρ + 1) + nb (K 1 0) i s)) = 0 by rw [hb0]; rfl), if_pos (show nI (K 9 (24 * (ρ + 1) + nb (K 1 0) i s)) = 0 by rw [hk]; rfl), if_neg (show ¬ A 4 (24 * (ρ + 1) + nb (K 1 0) i s) = -1 by rw [n2]; exact nI_nm1 hlt), if_neg (show ¬ A 4 (24 * (ρ + 1) + nb (K 1 0) i s) ≤ nI (o + lenr K (ρ + 1 + 1) s) by rw [n2]; exact nI_ge hl hlt)]
              · refine ⟨(nI (s + 1), A), ⟨A, ow', e', rfl, g1, fin ow' A g1 (fun _ _ => rfl) hnw (by omega) (Or.inr rfl) (fun _ => Nat.le_refl _)⟩, fun rec => ?_⟩
                rw [pre, if_pos (show nI (b (24 * (ρ + 1) + nb (K 1 0) i s)) = 0 by rw [hb0]; rfl), if_pos (show nI (K 9 (24 * (ρ + 1) + nb (K 1 0) i s)) = 0 by rw [hk]; rfl), if_neg (show ¬ A 4 (24 * (ρ + 1) + nb (K 1 0) i s) = -1 by rw [n2]; exact nI_nm1 hlt), if_pos (show A 4 (24 * (ρ + 1) + nb (K 1 0) i s) ≤ nI (o + lenr K (ρ + 1 + 1) s) by rw [n2]; exact nI_le (by omega) (by omega))]
          · refine ⟨(nI (s + 1), A), ⟨A, ow', e', rfl, g1, g2, g3, g4, fun hlt => ?_⟩, fun rec => ?_⟩
            · rcases g5 hlt with z | z | ⟨s', y1, y2, y3, y4, y5⟩
              · exact Or.inl z
              · exact Or.inr (Or.inl z)
              · refine Or.inr (Or.inr ⟨s', ?_, y2, y3, y4, y5⟩)
                rcases Nat.lt_or_ge s s' with q | q
                · exact q
                · have : s' = s := by omega
                  rw [this, htg] at y3; exact absurd y3 hk
            · rw [pre, if_pos (show nI (b (24 * (ρ + 1) + nb (K 1 0) i s)) = 0 by rw [hb0]; rfl), if_neg (nI_ne0 (by omega) (by omega))]
        · have hb0 := hwto.1.mpr hon
          have hk := (hwto.2.1 hon).2.2
          obtain ⟨m1, m2⟩ := mv_tree hK hW (a := a) ρ (nb (K 1 0) i s) (by omega) hn hon
          have hlf := e_lengthFrom (r := ρ + 1) (t := nb (K 1 0) i s) hK hC hT (by omega) hn (pth_w hK hW (ρ + 1) _ (by omega) hn (fun _ => hon))
          have hal : a * lnF K w (ρ + 1) (nb (K 1 0) i s) ≤ 99 * 450 := Nat.mul_le_mul ha (by omega)
          obtain ⟨A', f1, f2⟩ := e_offer (v := (o + lenr K (ρ + 1 + 1) s) * (K 2 0 + a) + a * lnF K w (ρ + 1) (nb (K 1 0) i s)) (jr := ρ + 1) (jt := nb (K 1 0) i s) g1 (by omega) (by omega) (by omega)
          have hval : 240 * ((o + lenr K (ρ + 1 + 1) s) * (K 2 0 + a) + a * lnF K w (ρ + 1) (nb (K 1 0) i s)) + (24 * (ρ + 1) + nb (K 1 0) i s) = 240 * ((o + lenr K (ρ + 1 + 1) s) * (K 2 0 + a)) + mvF K w a (ρ + 1) (nb (K 1 0) i s) := by rw [m1]; omega
          rw [hval] at f2
          have hge := hnext hk
          refine ⟨(nI (s + 1), A'), ⟨A', ow', _, rfl, f2, g2, ?_, g4, fun hlt => ?_⟩, fun rec => ?_⟩
          · split <;> omega
          · rcases g5 hlt with z | z | ⟨s', y1, y2, y3, y4, y5⟩
            · left; rw [if_neg (by omega)]; exact z
            · exact Or.inr (Or.inl z)
            · by_cases es : s' = s
              · subst es
                left
                split <;> omega
              · exact Or.inr (Or.inr ⟨s', by omega, y2, y3, y4, y5⟩)
          · rw [pre, if_neg (nI_ne0 (by omega) (by omega)), hlf, Option.bind_some, pk_mul, nI_add, f1, Option.bind_some]
      · rintro x ⟨A, ow', e', rfl, g1, g2, g3, g4, g5⟩
        refine ⟨A, ⟨ow', e', g1, g2, g3, g4, fun hlt => ?_⟩, fun rec => ?_⟩
        · rcases g5 hlt with z | z | ⟨s', y1, y2, _⟩
          · exact Or.inl z
          · exact Or.inr (Or.inl z)
          · omega
        · unfold f_X3_goOn_L41b
          dsimp only
          rw [if_pos (show (2 : Int32) < nI 3 by decide)]
      · refine ⟨S, ow, e, rfl, hS, i1, i2, fun c hc hu => i3 c hc (hun c hu), fun hlt => ?_⟩
        rcases i4 hlt with z | ⟨c, z1, z2, z3⟩ | z
        · exact Or.inl z
        · by_cases ec : c = 24 * (ρ + 1 + 1) + i
          · rw [ec, hod, ff_c (by omega)] at z3
            obtain ⟨_, s, s3, y1, y2, y3⟩ := mv_ex (K := K) (w := w) (a := a) (r := ρ + 1) (t := i) o5 (by omega)
            rw [htgt] at y2 y3
            have hsp : (o + lenr K (ρ + 1 + 1) s) * (K 2 0 + a) = o * (K 2 0 + a) + lenr K (ρ + 1 + 1) s * (K 2 0 + a) := Nat.add_mul _ _ _
            exact Or.inr (Or.inr ⟨s, Nat.zero_le _, s3, y1, y2, by omega⟩)
          · exact Or.inr (Or.inl ⟨c, z1, hun2 c z2 ec (i1 c z1).2.2.2.1, z3⟩)
        · exact z.elim
    obtain ⟨S', ⟨ow', e', k1, k2⟩, hz⟩ := key
    refine ⟨S', ow', e', ?_, k1, k2⟩
    show (zloop (fun rec x => f_X3_goOn_L41b S1 T (nI (ρ + 1 + 1)) (nI i) (nI a) (nI o) rec x) zfuel (0, S)).bind _ = _
    rw [hz]; rfl
end MO3
