/-! the text: the lines that set, every line -/
section SLN
theorem lnQ_b {S S1 M : Nat → Nat → Int32} {y : Nat → Nat} {n p e : Nat} {cS : Option ((Nat → Nat → Int32) × (Nat → Nat → Int32))} {cM : Option (Int32 × (Nat → Nat → Int32))} (hpe : p ≤ e) (hf : ∀ k, k < 3 → S1 k = S k) (h : lnQ S1 M y n e cS cM) : lnQ S M y n p (cS.bind fun r => some (r.1, r.2)) (cM.bind fun r => zbo r.1 (some (r.1, r.2))) := by
  obtain ⟨S', D', M', v, h1, h2, h3, h4, h5⟩ := h
  refine ⟨S', D', M', v, by rw [h1]; rfl, ?_, fun k hk => by rw [h3 k hk, hf k hk], h4, ?_⟩
  · rw [h2, Option.bind_some]
    rcases h5 with ⟨z, _⟩ | ⟨z, _⟩
    · rw [z, zbo_1]
    · rw [z, zbo_0]
  · rcases h5 with ⟨z, p', z1, z2⟩ | z
    · exact Or.inl ⟨z, p', by omega, z2⟩
    · exact Or.inr z
theorem e_setJ {M : Nat → Nat → Int32} {y : Nat → Nat} {n p lo hi i : Nat} (hi3 : i < 3) (hT : tokM M y n p) (hlo : lo < 2 ^ 31) (hhi : hi < 2 ^ 31) : (nOK y n p lo hi → ∃ M', f_X7_setLine_J35 M (nI i) (nI lo) (nI hi) = some (1, zst M' 24 i (nI (tkV y n p))) ∧ tokM M' y n (tkE y n p) ∧ ∀ k, k < 14 ∨ (17 < k ∧ k ≠ 25) → M' k = M k) ∧ (¬ nOK y n p lo hi → ∃ M', f_X7_setLine_J35 M (nI i) (nI lo) (nI hi) = some (0, M') ∧ M' 18 0 = nI (nFl y n p) ∧ ∀ k, k < 14 → M' k = M k) := by
  obtain ⟨m1, m2⟩ := e_numberM hT hlo hhi
  unfold f_X7_setLine_J35 f_X7_setLine_J61
  refine ⟨fun z => ?_, fun z => ?_⟩
  · obtain ⟨M', e1, e2, e3, e4⟩ := m1 z
    rw [e1, Option.bind_some, if_neg (show ¬ (1 : Int32) = 0 by decide), zix_nI hi3 (by decide), zlet_eq, zbo_1]
    exact ⟨M', by dsimp only; rw [e3], e2, e4⟩
  · obtain ⟨M', e1, e2, e3⟩ := m2 z
    rw [e1, Option.bind_some, if_pos rfl, zix_nI hi3 (by decide), zix_nI hi3 (by decide), zlet_eq, zbo_0]
    exact ⟨zst M' 24 i (M' 24 (nI i).toNatClampNeg), rfl, by rw [zst_ne _ (by decide)]; exact e2, fun k hk => by rw [zst_ne _ (by omega)]; exact e3 k (by omega) (by omega)⟩
theorem repC_set {D : Nat → Nat → Int32} {R N b d h i v : Nat} {rk : Nat → Nat} {pl : List zQ} (hi3 : i < 3) (hD : repC D (chP R N b d h rk pl)) : repC (zst D (2 + i) 0 (nI v)) (chP R N (if i = 0 then v else b) (if i = 1 then v else d) (if i = 2 then v else h) rk pl) := by
  obtain ⟨h0, h1, h2, h3, h4, h5, h6, h9⟩ := repC_ch.mp hD
  refine repC_ch.mpr ⟨by rw [zst_ne _ (by omega)]; exact h0, by rw [zst_ne _ (by omega)]; exact h1, ?_, ?_, ?_, by rw [zst_ne _ (by omega)]; exact h5, fun k p a6 a8 hp => by rw [zst_ne _ (by omega)]; exact h6 k p a6 a8 hp, fun x hx => by rw [zst_ne _ (by omega)]; exact h9 x hx⟩
  · by_cases z : i = 0
    · rw [z]; exact zst_same _ _ _ _
    · rw [zst_ne _ (by omega), if_neg z]; exact h2
  · by_cases z : i = 1
    · rw [z]; exact zst_same _ _ _ _
    · rw [zst_ne _ (by omega), if_neg z]; exact h3
  · by_cases z : i = 2
    · rw [z]; exact zst_same _ _ _ _
    · rw [zst_ne _ (by omega), if_neg z]; exact h4
theorem e_setL {S D M : Nat → Nat → Int32} {y : Nat → Nat} {n e R N b d h i lo hi : Nat} {rk : Nat → Nat} {pl : List zQ} (hi3 : i < 3) (hlo : lo < 2 ^ 31) (hhi : hi < 2 ^ 31) (hgo : f_X7_setLine M (nI i) = (f_X7_go M).bind fun r => f_X7_setLine_J35 r (nI i) (nI lo) (nI hi)) (hb' : ∀ v, lo ≤ v → v ≤ hi → bdK R N (if i = 0 then v else b) (if i = 1 then v else d) (if i = 2 then v else h)) (hS : prC S y n e) (hB : bytM M y n) (h15 : M 15 0 = nI e) (h18 : M 18 0 = 0) (hD : repC D (chP R N b d h rk pl)) (hR : rdM M R N b d h rk pl) (hw : wfP R N b d h rk pl) : lnQ S M y n e ((f_X4_readNumber S (nI lo) (nI hi)).bind fun r => zlet (zst D (2 + i) 0 r.1) fun D' => some (r.2, D')) (f_X7_setLine M (nI i)) := by
  have hn := hB.1
  have hep := hS.2.1
  obtain ⟨M1, g1, g2, g3⟩ := e_goT hB hep h15 h18
  have hR1 : rdM M1 R N b d h rk pl := rdM_fr (fun k _ _ => g3 k (by omega)) hR
  obtain ⟨v1, S1, a1, a2, a3, a4⟩ := e_readNumber hS hlo hhi
  obtain ⟨m1, m2⟩ := e_setJ hi3 g2 hlo hhi
  rw [hgo, g1, Option.bind_some, a1, Option.bind_some, zlet_eq]
  by_cases o1 : nOK y n e lo hi
  · obtain ⟨c1, c2, c3⟩ := a2 o1
    obtain ⟨M2, d1, d2, d4⟩ := m1 o1
    have hR2 : rdM M2 R N b d h rk pl := rdM_fr (fun k _ _ => d4 k (by omega)) hR1
    obtain ⟨k1, k2, k3, k4, k5, k6, k7⟩ := tk_lt (y := y) hep
    have hne : ∀ k, k ≠ 24 → zst M2 24 i (nI (tkV y n e)) k = M2 k := fun k hk => zst_ne _ hk _ _
    rw [d1, c1]
    refine ⟨S1, zst D (2 + i) 0 (nI (tkV y n e)), _, 1, rfl, rfl, a4, fun k hk => by rw [hne k (by omega), d4 k (by omega), g3 k (by omega)], Or.inl ⟨rfl, tkE y n e, k6 (by have := o1.1; omega), R, N, _, _, _, rk, pl, c2, ?_, repC_set hi3 hD, ?_, hb' _ o1.2.1 o1.2.2, hw.2⟩⟩
    · obtain ⟨t1, t2, t3, t4, t5, t6, t7⟩ := d2
      exact ⟨bytM_fr (hne 11 (by decide)) (hne 13 (by decide)) t1, t2, by rw [hne 16 (by decide)]; exact t3, by rw [hne 14 (by decide)]; exact t4, fun z => by rw [hne 15 (by decide)]; exact t5 z, fun z => by rw [hne 17 (by decide)]; exact t6 z, by rw [hne 18 (by decide)]; exact t7⟩
    · obtain ⟨r1, r2, r3, r4, r5, r6, r7, r8⟩ := hR2
      refine ⟨by rw [hne 19 (by decide)]; exact r1, by rw [hne 20 (by decide)]; exact r2, by rw [hne 21 (by decide)]; exact r3, rwM_fr pl (fun j hj => by rw [hne 22 (by decide)]) r4, fun c hc => by rw [hne 23 (by decide)]; exact r5 c hc, ?_, ?_, ?_⟩
      · rw [zst_row]
        by_cases z : i = 0
        · rw [z]; exact upd_same _ _ _
        · rw [upd_ne _ (by omega), if_neg z]; exact r6
      · rw [zst_row]
        by_cases z : i = 1
        · rw [z]; exact upd_same _ _ _
        · rw [upd_ne _ (by omega), if_neg z]; exact r7
      · rw [zst_row]
        by_cases z : i = 2
        · rw [z]; exact upd_same _ _ _
        · rw [upd_ne _ (by omega), if_neg z]; exact r8
  · obtain ⟨M2, d1, d2, d3⟩ := m2 o1
    obtain ⟨f1, f2⟩ := nFl_b (y := y) hn hep
    exact lnFa (M' := M2) rfl d1 a4 (fun k hk => by rw [d3 k hk, g3 k (by omega)]) f1 f2 (a3 o1) d2
theorem e_line {S D M : Nat → Nat → Int32} {y : Nat → Nat} {n p R N b d h : Nat} {rk : Nat → Nat} {pl : List zQ} (hS : prC S y n p) (hT : tokM M y n p) (hD : repC D (chP R N b d h rk pl)) (hR : rdM M R N b d h rk pl) (hw : wfP R N b d h rk pl) : lnQ S M y n p (f_X4_readLine S D) (f_X7_line M) := by
  obtain ⟨hB, hp, h3, h7⟩ := hS
  obtain ⟨S1, e1, hC⟩ := e_readToken hB hp h3
  have hC' := hC
  obtain ⟨t4, t5, t3, t6, to⟩ := hC'
  obtain ⟨hBM, _, u16, u14, u15, u17, u18⟩ := hT
  have hn := hBM.1
  have hM : tkM M M y n p := ⟨u16, u14, u15, u17, fun _ _ => rfl⟩
  obtain ⟨k1, k2, k3, k4, k5, k6, k7⟩ := tk_lt (y := y) hp
  have hf : ∀ k, k < 3 → S1 k = S k := fun k hk => to k (by omega)
  have h71 : S1 7 0 = 0 := by rw [to 7 (by omega)]; exact h7
  have hP : tkK y n p = 1 → prC S1 y n (tkE y n p) := fun z => ⟨bytC_fr (to 1 (by omega)) (to 2 (by omega)) hB, k5, t3 (by omega), h71⟩
  have hpe : tkK y n p = 1 → p ≤ tkE y n p := fun z => Nat.le_of_lt (k6 (by omega))
  obtain ⟨b1, b2, b3, b4, b5, b6, b7, b8⟩ := hw.1
  unfold f_X4_readLine f_X7_line
  rw [e1, Option.bind_some]
  obtain ⟨r1, x1, x2, x3⟩ := e_isWord hB hp hC (i := 1) (by decide)
  obtain ⟨q1, y1, y2, y3⟩ := e_isWordM hBM hp hM (i := 1) (v1 := 112) (v2 := 108) (v3 := 97) (v4 := 99) (v5 := 101) (by decide) rfl rfl rfl rfl rfl
  rw [x1, Option.bind_some, y1, Option.bind_some]
  by_cases o1 : isW y n p 1
  · rw [x2 o1, y2 o1, if_neg (show ¬ (1 : Int32) = 0 by decide), if_neg (show ¬ (1 : Int32) = 0 by decide)]
    exact lnQ_b (hpe o1.1) hf (e_placeL (hP o1.1) t5 (by omega) hBM u14 (u15 (by have := o1.1; omega)) u18 hD hR hw)
  rw [x3 o1, y3 o1, if_pos rfl, if_pos rfl]
  obtain ⟨r2, x4, x5, x6⟩ := e_isWord hB hp hC (i := 2) (by decide)
  obtain ⟨q2, y4, y5, y6⟩ := e_isWordM hBM hp hM (i := 2) (v1 := 114) (v2 := 111) (v3 := 99) (v4 := 107) (v5 := 115) (by decide) rfl rfl rfl rfl rfl
  rw [x4, Option.bind_some, y4, Option.bind_some]
  by_cases o2 : isW y n p 2
  · rw [x5 o2, y5 o2, if_neg (show ¬ (1 : Int32) = 0 by decide), if_neg (show ¬ (1 : Int32) = 0 by decide)]
    exact lnQ_b (hpe o2.1) hf (e_rocksL (hP o2.1) hBM (u15 (by have := o2.1; omega)) u18 hD hR hw)
  rw [x6 o2, y6 o2, if_pos rfl, if_pos rfl]
  obtain ⟨r3, x7, x8, x9⟩ := e_isWord hB hp hC (i := 3) (by decide)
  obtain ⟨q3, y7, y8, y9⟩ := e_isWordM hBM hp hM (i := 3) (v1 := 98) (v2 := 97) (v3 := 115) (v4 := 101) (v5 := 0) (by decide) rfl rfl rfl rfl rfl
  rw [x7, Option.bind_some, y7, Option.bind_some]
  have hst : ∀ i lo hi, i < 3 → lo < 2 ^ 31 → hi < 2 ^ 31 → tkK y n p = 1 → (f_X7_setLine M (nI i) = (f_X7_go M).bind fun r => f_X7_setLine_J35 r (nI i) (nI lo) (nI hi)) → (∀ v, lo ≤ v → v ≤ hi → bdK R N (if i = 0 then v else b) (if i = 1 then v else d) (if i = 2 then v else h)) → lnQ S M y n p ((f_X4_readNumber S1 (nI lo) (nI hi)).bind fun r => zlet (zst D (2 + i) 0 r.1) fun D' => some (r.2, D')) ((f_X7_setLine M (nI i)).bind fun r => zbo r.1 (some (r.1, r.2))) := by
    intro i lo hi z1 z2 z3 z4 z5 z6
    have := lnQ_b (hpe z4) hf (e_setL z1 z2 z3 z5 z6 (hP z4) hBM (u15 (by omega)) u18 hD hR hw)
    have he : ∀ c : Option ((Nat → Nat → Int32) × (Nat → Nat → Int32)), (c.bind fun r => some (r.1, r.2)) = c := by
      intro c
      cases c <;> rfl
    rw [he] at this
    exact this
  by_cases o3 : isW y n p 3
  · rw [x8 o3, y8 o3, if_neg (show ¬ (1 : Int32) = 0 by decide), if_neg (show ¬ (1 : Int32) = 0 by decide)]
    exact hst 0 1 99 (by decide) (by decide) (by decide) o3.1 rfl (fun v v1 v2 => ⟨b1, b2, b3, b4, v1, v2, b7, b8⟩)
  rw [x9 o3, y9 o3, if_pos rfl, if_pos rfl]
  obtain ⟨r4, x10, x11, x12⟩ := e_isWord hB hp hC (i := 4) (by decide)
  obtain ⟨q4, y10, y11, y12⟩ := e_isWordM hBM hp hM (i := 4) (v1 := 98) (v2 := 101) (v3 := 110) (v4 := 100) (v5 := 0) (by decide) rfl rfl rfl rfl rfl
  rw [x10, Option.bind_some, y10, Option.bind_some]
  by_cases o4 : isW y n p 4
  · rw [x11 o4, y11 o4, if_neg (show ¬ (1 : Int32) = 0 by decide), if_neg (show ¬ (1 : Int32) = 0 by decide)]
    exact hst 1 0 40 (by decide) (by decide) (by decide) o4.1 rfl (fun v v1 v2 => ⟨b1, b2, b3, b4, b5, b6, v2, b8⟩)
  rw [x12 o4, y12 o4, if_pos rfl, if_pos rfl]
  obtain ⟨r5, x13, x14, x15⟩ := e_isWord hB hp hC (i := 5) (by decide)
  obtain ⟨q5, y13, y14, y15⟩ := e_isWordM hBM hp hM (i := 5) (v1 := 114) (v2 := 101) (v3 := 97) (v4 := 99) (v5 := 104) (by decide) rfl rfl rfl rfl rfl
  rw [x13, Option.bind_some, y13, Option.bind_some]
  by_cases o5 : isW y n p 5
  · rw [x14 o5, y14 o5, if_neg (show ¬ (1 : Int32) = 0 by decide), if_neg (show ¬ (1 : Int32) = 0 by decide)]
    exact hst 2 0 6 (by decide) (by decide) (by decide) o5.1 rfl (fun v v1 v2 => ⟨b1, b2, b3, b4, b5, b6, b7, v2⟩)
  rw [x15 o5, y15 o5, if_pos rfl, if_pos rfl, show f_X4_fail S1 1 = _ from e_fail (k := 1) h71 t5, Option.bind_some, u14, show f_X7_bad M 1 (nI (skp y n p)) = _ from e_bad (k := 1) u18, Option.bind_some, zbo_0]
  exact lnFa (S' := zst S1 7 0 (nI (8 * skp y n p + 1))) (M' := zst M 18 0 (nI (8 * skp y n p + 1))) (f := 8 * skp y n p + 1) rfl rfl (fun k hk => by rw [zst_ne _ (by omega)]; exact hf k hk) (fun k hk => zst_ne _ (by omega) _ _) (by omega) (by omega) (zst_same _ _ _ _) (zst_same _ _ _ _)
end SLN
