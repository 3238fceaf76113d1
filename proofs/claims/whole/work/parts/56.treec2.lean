/-! the class's answers over trees: ink, comers, ways, joins -/
section TR2
def lns (K : Nat → Nat → Nat) (s : Nat) : Nat := if s = 0 then 10 else 10 + K 3 0
def inkc (K : Nat → Nat → Nat) (b w : Nat → Nat) (c : Nat) : Nat := if b c = 0 then 0 else lns K (w c) * (K 2 0 + amtK K (b c))
def tink (K : Nat → Nat → Nat) (b w : Nat → Nat) : Nat := su (fun i => su (fun t => inkc K b w (24 * (i + 1) + t)) (K 1 0)) (K 0 0)
theorem e_sumOfInk {T S1 : Nat → Nat → Int32} {K : Nat → Nat → Nat} {b w : Nat → Nat} (hK : wfK K) (hC : repC S1 K) (hT : treeC T b w) (hb : ∀ c, c < 240 → b c < 128) (hw : ∀ c, 24 ≤ c → c < 240 → b c ≠ 0 → w c < 3) : f_X5_sumOfInk T S1 = some (nI (tink K b w)) := by
  have h9 := hK.1.2.1
  have h24 := hK.1.2.2.2.1
  have inn : ∀ r a0, 1 ≤ r → r ≤ 9 → f_X5_sumOfInk_L15 T S1 (nI r) zfuel (nI a0, 0) = some (nI (a0 + su (fun t => inkc K b w (24 * r + t)) (K 1 0))) := by
    intro r a0 hr1 hr
    refine zfor0 (fun i => (nI (a0 + su (fun t => inkc K b w (24 * r + t)) i), nI i)) (K 1 0) _ (by omega) (fun i hi rec => ?_) (fun rec => ?_)
    · show f_X5_sumOfInk_L15b T S1 (nI r) rec (nI (a0 + su _ i), nI i) = rec (nI (a0 + (su _ i + inkc K b w (24 * r + i))), nI (i + 1))
      unfold f_X5_sumOfInk_L15b f_X5_sumOfInk_J67
      dsimp only
      generalize su (fun t => inkc K b w (24 * r + t)) i = z
      unfold inkc
      have hbc := hb (24 * r + i) (by omega)
      rw [ilen (hC.1 1 (by omega)) rfl hi (by omega), e_cellOf, Option.bind_some, zix_nI (by omega) (by decide), nI_clamp (by omega), (hT _ (by omega)).1]
      by_cases e : b (24 * r + i) = 0
      · rw [e, if_pos nI_0, if_pos rfl, nI_1]; rfl
      · have hws := hw _ (by omega) (by omega) e
        rw [if_neg (nI_ne0 (by omega) (by omega)), if_neg e, zix_nI (by omega) (by decide), zix_nI (by omega) (by decide), e_amountOf hC (wf7 hK) hbc, Option.bind_some, (hT _ (by omega)).2, sd_ne (by omega), e_inkOfStep hC hws, Option.bind_some, zlet_eq, nI_add, nI_1, Nat.add_assoc]
        rfl
    · show f_X5_sumOfInk_L15b T S1 (nI r) rec (nI _, nI (K 1 0)) = _
      unfold f_X5_sumOfInk_L15b
      dsimp only
      rw [ilep (hC.1 1 (by omega)) rfl (Nat.le_refl _) (by omega)]
  have hl : f_X5_sumOfInk_L4 T S1 zfuel (0, 1) = some (nI (tink K b w)) := by
    refine zfor0 (fun i => (nI (su (fun i => su (fun t => inkc K b w (24 * (i + 1) + t)) (K 1 0)) i), nI (i + 1))) (K 0 0) _ (by omega) (fun i hi rec => ?_) (fun rec => ?_)
    · show f_X5_sumOfInk_L4b T S1 rec (nI _, nI (i + 1)) = rec (nI (su _ i + _), nI (i + 1 + 1))
      unfold f_X5_sumOfInk_L4b
      dsimp only
      rw [iltn (hC.1 0 (by omega)) rfl (by omega) (by omega), inn _ _ (by omega) (by omega), Option.bind_some, nI_1]
    · show f_X5_sumOfInk_L4b T S1 rec (nI _, nI (K 0 0 + 1)) = _
      unfold f_X5_sumOfInk_L4b
      dsimp only
      rw [iltp (hC.1 0 (by omega)) rfl (by omega) (by omega)]; rfl
  unfold f_X5_sumOfInk
  rw [hl]; rfl
/-- how many come to a cell -/
def cmc (K : Nat → Nat → Nat) (w : Nat → Nat) (r t : Nat) : Nat := (if plc K r t < K 5 0 then 1 else 0) + (if r < K 0 0 then (if w (24 * (r + 1) + t) = 0 then 1 else 0) + (if w (24 * (r + 1) + nb (K 1 0) t 1) = 2 then 1 else 0) + (if w (24 * (r + 1) + nb (K 1 0) t 2) = 1 then 1 else 0) else 0)
def cmK (K : Nat → Nat → Nat) (b w : Nat → Nat) (r t : Nat) : Nat := if r = 0 then su (fun t => if b (24 * 1 + t) = 0 then 0 else 1) (K 1 0) else cmc K w r t
theorem wfb {K : Nat → Nat → Nat} (hK : wfK K) : ∀ p, p < K 5 0 → K 6 p < 2 ^ 31 ∧ K 7 p < 2 ^ 31 := fun p hp => by have := hK.2.1 p hp; have := hK.1; omega
theorem e_comersTo {T S1 : Nat → Nat → Int32} {K : Nat → Nat → Nat} {b w : Nat → Nat} (hK : wfK K) (hC : repC S1 K) (hT : treeC T b w) (hw : ∀ c, c < 240 → w c < 4) {r t : Nat} (hr : r ≤ K 0 0) (ht : t < K 1 0) : f_X5_comersToCell T S1 (nI r) (nI t) = some (nI (cmc K w r t)) := by
  have h9 := hK.1.2.1
  have h24 := hK.1.2.2.2.1
  have h6 := hK.1.2.2.1
  have j15 : ∀ k0 : Nat, f_X5_comersToCell_J15 T S1 (nI r) (nI t) (nI k0) = some (nI (k0 + (if r < K 0 0 then (if w (24 * (r + 1) + t) = 0 then 1 else 0) + (if w (24 * (r + 1) + nb (K 1 0) t 1) = 2 then 1 else 0) + (if w (24 * (r + 1) + nb (K 1 0) t 2) = 1 then 1 else 0) else 0))) := by
    intro k0
    unfold f_X5_comersToCell_J15
    by_cases e : r < K 0 0
    · have n1 := nb_lt 1 ht
      have n2 := nb_lt 2 ht
      have w0 := hw (24 * (r + 1) + t) (by omega)
      have w1 := hw (24 * (r + 1) + nb (K 1 0) t 1) (by omega)
      have w2 := hw (24 * (r + 1) + nb (K 1 0) t 2) (by omega)
      have j78 : ∀ k x : Nat, f_X5_comersToCell_J78 T S1 (nI r) (nI t) (nI k) (nI x) = some (nI (k + x + (if w (24 * (r + 1) + nb (K 1 0) t 2) = 1 then 1 else 0))) := by
        intro k x
        unfold f_X5_comersToCell_J78
        rw [nI_add, zlet_eq, e_tb2 hC (by omega) (by omega) ht, Option.bind_some, nI_1, e_cellOf, Option.bind_some, zix_nI (by omega) (by decide), nI_clamp (by omega), (hT _ (by omega)).2]
        by_cases q : w (24 * (r + 1) + nb (K 1 0) t 2) = 1
        · rw [if_pos ((sd_1 w2).mpr q), if_pos q, zlet_eq, nI_1]
        · rw [if_neg (fun z => q ((sd_1 w2).mp z)), if_neg q, zlet_eq, l_0, nI_add]
      have j47 : ∀ k x : Nat, f_X5_comersToCell_J47 T S1 (nI r) (nI t) (nI k) (nI x) = some (nI (k + x + (if w (24 * (r + 1) + nb (K 1 0) t 1) = 2 then 1 else 0) + (if w (24 * (r + 1) + nb (K 1 0) t 2) = 1 then 1 else 0))) := by
        intro k x
        unfold f_X5_comersToCell_J47
        rw [nI_add, zlet_eq, e_tb1 hC (by omega) (by omega) ht, Option.bind_some, nI_1, e_cellOf, Option.bind_some, zix_nI (by omega) (by decide), nI_clamp (by omega), (hT _ (by omega)).2]
        by_cases q : w (24 * (r + 1) + nb (K 1 0) t 1) = 2
        · rw [if_pos ((sd_2 w1).mpr q), if_pos q]; exact j78 (k + x) 1
        · rw [if_neg (fun z => q ((sd_2 w1).mp z)), if_neg q]; exact j78 (k + x) 0
      rw [ilen (hC.1 0 (by omega)) rfl e (by omega), if_pos e, nI_1, e_cellOf, Option.bind_some, zix_nI (by omega) (by decide), nI_clamp (by omega), (hT _ (by omega)).2]
      by_cases q : w (24 * (r + 1) + t) = 0
      · rw [if_pos ((sd_0 w0).mpr q), if_pos q]
        refine (j47 k0 1).trans ?_
        rw [Nat.add_assoc, Nat.add_assoc, Nat.add_assoc]
      · rw [if_neg (fun z => q ((sd_0 w0).mp z)), if_neg q]
        refine (j47 k0 0).trans ?_
        rw [Nat.add_assoc, Nat.add_assoc, Nat.add_assoc]
    · rw [ilep (hC.1 0 (by omega)) rfl (by omega) (by omega), if_neg e]; rfl
  unfold f_X5_comersToCell cmc
  rw [e_placeAt hC (wf7 hK) (wfb hK) (by omega) (by omega), Option.bind_some]
  have := wf7 hK
  by_cases e : plc K r t < K 5 0
  · rw [if_pos e, if_neg (nI_nm1 (by omega)), if_pos e]; exact j15 1
  · rw [if_neg e, if_pos rfl, if_neg e]; exact j15 0
theorem e_comers {T S1 : Nat → Nat → Int32} {K : Nat → Nat → Nat} {b w : Nat → Nat} (hK : wfK K) (hC : repC S1 K) (hT : treeC T b w) (hb : ∀ c, c < 240 → b c < 128) (hw : ∀ c, c < 240 → w c < 4) {r t : Nat} (hr : r ≤ K 0 0) (ht : t < wid K r) : f_X5_comers T S1 (nI r) (nI t) = some (nI (cmK K b w r t)) := by
  have h9 := hK.1.2.1
  have hwd := wid_le hK r
  unfold f_X5_comers cmK
  by_cases e : r = 0
  · rw [e, if_pos nI_0, if_pos rfl, l_1, e_branchesOf hK hC hT hb (by omega)]; rfl
  · rw [if_neg (nI_ne0 (by omega) (by omega)), if_neg e, e_comersTo hK hC hT hw hr (by omega)]; rfl
/-- the turn of a way after k steps -/
def pth (N : Nat) (w : Nat → Nat) (r t : Nat) : Nat → Nat
  | 0 => t
  | k + 1 => nb N (pth N w r t k) (w (24 * (r - k) + pth N w r t k))
theorem pth_lt {N : Nat} {w : Nat → Nat} {r t : Nat} (h : t < N) : ∀ k, pth N w r t k < N := by
  intro k
  induction k with
  | zero => exact h
  | succ k ih => exact nb_lt _ ih
theorem e_turnOnWay {T S1 : Nat → Nat → Int32} {K : Nat → Nat → Nat} {b w : Nat → Nat} (hK : wfK K) (hC : repC S1 K) (hT : treeC T b w) (hw : ∀ c, c < 240 → w c < 4) {p j : Nat} (hp : p < K 5 0) (hj : j ≤ K 6 p) : f_X5_turnOnWay T S1 (nI p) (nI j) = some (nI (if j = 0 then 0 else pth (K 1 0) w (K 6 p) (K 7 p) (K 6 p - j))) := by
  have h9 := hK.1.2.1
  have h24 := hK.1.2.2.2.1
  have h6 := hK.1.2.2.1
  have h7 := wf7 hK
  obtain ⟨w1, w2, w3, _⟩ := hK.2.1 p hp
  unfold f_X5_turnOnWay
  by_cases e : j = 0
  · rw [e, if_pos nI_0, if_pos rfl]; rfl
  · rw [if_neg (nI_ne0 (by omega) (by omega)), if_neg e, zix_nI (by omega) (by decide), zlet_eq, zix_nI (by omega) (by decide), zlet_eq, nI_clamp (by omega), hC.2.1 7 p (by omega) (by omega) hp, hC.2.1 6 p (by omega) (by omega) hp]
    have hl : f_X5_turnOnWay_L22 T S1 (nI j) zfuel (nI (K 7 p), nI (K 6 p)) = some (nI (pth (K 1 0) w (K 6 p) (K 7 p) (K 6 p - j))) := by
      refine zfor0 (fun i => (nI (pth (K 1 0) w (K 6 p) (K 7 p) i), nI (K 6 p - i))) (K 6 p - j) _ (by omega) (fun i hi rec => ?_) (fun rec => ?_)
      · show f_X5_turnOnWay_L22b T S1 (nI j) rec (nI (pth (K 1 0) w (K 6 p) (K 7 p) i), nI (K 6 p - i)) = rec (nI (nb (K 1 0) (pth (K 1 0) w (K 6 p) (K 7 p) i) (w (24 * (K 6 p - i) + pth (K 1 0) w (K 6 p) (K 7 p) i))), nI (K 6 p - (i + 1)))
        have hlt := pth_lt (w := w) (r := K 6 p) w3 i
        generalize pth (K 1 0) w (K 6 p) (K 7 p) i = u at *
        unfold f_X5_turnOnWay_L22b
        dsimp only
        obtain ⟨m, hm⟩ : ∃ m, K 6 p - i = m + 1 := ⟨K 6 p - i - 1, by omega⟩
        rw [hm, if_neg (nI_ge (by omega) (by omega)), e_cellOf, Option.bind_some, zix_nI (by omega) (by decide), nI_clamp (by omega), (hT _ (by omega)).2, e_tbS hC (by omega) (by omega) hlt (hw _ (by omega)), Option.bind_some, pk_m1, show K 6 p - (i + 1) = m by omega]
      · show f_X5_turnOnWay_L22b T S1 (nI j) rec (nI _, nI (K 6 p - (K 6 p - j))) = _
        unfold f_X5_turnOnWay_L22b
        dsimp only
        rw [show K 6 p - (K 6 p - j) = j by omega, if_pos (nI_le (Nat.le_refl _) (by omega))]
    rw [hl]; rfl
/-- the length of a way from a cell to the source -/
def lnF (K : Nat → Nat → Nat) (w : Nat → Nat) (r t : Nat) : Nat := su (fun k => lns K (w (24 * (r - k) + pth (K 1 0) w r t k))) r
theorem e_lengthFrom {T S1 : Nat → Nat → Int32} {K : Nat → Nat → Nat} {b w : Nat → Nat} (hK : wfK K) (hC : repC S1 K) (hT : treeC T b w) {r t : Nat} (hr : r ≤ 9) (ht : t < K 1 0) (hw : ∀ k, k < r → w (24 * (r - k) + pth (K 1 0) w r t k) < 3) : f_X5_lengthFrom T S1 (nI r) (nI t) = some (nI (lnF K w r t)) := by
  have h24 := hK.1.2.2.2.1
  have h6 := hK.1.2.2.1
  have hl : f_X5_lengthFrom_L9 T S1 zfuel (nI t, 0, nI r) = some (nI (lnF K w r t)) := by
    refine zfor0 (fun i => (nI (pth (K 1 0) w r t i), nI (su (fun k => lns K (w (24 * (r - k) + pth (K 1 0) w r t k))) i), nI (r - i))) r _ (by omega) (fun i hi rec => ?_) (fun rec => ?_)
    · show f_X5_lengthFrom_L9b T S1 rec (nI (pth (K 1 0) w r t i), nI _, nI (r - i)) = rec (nI (nb (K 1 0) (pth (K 1 0) w r t i) (w (24 * (r - i) + pth (K 1 0) w r t i))), nI (su _ i + lns K (w (24 * (r - i) + pth (K 1 0) w r t i))), nI (r - (i + 1)))
      have hlt := pth_lt (w := w) (r := r) ht i
      have hwi := hw i hi
      generalize pth (K 1 0) w r t i = u at *
      generalize su (fun k => lns K (w (24 * (r - k) + pth (K 1 0) w r t k))) i = z
      obtain ⟨m, hm⟩ : ∃ m, r - i = m + 1 := ⟨r - i - 1, by omega⟩
      rw [hm] at hwi ⊢
      unfold f_X5_lengthFrom_L9b
      dsimp only
      rw [if_neg (show ¬ nI (m + 1) < 1 from nI_nlt (b := 1) (by omega) (by omega)), e_cellOf, Option.bind_some, zix_nI (by omega) (by decide), zlet_eq, nI_clamp (by omega), (hT _ (by omega)).2, sd_ne (by omega), e_lengthOf hC hwi, Option.bind_some, zlet_eq, nI_add, e_turnBeside hC (by omega) (by omega) hlt hwi, Option.bind_some, pk_m1, show r - (i + 1) = m by omega]
      rfl
    · show f_X5_lengthFrom_L9b T S1 rec (nI _, nI _, nI (r - r)) = _
      unfold f_X5_lengthFrom_L9b
      dsimp only
      rw [Nat.sub_self, if_pos (show nI 0 < 1 by decide)]; rfl
  unfold f_X5_lengthFrom
  rw [hl]; rfl
/-- joins, by what comes -/
def jIn (cm : Nat → Nat) (v : Nat) : Nat → Nat → Nat → Nat × Nat × Nat × Nat
  | 0, _, n => (1, n, 0, 0)
  | k + 1, t, n => if cm t < 2 then jIn cm v k (t + 1) n else if n = v then (0, 0, t, cm t) else jIn cm v k (t + 1) (n + 1)
def jOut (cm : Nat → Nat → Nat) (W : Nat → Nat) (v : Nat) : Nat → Nat → Nat × Nat × Nat × Nat × Nat
  | 0, n => (1, n, 0, 0, 0)
  | r + 1, n => if (jIn (cm r) v (W r) 0 n).1 = 0 then (0, 0, r, (jIn (cm r) v (W r) 0 n).2.2.1, (jIn (cm r) v (W r) 0 n).2.2.2) else jOut cm W v r (jIn (cm r) v (W r) 0 n).2.1
theorem jIn_lt {cm : Nat → Nat} {v : Nat} : ∀ k t n, n + k < v → (jIn cm v k t n).1 = 1 ∧ (jIn cm v k t n).2.1 ≤ n + k := by
  intro k
  induction k with
  | zero => intro t n h; exact ⟨rfl, Nat.le_refl _⟩
  | succ k ih =>
    intro t n h
    unfold jIn
    by_cases e : cm t < 2
    · rw [if_pos e]; have := ih (t + 1) n (by omega); exact ⟨this.1, by omega⟩
    · rw [if_neg e, if_neg (by omega)]; have := ih (t + 1) (n + 1) (by omega); exact ⟨this.1, by omega⟩
theorem jIn_le {cm : Nat → Nat} {v : Nat} : ∀ k t n, n ≤ v → (jIn cm v k t n).1 ≤ 1 ∧ (jIn cm v k t n).2.1 ≤ v := by
  intro k
  induction k with
  | zero => intro t n h; exact ⟨Nat.le_refl _, h⟩
  | succ k ih =>
    intro t n h
    unfold jIn
    by_cases e : cm t < 2
    · rw [if_pos e]; exact ih (t + 1) n h
    · rw [if_neg e]
      by_cases e2 : n = v
      · rw [if_pos e2]; exact ⟨Nat.zero_le _, Nat.zero_le _⟩
      · rw [if_neg e2]; exact ih (t + 1) (n + 1) (by omega)
end TR2
