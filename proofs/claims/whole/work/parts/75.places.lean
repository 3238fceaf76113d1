/-! a chart with a place less, or more -/
section PLS
def rmK (K : Nat → Nat → Nat) (g : Nat) : Nat → Nat → Nat := fun k j => if k = 5 then K 5 j - 1 else if 6 ≤ k ∧ k ≤ 8 then (if j < g then K k j else K k (j + 1)) else K k j
def insK (K : Nat → Nat → Nat) (pos r t a : Nat) : Nat → Nat → Nat := fun k j => if k = 5 then K 5 j + 1 else if 6 ≤ k ∧ k ≤ 8 then (if j < pos then K k j else if j = pos then (if k = 6 then r else if k = 7 then t else a) else K k (j - 1)) else K k j
theorem rm_5 (K : Nat → Nat → Nat) (g j : Nat) : rmK K g 5 j = K 5 j - 1 := if_pos rfl
theorem rm_o (K : Nat → Nat → Nat) (g : Nat) {k : Nat} (h : k ≠ 5) (h2 : k < 6 ∨ 8 < k) (j : Nat) : rmK K g k j = K k j := by unfold rmK; rw [if_neg h, if_neg (by omega)]
theorem rm_r (K : Nat → Nat → Nat) (g : Nat) {k : Nat} (h : 6 ≤ k) (h2 : k ≤ 8) (j : Nat) : rmK K g k j = if j < g then K k j else K k (j + 1) := by unfold rmK; rw [if_neg (by omega), if_pos ⟨h, h2⟩]
theorem ins_5 (K : Nat → Nat → Nat) (pos r t a j : Nat) : insK K pos r t a 5 j = K 5 j + 1 := if_pos rfl
theorem ins_o (K : Nat → Nat → Nat) (pos r t a : Nat) {k : Nat} (h : k ≠ 5) (h2 : k < 6 ∨ 8 < k) (j : Nat) : insK K pos r t a k j = K k j := by unfold insK; rw [if_neg h, if_neg (by omega)]
theorem ins_r (K : Nat → Nat → Nat) (pos r t a : Nat) {k : Nat} (h : 6 ≤ k) (h2 : k ≤ 8) (j : Nat) : insK K pos r t a k j = if j < pos then K k j else if j = pos then (if k = 6 then r else if k = 7 then t else a) else K k (j - 1) := by unfold insK; rw [if_neg (by omega), if_pos ⟨h, h2⟩]
/-- a place stands behind a cell -/
def bhd (K : Nat → Nat → Nat) (p r t : Nat) : Prop := t < K 7 p ∨ (K 7 p = t ∧ r < K 6 p)
theorem rm_wf {K : Nat → Nat → Nat} (hK : wfK K) {g : Nat} (hg : g < K 5 0) : wfK (rmK K g) := by
  obtain ⟨⟨a1, a2, a3, a4, a5, a6, a7, a8, a9⟩, b, c, d, e⟩ := hK
  have o := fun k h1 h2 j => rm_o K g (k := k) h1 h2 j
  have hr := fun k h1 h2 j => rm_r K g (k := k) h1 h2 j
  have h5 := rm_5 K g 0
  unfold wfK
  rw [o 0 (by decide) (by decide), o 1 (by decide) (by decide), o 2 (by decide) (by decide), o 3 (by decide) (by decide), o 4 (by decide) (by decide), h5]
  refine ⟨⟨a1, a2, a3, a4, a5, a6, a7, a8, by omega⟩, fun p hp => ?_, fun p q hpq hq => ?_, fun x => by rw [o 9 (by decide) (by decide)]; exact d x, fun x => by rw [o 9 (by decide) (by decide)]; exact e x⟩
  · rw [hr 6 (by decide) (by decide), hr 7 (by decide) (by decide), hr 8 (by decide) (by decide), o 9 (by decide) (by decide)]
    by_cases z : p < g
    · rw [if_pos z, if_pos z, if_pos z]; exact b p (by omega)
    · rw [if_neg z, if_neg z, if_neg z]; exact b (p + 1) (by omega)
  · rw [hr 6 (by decide) (by decide), hr 7 (by decide) (by decide), hr 6 (by decide) (by decide), hr 7 (by decide) (by decide)]
    by_cases z : p < g
    · rw [if_pos z, if_pos z]
      by_cases y : q < g
      · rw [if_pos y, if_pos y]; exact c p q hpq (by omega)
      · rw [if_neg y, if_neg y]; exact c p (q + 1) (by omega) (by omega)
    · rw [if_neg z, if_neg z, if_neg (by omega), if_neg (by omega)]; exact c (p + 1) (q + 1) (by omega) (by omega)
theorem ins_wf {K : Nat → Nat → Nat} (hK : wfK K) {pos r t a : Nat} (h7 : K 5 0 < 7) (hr1 : 1 ≤ r) (hr : r ≤ K 0 0) (ht : t < K 1 0) (ha1 : 1 ≤ a) (ha : a ≤ 99) (hk : K 9 (24 * r + t) = 0) (hno : ∀ p, p < K 5 0 → ¬ (K 6 p = r ∧ K 7 p = t)) (hp : pos ≤ K 5 0) (hb : ∀ j, pos ≤ j → j < K 5 0 → bhd K j r t) (hn : ∀ j, j < pos → ¬ bhd K j r t) : wfK (insK K pos r t a) := by
  obtain ⟨⟨a1, a2, a3, a4, a5, a6, a7, a8, a9⟩, b, c, d, e⟩ := hK
  have o := fun k h1 h2 j => ins_o K pos r t a (k := k) h1 h2 j
  have hr := fun k h1 h2 j => ins_r K pos r t a (k := k) h1 h2 j
  have h5 := ins_5 K pos r t a 0
  unfold wfK
  rw [o 0 (by decide) (by decide), o 1 (by decide) (by decide), o 2 (by decide) (by decide), o 3 (by decide) (by decide), o 4 (by decide) (by decide), h5]
  refine ⟨⟨a1, a2, a3, a4, a5, a6, a7, a8, by omega⟩, fun p hp' => ?_, fun p q hpq hq => ?_, fun x => by rw [o 9 (by decide) (by decide)]; exact d x, fun x => by rw [o 9 (by decide) (by decide)]; exact e x⟩
  · rw [hr 6 (by decide) (by decide), hr 7 (by decide) (by decide), hr 8 (by decide) (by decide), o 9 (by decide) (by decide)]
    by_cases z : p < pos
    · rw [if_pos z, if_pos z, if_pos z]; exact b p (by omega)
    · rw [if_neg z, if_neg z, if_neg z]
      by_cases y : p = pos
      · rw [if_pos y, if_pos y, if_pos y, if_pos rfl, if_neg (by decide), if_pos rfl, if_neg (by decide), if_neg (by decide)]
        exact ⟨hr1, by omega, ht, ha1, ha, hk⟩
      · rw [if_neg y, if_neg y, if_neg y]; exact b (p - 1) (by omega)
  · rw [hr 6 (by decide) (by decide), hr 7 (by decide) (by decide), hr 6 (by decide) (by decide), hr 7 (by decide) (by decide)]
    rw [if_pos (show (6 : Nat) = 6 from rfl), if_neg (show ¬ (7 : Nat) = 6 by decide), if_pos (show (7 : Nat) = 7 from rfl)]
    by_cases z : p < pos
    · rw [if_pos z, if_pos z]
      by_cases y : q < pos
      · rw [if_pos y, if_pos y]; exact c p q hpq (by omega)
      · rw [if_neg y, if_neg y]
        by_cases x : q = pos
        · rw [if_pos x, if_pos x]
          have h1 := hn p z
          have h2 := hno p (by omega)
          unfold bhd at h1
          omega
        · rw [if_neg x, if_neg x]; exact c p (q - 1) (by omega) (by omega)
    · rw [if_neg z, if_neg z]
      by_cases y : p = pos
      · rw [if_pos y, if_pos y, if_neg (by omega), if_neg (by omega), if_neg (by omega), if_neg (by omega)]
        have h1 := hb (q - 1) (by omega) (by omega)
        unfold bhd at h1
        omega
      · rw [if_neg y, if_neg y, if_neg (by omega), if_neg (by omega), if_neg (by omega), if_neg (by omega)]
        exact c (p - 1) (q - 1) (by omega) (by omega)
/-- where a cell belongs -/
def psK (K : Nat → Nat → Nat) (r t : Nat) : Nat → Nat
  | 0 => 0
  | n + 1 => if t < K 7 n ∨ (K 7 n = t ∧ r < K 6 n) then psK K r t n else n + 1
theorem ps_le (K : Nat → Nat → Nat) (r t : Nat) : ∀ n, psK K r t n ≤ n ∧ (∀ j, psK K r t n ≤ j → j < n → bhd K j r t) ∧ (0 < psK K r t n → ¬ bhd K (psK K r t n - 1) r t) := by
  intro n
  induction n with
  | zero => exact ⟨Nat.le_refl _, fun j h1 h2 => by omega, fun h => absurd h (Nat.lt_irrefl 0)⟩
  | succ n ih =>
    obtain ⟨i1, i2, i3⟩ := ih
    rw [psK]
    by_cases e : t < K 7 n ∨ (K 7 n = t ∧ r < K 6 n)
    · rw [if_pos e]
      refine ⟨by omega, fun j h1 h2 => ?_, i3⟩
      by_cases q : j = n
      · rw [q]; exact e
      · exact i2 j h1 (by omega)
    · rw [if_neg e]
      exact ⟨Nat.le_refl _, fun j h1 h2 => by omega, fun _ => e⟩
theorem ps_all {K : Nat → Nat → Nat} (hK : wfK K) {r t : Nat} : ∀ j, j < psK K r t (K 5 0) → ¬ bhd K j r t := by
  intro j hj
  obtain ⟨i1, i2, i3⟩ := ps_le K r t (K 5 0)
  have h1 := i3 (by omega)
  by_cases e : j = psK K r t (K 5 0) - 1
  · rw [e]; exact h1
  · have h2 := hK.2.2.1 j (psK K r t (K 5 0) - 1) (by omega) (by omega)
    unfold bhd at *
    omega
/-- a place that is taken out and put back -/
theorem rm_ins {K : Nat → Nat → Nat} (hK : wfK K) {g : Nat} (hg : g < K 5 0) : psK (rmK K g) (K 6 g) (K 7 g) (K 5 0 - 1) = g ∧ ∀ k j, (k ≠ 5 ∨ j = 0) → insK (rmK K g) g (K 6 g) (K 7 g) (K 8 g) k j = K k j := by
  constructor
  · have hb : ∀ j, j < K 5 0 - 1 → (bhd (rmK K g) j (K 6 g) (K 7 g) ↔ g ≤ j) := by
      intro j hj
      unfold bhd
      rw [rm_r K g (by decide) (by decide), rm_r K g (by decide) (by decide)]
      by_cases z : j < g
      · rw [if_pos z, if_pos z]
        have := hK.2.2.1 j g z hg
        omega
      · rw [if_neg z, if_neg z]
        have := hK.2.2.1 g (j + 1) (by omega) (by omega)
        omega
    obtain ⟨i1, i2, i3⟩ := ps_le (rmK K g) (K 6 g) (K 7 g) (K 5 0 - 1)
    rcases Nat.lt_trichotomy (psK (rmK K g) (K 6 g) (K 7 g) (K 5 0 - 1)) g with h | h | h
    · have := (hb _ (by omega)).mp (i2 _ (Nat.le_refl _) (by omega))
      omega
    · exact h
    · exact absurd ((hb _ (by omega)).mpr (by omega)) (i3 (by omega))
  · intro k j hkj
    unfold insK
    by_cases e5 : k = 5
    · rw [if_pos e5, rm_5, e5]
      have : j = 0 := by omega
      rw [this]; omega
    · rw [if_neg e5]
      by_cases e6 : 6 ≤ k ∧ k ≤ 8
      · rw [if_pos e6, rm_r K g e6.1 e6.2, rm_r K g e6.1 e6.2]
        by_cases z : j < g
        · rw [if_pos z, if_pos z]
        · rw [if_neg z]
          by_cases y : j = g
          · rw [if_pos y, y]
            have : k = 6 ∨ k = 7 ∨ k = 8 := by omega
            rcases this with rfl | rfl | rfl
            · rfl
            · rfl
            · rfl
          · rw [if_neg y, if_neg (by omega), show j - 1 + 1 = j by omega]
      · rw [if_neg e6, rm_o K g e5 (by omega)]
/-- the sets without a place, as sets with a hole -/
def phi (g s : Nat) : Nat := s % 2 ^ g + s / 2 ^ g * 2 ^ (g + 1)
theorem phi_a : ∀ g, g < 7 → ∀ s, s < 64 → pts (phi g s) = (pts s).map (phi g) := by decide +kernel
theorem phi_b : ∀ g, g < 7 → ∀ s, s < 64 → ∀ p, p ∈ pts s → phi g s - phi g p = phi g (s - p) ∧ 0 < p ∧ p < s := by decide +kernel
theorem phi_c : ∀ g, g < 7 → ∀ s, s < 64 → (0 < s → 0 < phi g s) ∧ phi g s < 128 ∧ (phi g s).testBit g = false := by decide +kernel
theorem phi_d : ∀ g, g < 7 → ∀ s, s < 64 → ∀ i, i < 7 → (i < g → (phi g s).testBit i = s.testBit i) ∧ (g < i → (phi g s).testBit i = s.testBit (i - 1)) := by decide +kernel
theorem phi_ok (g : Nat) (hg : g < 7) (s : Nat) (hs : s < 64) : pts (phi g s) = (pts s).map (phi g) ∧ (∀ p, p ∈ pts s → phi g s - phi g p = phi g (s - p) ∧ 0 < p ∧ p < s) ∧ (0 < s → 0 < phi g s) ∧ phi g s < 128 ∧ (phi g s).testBit g = false ∧ (∀ i, i < 7 → i < g → (phi g s).testBit i = s.testBit i) ∧ (∀ i, i < 7 → g < i → (phi g s).testBit i = s.testBit (i - 1)) :=
  ⟨phi_a g hg s hs, phi_b g hg s hs, (phi_c g hg s hs).1, (phi_c g hg s hs).2.1, (phi_c g hg s hs).2.2, fun i h1 h2 => (phi_d g hg s hs i h1).1 h2, fun i h1 h2 => (phi_d g hg s hs i h1).2 h2⟩
theorem phi_inj : ∀ g, g < 7 → ∀ s, s < 64 → ∀ s', s' < 64 → phi g s = phi g s' → s = s' := by decide +kernel
theorem phi_lt : ∀ P, P < 8 → ∀ g, g < P → ∀ s, s < 2 ^ (P - 1) → phi g s < 2 ^ P := by decide +kernel
theorem phi_all : ∀ P, P < 8 → ∀ g, g < P → phi g (2 ^ (P - 1) - 1) = (2 ^ P - 1) ^^^ 2 ^ g := by decide +kernel
theorem phi_one : ∀ g, g < 7 → ∀ q, q < 6 → phi g (2 ^ q) = 2 ^ (if q < g then q else q + 1) := by decide +kernel
theorem amt_phi {K : Nat → Nat → Nat} {g s : Nat} (hg : g < K 5 0) (h7 : K 5 0 ≤ 7) (hs : s < 64) : amtK (rmK K g) s = amtK K (phi g s) := by
  obtain ⟨_, _, _, _, b0, b1, b2⟩ := phi_ok g (by omega) s hs
  have h1 : ∀ n, n ≤ g → amtN (rmK K g) s n = amtN K (phi g s) n := by
    intro n
    induction n with
    | zero => intro _; rfl
    | succ n ih =>
      intro hn
      have h8 : rmK K g 8 n = K 8 n := by rw [rm_r K g (by decide) (by decide), if_pos (by omega)]
      rw [amtN, amtN, ih (by omega), h8, b1 n (by omega) (by omega)]
  have h2 : ∀ n, g + n ≤ K 5 0 - 1 → amtN (rmK K g) s (g + n) = amtN K (phi g s) (g + n + 1) := by
    intro n
    induction n with
    | zero => intro _; rw [Nat.add_zero, h1 g (Nat.le_refl _), amtN, b0]; rfl
    | succ n ih =>
      intro hn
      have h8 : rmK K g 8 (g + n) = K 8 (g + n + 1) := by rw [rm_r K g (by decide) (by decide), if_neg (by omega)]
      rw [show g + (n + 1) = g + n + 1 by omega, amtN, amtN, ih (by omega), h8, b2 (g + n + 1) (by omega) (by omega), show g + n + 1 - 1 = g + n by omega]
  have := h2 (K 5 0 - 1 - g) (by omega)
  rw [show g + (K 5 0 - 1 - g) = K 5 0 - 1 by omega, show K 5 0 - 1 + 1 = K 5 0 by omega] at this
  unfold amtK
  rw [rm_5]; exact this
theorem pb_phi {K : Nat → Nat → Nat} (hK : wfK K) {g s r t : Nat} (hg : g < K 5 0) (hs : s < 2 ^ (K 5 0 - 1)) (h0 : 0 < s) : (s = pbK (rmK K g) r t ↔ phi g s = pbK K r t) := by
  have h7 := wf7 hK
  have hK' := rm_wf hK hg
  have hs64 : s < 64 := Nat.lt_of_lt_of_le hs (Nat.le_trans (Nat.pow_le_pow_right (by decide) (show K 5 0 - 1 ≤ 6 by omega)) (by decide))
  obtain ⟨_, _, p0, _, pg, _, _⟩ := phi_ok g (by omega) s hs64
  constructor
  · intro h
    unfold pbK at h
    by_cases e : plc (rmK K g) r t < rmK K g 5 0
    · rw [if_pos e] at h
      rw [rm_5] at e
      have hq := (plc_iff hK' (p := plc (rmK K g) r t) (by rw [rm_5]; exact e)).mp rfl
      rw [rm_r K g (by decide) (by decide), rm_r K g (by decide) (by decide)] at hq
      rw [h, phi_one g (by omega) _ (by omega)]
      have hm : plc K r t = if plc (rmK K g) r t < g then plc (rmK K g) r t else plc (rmK K g) r t + 1 := by
        by_cases z : plc (rmK K g) r t < g
        · rw [if_pos z] at hq ⊢; rw [if_pos z] at hq; exact (plc_iff hK (by omega)).mpr hq
        · rw [if_neg z] at hq ⊢; rw [if_neg z] at hq; exact (plc_iff hK (by omega)).mpr hq
      unfold pbK
      rw [hm, if_pos (show (if plc (rmK K g) r t < g then plc (rmK K g) r t else plc (rmK K g) r t + 1) < K 5 0 by split <;> omega)]
    · rw [if_neg e] at h; omega
  · intro h
    unfold pbK at h
    by_cases e : plc K r t < K 5 0
    · rw [if_pos e] at h
      have hq := (plc_iff hK (p := plc K r t) e).mp rfl
      have hne : plc K r t ≠ g := by
        intro z
        rw [h, z, Nat.testBit_two_pow] at pg
        simp at pg
      have hm : ∃ m, m < K 5 0 - 1 ∧ plc K r t = (if m < g then m else m + 1) := by
        by_cases z : plc K r t < g
        · exact ⟨plc K r t, by omega, by rw [if_pos z]⟩
        · exact ⟨plc K r t - 1, by omega, by rw [if_neg (by omega)]; omega⟩
      obtain ⟨m, hm1, hm2⟩ := hm
      rw [hm2, ← phi_one g (by omega) m (by omega)] at h
      have h64 : 2 ^ m < 64 := Nat.lt_of_lt_of_le (Nat.pow_lt_pow_right (by decide) (show m < 6 by omega)) (Nat.le_refl _)
      have hsm := phi_inj g (by omega) s hs64 (2 ^ m) h64 h
      have hpm : plc (rmK K g) r t = m := by
        refine (plc_iff hK' (by rw [rm_5]; exact hm1)).mpr ?_
        rw [rm_r K g (by decide) (by decide), rm_r K g (by decide) (by decide)]
        by_cases z : m < g
        · rw [if_pos z, if_pos z]; rw [if_pos z] at hm2; rw [← hm2]; exact hq
        · rw [if_neg z, if_neg z]; rw [if_neg z] at hm2; rw [← hm2]; exact hq
      unfold pbK
      rw [hpm, rm_5, if_pos hm1]; exact hsm
    · rw [if_neg e] at h; have := p0 h0; omega
theorem gf_rel {f : Nat → Nat} {av av' : Nat → Bool} {v v' : Nat → Nat} {k k' : Nat} : ∀ (l : List Nat) (a a' : zV), (∀ x, x ∈ l → av x = av' (f x) ∧ v x = v' (f x)) → a.1 = a'.1 → (l.foldl (gf av v k) a).1 = ((l.map f).foldl (gf av' v' k') a').1 := by
  intro l
  induction l with
  | nil => intro a a' _ h; exact h
  | cons x xs ih =>
    intro a a' hx h
    rw [List.foldl_cons, List.map_cons, List.foldl_cons]
    refine ih _ _ (fun y hy => hx y (List.mem_cons_of_mem _ hy)) ?_
    obtain ⟨h1, h2⟩ := hx x List.mem_cons_self
    unfold gf ofr
    rw [h1, h2, h]
    by_cases e : av' (f x) = true
    · rw [if_pos e, if_pos e]
      by_cases q : v' (f x) < a'.1
      · rw [if_pos q, if_pos q]
      · rw [if_neg q, if_neg q]; exact h
    · rw [if_neg e, if_neg e]; exact h
theorem Bt_phi {K : Nat → Nat → Nat} (hK : wfK K) {g : Nat} (hg : g < K 5 0) : ∀ d r t, K 0 0 - r = d → r ≤ K 0 0 → ∀ s, 0 < s → s < 2 ^ (K 5 0 - 1) → (Bt (rmK K g) r t s).1 = (Bt K r t (phi g s)).1 := by
  have h7 := wf7 hK
  have hK' := rm_wf hK hg
  have o := fun k h1 h2 j => rm_o K g (k := k) h1 h2 j
  have p64 : ∀ s, s < 2 ^ (K 5 0 - 1) → s < 64 := fun s hs => Nat.lt_of_lt_of_le hs (Nat.le_trans (Nat.pow_le_pow_right (by decide) (show K 5 0 - 1 ≤ 6 by omega)) (by decide))
  intro d
  induction d with
  | zero =>
    intro r t hd hr
    have key : ∀ n s, s < n → 0 < s → s < 2 ^ (K 5 0 - 1) → (Bt (rmK K g) r t s).1 = (Bt K r t (phi g s)).1 := by
      intro n
      induction n with
      | zero => intro s h; omega
      | succ n ih =>
        intro s hsn h0 hs
        obtain ⟨f1, f2, f3, f4, _⟩ := phi_ok g (by omega) s (p64 s hs)
        by_cases hk : K 9 (24 * r + t) = 0
        · rw [Bt_fix hK' (by rw [o 0 (by decide) (by decide)]; exact hr) (by rw [o 9 (by decide) (by decide)]; exact hk) h0 (by rw [rm_5]; exact hs), Bt_fix hK hr hk (f3 h0) (phi_lt _ (by omega) g hg s hs)]
          unfold calc1
          by_cases e : s = pbK (rmK K g) r t
          · rw [if_pos e, if_pos ((pb_phi hK hg hs h0).mp e)]
          · rw [if_neg e, if_neg (fun z => e ((pb_phi hK hg hs h0).mpr z))]
            have hR : r = K 0 0 := by omega
            have e1 : stx (rmK K g) r = [] := by have := stx_R hK'; rw [o 0 (by decide) (by decide)] at this; rw [hR]; exact this
            have e2 : stx K r = [] := by rw [hR]; exact stx_R hK
            rw [e1, e2, f1]
            refine gf_rel (pts s) _ _ (fun x hx => ?_) rfl
            obtain ⟨y1, y2, y3⟩ := f2 x hx
            rw [y1, ih x (by omega) y2 (by omega), ih (s - x) (by omega) (by omega) (by omega)]
            exact ⟨rfl, rfl⟩
        · rw [Bt_rock (by rw [o 0 (by decide) (by decide)]; exact hr) (by rw [o 9 (by decide) (by decide)]; exact hk), Bt_rock hr hk]
    exact fun s h0 hs => key (s + 1) s (by omega) h0 hs
  | succ d ihd =>
    intro r t hd hr
    have key : ∀ n s, s < n → 0 < s → s < 2 ^ (K 5 0 - 1) → (Bt (rmK K g) r t s).1 = (Bt K r t (phi g s)).1 := by
      intro n
      induction n with
      | zero => intro s h; omega
      | succ n ih =>
        intro s hsn h0 hs
        obtain ⟨f1, f2, f3, f4, _⟩ := phi_ok g (by omega) s (p64 s hs)
        by_cases hk : K 9 (24 * r + t) = 0
        · rw [Bt_fix hK' (by rw [o 0 (by decide) (by decide)]; exact hr) (by rw [o 9 (by decide) (by decide)]; exact hk) h0 (by rw [rm_5]; exact hs), Bt_fix hK hr hk (f3 h0) (phi_lt _ (by omega) g hg s hs)]
          unfold calc1
          by_cases e : s = pbK (rmK K g) r t
          · rw [if_pos e, if_pos ((pb_phi hK hg hs h0).mp e)]
          · rw [if_neg e, if_neg (fun z => e ((pb_phi hK hg hs h0).mpr z))]
            have e1 : stx (rmK K g) r = stx K r := by unfold stx; rw [o 0 (by decide) (by decide), o 1 (by decide) (by decide)]
            have e2 : ∀ x, frm (rmK K g) r t x = frm K r t x := fun x => by unfold frm; rw [o 1 (by decide) (by decide)]
            have e3 : ∀ x, lnx (rmK K g) r x = lnx K r x := fun x => by unfold lnx; rw [o 3 (by decide) (by decide)]
            rw [e1, f1]
            have hm : (stx K r).map id = stx K r := List.map_id _
            conv => rhs; rw [← hm]
            refine gf_rel (f := id) (stx K r) _ _ (fun x hx => ?_) (gf_rel (pts s) _ _ (fun x hx => ?_) rfl)
            · have hB : (Bt (rmK K g) (r + 1) (frm (rmK K g) r t x) s).1 = (Bt K (r + 1) (frm K r t x) (phi g s)).1 := by rw [e2]; exact ihd (r + 1) (frm K r t x) (by omega) (by omega) s h0 hs
              refine ⟨?_, ?_⟩
              · simp only [hB, id]
              · show (Bt (rmK K g) (r + 1) (frm (rmK K g) r t x) s).1 + lnx (rmK K g) r x * (rmK K g 2 0 + amtK (rmK K g) s) = (Bt K (r + 1) (frm K r t x) (phi g s)).1 + lnx K r x * (K 2 0 + amtK K (phi g s))
                rw [hB, e3, o 2 (by decide) (by decide), amt_phi hg h7 (p64 s hs)]
            · obtain ⟨y1, y2, y3⟩ := f2 x hx
              rw [y1, ih x (by omega) y2 (by omega), ih (s - x) (by omega) (by omega) (by omega)]
              exact ⟨rfl, rfl⟩
        · rw [Bt_rock (by rw [o 0 (by decide) (by decide)]; exact hr) (by rw [o 9 (by decide) (by decide)]; exact hk), Bt_rock hr hk]
    exact fun s h0 hs => key (s + 1) s (by omega) h0 hs
end PLS
