/-! the text: charts that are being told, numbers of both -/
section NUM
abbrev zQ : Type := Nat × Nat × Nat
/-- places told, the last one first -/
def PL : List zQ → Nat → Nat → Nat
  | [] => fun _ _ => 0
  | q :: qs => insK (PL qs) (psK (PL qs) q.1 q.2.1 (PL qs 5 0)) q.1 q.2.1 q.2.2
def mkK (R N b d h : Nat) (rk : Nat → Nat) (Q : Nat → Nat → Nat) : Nat → Nat → Nat := fun k j => if k = 0 then R else if k = 1 then N else if k = 2 then b else if k = 3 then d else if k = 4 then h else if k = 9 then rk j else Q k j
def chP (R N b d h : Nat) (rk : Nat → Nat) (pl : List zQ) : Nat → Nat → Nat := mkK R N b d h rk (PL pl)
theorem PL_len : ∀ pl : List zQ, PL pl 5 0 = pl.length := by
  intro pl
  induction pl with
  | nil => rfl
  | cons q qs ih => rw [PL, ins_5, ih, List.length_cons]
theorem ps_cg {K K' : Nat → Nat → Nat} {r t : Nat} : ∀ n, (∀ j, j < n → K 6 j = K' 6 j ∧ K 7 j = K' 7 j) → psK K r t n = psK K' r t n := by
  intro n
  induction n with
  | zero => intro _; rfl
  | succ n ih => intro h; rw [psK, psK, ih fun j hj => h j (by omega), (h n (by omega)).1, (h n (by omega)).2]
theorem chP_5 (R N b d h : Nat) (rk : Nat → Nat) (pl : List zQ) : chP R N b d h rk pl 5 0 = pl.length := PL_len pl
theorem chP_r (R N b d h : Nat) (rk : Nat → Nat) (pl : List zQ) {k : Nat} (h6 : 6 ≤ k) (h8 : k ≤ 8) (j : Nat) : chP R N b d h rk pl k j = PL pl k j := by
  unfold chP mkK
  rw [if_neg (by omega), if_neg (by omega), if_neg (by omega), if_neg (by omega), if_neg (by omega), if_neg (by omega)]
theorem chP_cons (R N b d h : Nat) (rk : Nat → Nat) (q : zQ) (pl : List zQ) : chP R N b d h rk (q :: pl) = insK (chP R N b d h rk pl) (psK (chP R N b d h rk pl) q.1 q.2.1 pl.length) q.1 q.2.1 q.2.2 := by
  have hps : psK (chP R N b d h rk pl) q.1 q.2.1 pl.length = psK (PL pl) q.1 q.2.1 (PL pl 5 0) := by
    rw [PL_len]
    exact ps_cg _ fun j _ => ⟨chP_r R N b d h rk pl (by decide) (by decide) j, chP_r R N b d h rk pl (by decide) (by decide) j⟩
  rw [hps]
  funext k j
  by_cases e5 : k = 5
  · rw [e5, ins_5]
    show PL (q :: pl) 5 j = PL pl 5 j + 1
    rw [PL, ins_5]
  · by_cases e6 : 6 ≤ k ∧ k ≤ 8
    · rw [chP_r R N b d h rk (q :: pl) e6.1 e6.2, ins_r _ _ _ _ _ e6.1 e6.2, chP_r R N b d h rk pl e6.1 e6.2, chP_r R N b d h rk pl e6.1 e6.2, PL, ins_r _ _ _ _ _ e6.1 e6.2]
    · rw [ins_o _ _ _ _ _ e5 (by omega)]
      unfold chP mkK
      by_cases z : k ≤ 4 ∨ k = 9
      · have : k = 0 ∨ k = 1 ∨ k = 2 ∨ k = 3 ∨ k = 4 ∨ k = 9 := by omega
        rcases this with rfl | rfl | rfl | rfl | rfl | rfl <;> rfl
      · rw [if_neg (by omega), if_neg (by omega), if_neg (by omega), if_neg (by omega), if_neg (by omega), if_neg (by omega), if_neg (by omega), if_neg (by omega), if_neg (by omega), if_neg (by omega), if_neg (by omega), if_neg (by omega), PL, ins_o _ _ _ _ _ e5 (by omega)]
theorem ins_mem {K : Nat → Nat → Nat} {pos r t a r' t' : Nat} (hp : pos ≤ K 5 0) : (∃ j, j < K 5 0 + 1 ∧ insK K pos r t a 6 j = r' ∧ insK K pos r t a 7 j = t') ↔ ((r = r' ∧ t = t') ∨ ∃ j, j < K 5 0 ∧ K 6 j = r' ∧ K 7 j = t') := by
  have h6 := fun j => ins_r K pos r t a (k := 6) (by decide) (by decide) j
  have h7 := fun j => ins_r K pos r t a (k := 7) (by decide) (by decide) j
  constructor
  · rintro ⟨j, h1, h2, h3⟩
    rw [h6] at h2
    rw [h7] at h3
    by_cases z : j < pos
    · rw [if_pos z] at h2 h3; exact Or.inr ⟨j, by omega, h2, h3⟩
    · rw [if_neg z] at h2 h3
      by_cases y : j = pos
      · rw [if_pos y] at h2 h3; exact Or.inl ⟨h2, h3⟩
      · rw [if_neg y] at h2 h3; exact Or.inr ⟨j - 1, by omega, h2, h3⟩
  · rintro (⟨h1, h2⟩ | ⟨j, h1, h2, h3⟩)
    · refine ⟨pos, by omega, ?_, ?_⟩
      · rw [h6, if_neg (by omega), if_pos rfl]; exact h1
      · rw [h7, if_neg (by omega), if_pos rfl]; exact h2
    · by_cases z : j < pos
      · exact ⟨j, by omega, by rw [h6, if_pos z]; exact h2, by rw [h7, if_pos z]; exact h3⟩
      · exact ⟨j + 1, by omega, by rw [h6, if_neg (by omega), if_neg (by omega)]; exact h2, by rw [h7, if_neg (by omega), if_neg (by omega)]; exact h3⟩
def inP (pl : List zQ) (r t : Nat) : Prop := ∃ q, q ∈ pl ∧ q.1 = r ∧ q.2.1 = t
theorem inP_iff (R N b d h : Nat) (rk : Nat → Nat) (r t : Nat) : ∀ pl : List zQ, (∃ j, j < pl.length ∧ chP R N b d h rk pl 6 j = r ∧ chP R N b d h rk pl 7 j = t) ↔ inP pl r t := by
  intro pl
  induction pl with
  | nil => exact ⟨fun ⟨j, hj, _⟩ => absurd hj (Nat.not_lt_zero _), fun ⟨q, hq, _⟩ => absurd hq List.not_mem_nil⟩
  | cons q qs ih =>
    have h5 := chP_5 R N b d h rk qs
    have hm := ins_mem (K := chP R N b d h rk qs) (pos := psK (chP R N b d h rk qs) q.1 q.2.1 qs.length) (r := q.1) (t := q.2.1) (a := q.2.2) (r' := r) (t' := t) (by rw [h5]; exact (ps_le _ _ _ _).1)
    rw [h5] at hm
    rw [chP_cons, List.length_cons, hm, ih]
    constructor
    · rintro (⟨z1, z2⟩ | ⟨q', z1, z2, z3⟩)
      · exact ⟨q, List.mem_cons_self, z1, z2⟩
      · exact ⟨q', List.mem_cons_of_mem _ z1, z2, z3⟩
    · rintro ⟨q', z1, z2, z3⟩
      rcases List.mem_cons.mp z1 with e | z1
      · rw [e] at z2 z3; exact Or.inl ⟨z2, z3⟩
      · exact Or.inr ⟨q', z1, z2, z3⟩
/-- places that may be told -/
def plOK (R N : Nat) : List zQ → Prop
  | [] => True
  | q :: qs => plOK R N qs ∧ 1 ≤ q.1 ∧ q.1 ≤ R ∧ q.2.1 < N ∧ 1 ≤ q.2.2 ∧ q.2.2 ≤ 99 ∧ ¬ inP qs q.1 q.2.1
def bdK (R N b d h : Nat) : Prop := 2 ≤ R ∧ R ≤ 9 ∧ 6 ≤ N ∧ N ≤ 24 ∧ 1 ≤ b ∧ b ≤ 99 ∧ d ≤ 40 ∧ h ≤ 6
def rkOK (R N : Nat) (rk : Nat → Nat) (pl : List zQ) : Prop := (∀ c, rk c ≤ 1) ∧ (∀ c, rk c = 1 → 24 ≤ c ∧ c / 24 ≤ R ∧ c % 24 < N) ∧ ∀ q, q ∈ pl → rk (24 * q.1 + q.2.1) = 0
theorem chP_wf {R N b d h : Nat} {rk : Nat → Nat} (hb : bdK R N b d h) : ∀ pl : List zQ, pl.length ≤ 7 → plOK R N pl → rkOK R N rk pl → wfK (chP R N b d h rk pl) := by
  obtain ⟨b1, b2, b3, b4, b5, b6, b7, b8⟩ := hb
  intro pl
  induction pl with
  | nil =>
    intro _ _ hr
    refine ⟨⟨b1, b2, b3, b4, b5, b6, b7, b8, Nat.zero_le _⟩, fun p hp => absurd hp (Nat.not_lt_zero _), fun p q _ hq => absurd hq (Nat.not_lt_zero _), fun c => hr.1 c, fun c hc => hr.2.1 c hc⟩
  | cons q qs ih =>
    intro hl hp hr
    obtain ⟨p0, p1, p2, p3, p4, p5, p6⟩ := hp
    rw [List.length_cons] at hl
    have hw := ih (by omega) p0 ⟨hr.1, hr.2.1, fun q' hq' => hr.2.2 q' (List.mem_cons_of_mem _ hq')⟩
    have h5 := chP_5 R N b d h rk qs
    rw [chP_cons]
    obtain ⟨s1, s2, s3⟩ := ps_le (chP R N b d h rk qs) q.1 q.2.1 qs.length
    refine ins_wf hw (by omega) p1 p2 p3 p4 p5 (hr.2.2 q List.mem_cons_self) (fun j hj z => p6 ((inP_iff R N b d h rk _ _ qs).mp ⟨j, by rw [h5] at hj; exact hj, z⟩)) (by rw [h5]; exact s1) (fun j h1 h2 => s2 j h1 (by rw [h5] at h2; exact h2)) ?_
    have := ps_all hw (r := q.1) (t := q.2.1)
    rw [h5] at this
    exact this
/-! numbers -/
def prC (S : Nat → Nat → Int32) (y : Nat → Nat) (n p : Nat) : Prop := bytC S y n ∧ p ≤ n ∧ S 3 0 = nI p ∧ S 7 0 = 0
def tokM (M : Nat → Nat → Int32) (y : Nat → Nat) (n p : Nat) : Prop := bytM M y n ∧ p ≤ n ∧ M 16 0 = nI (tkK y n p) ∧ M 14 0 = nI (skp y n p) ∧ (tkK y n p ≠ 4 → M 15 0 = nI (tkE y n p)) ∧ (tkK y n p = 2 → M 17 0 = nI (tkV y n p)) ∧ M 18 0 = 0
theorem tk_lt {y : Nat → Nat} {n p : Nat} (hp : p ≤ n) : tkK y n p < 5 ∧ p ≤ skp y n p ∧ skp y n p ≤ n ∧ skp y n p ≤ tkE y n p ∧ tkE y n p ≤ n ∧ (tkK y n p ≠ 0 → p < tkE y n p) ∧ (tkK y n p = 2 → tkV y n p ≤ 999) := by
  obtain ⟨s1, s2, _, _⟩ := fst_sp (P := fun i => decide (¬ isB (y i))) hp
  have hsd : fstp (fun i => decide (¬ isB (y i))) (n - p) p = skp y n p := rfl
  rw [hsd] at s1 s2
  unfold tkK tkE tkV
  by_cases e : n ≤ skp y n p
  · rw [if_pos e, if_pos e]
    exact ⟨by decide, s1, s2, Nat.le_refl _, s2, fun z => absurd rfl z, fun z => absurd z (by decide)⟩
  · rw [if_neg e, if_neg e]
    by_cases hL : isL (y (skp y n p))
    · obtain ⟨f1, f2, f3, f4⟩ := fst_sp (P := fun i => decide (¬ isL (y i))) (show skp y n p ≤ n from s2)
      have hde : fstp (fun i => decide (¬ isL (y i))) (n - skp y n p) (skp y n p) = wen y n (skp y n p) := rfl
      rw [hde] at f1 f2 f3 f4
      rw [if_pos hL, if_pos hL]
      refine ⟨by decide, s1, s2, f1, f2, fun _ => ?_, fun z => absurd z (by decide)⟩
      rcases Nat.lt_or_ge (skp y n p) (wen y n (skp y n p)) with q | q
      · omega
      · have hq : wen y n (skp y n p) = skp y n p := by omega
        have := of_decide_eq_true (f4 (by omega))
        rw [hq] at this; exact absurd hL this
    · rw [if_neg hL, if_neg hL]
      by_cases hD : isD (y (skp y n p))
      · obtain ⟨f1, f2, f3, f4⟩ := fst_sp (P := fun i => decide (¬ isD (y i))) (show skp y n p ≤ n from s2)
        have hde : fstp (fun i => decide (¬ isD (y i))) (n - skp y n p) (skp y n p) = den y n (skp y n p) := rfl
        rw [hde] at f1 f2 f3 f4
        have hlt : skp y n p < den y n (skp y n p) := by
          rcases Nat.lt_or_ge (skp y n p) (den y n (skp y n p)) with q | q
          · exact q
          · have hq : den y n (skp y n p) = skp y n p := by omega
            have := of_decide_eq_true (f4 (by omega))
            rw [hq] at this; exact absurd hD this
        rw [if_pos hD, if_pos hD]
        refine ⟨by split <;> decide, s1, s2, f1, f2, fun _ => by omega, fun _ => ?_⟩
        exact (vls_le y _ _ fun i hi => (Decidable.of_not_not (of_decide_eq_false (f3 _ (by omega) (by omega)))).2).1
      · rw [if_neg hD, if_neg hD]
        refine ⟨by split <;> decide, s1, s2, by omega, by omega, fun _ => by omega, fun z => ?_⟩
        split at z <;> omega
abbrev nOK (y : Nat → Nat) (n p lo hi : Nat) : Prop := tkK y n p = 2 ∧ lo ≤ tkV y n p ∧ tkV y n p ≤ hi
def nFl (y : Nat → Nat) (n p : Nat) : Nat := 8 * skp y n p + (if tkK y n p = 2 then 2 else 1)
theorem bytC_fr {S S' : Nat → Nat → Int32} {y : Nat → Nat} {n : Nat} (h1 : S' 1 = S 1) (h2 : S' 2 = S 2) (h : bytC S y n) : bytC S' y n := by
  unfold bytC; rw [h1, h2]; exact h
theorem e_fail {S : Nat → Nat → Int32} {s k : Nat} (h7 : S 7 0 = 0) (h5 : S 5 0 = nI s) : f_X4_fail S (nI k) = some (zst S 7 0 (nI (8 * s + k))) := by
  unfold f_X4_fail
  rw [if_pos h7, zlet_eq, h5, l_8, pk_mul, nI_add]
theorem e_readNumber {S : Nat → Nat → Int32} {y : Nat → Nat} {n p lo hi : Nat} (hS : prC S y n p) (hlo : lo < 2 ^ 31) (hhi : hi < 2 ^ 31) : ∃ v S', f_X4_readNumber S (nI lo) (nI hi) = some (v, S') ∧ (nOK y n p lo hi → v = nI (tkV y n p) ∧ prC S' y n (tkE y n p) ∧ S' 5 0 = nI (skp y n p)) ∧ (¬ nOK y n p lo hi → S' 7 0 = nI (nFl y n p)) ∧ ∀ k, k < 3 → S' k = S k := by
  obtain ⟨hB, hp, h3, h7⟩ := hS
  obtain ⟨S1, e1, t4, t5, t3, t6, to⟩ := e_readToken hB hp h3
  obtain ⟨k1, k2, k3, k4, k5, k6, k7⟩ := tk_lt (y := y) hp
  have h71 : S1 7 0 = 0 := by rw [to 7 (by omega)]; exact h7
  unfold f_X4_readNumber
  rw [if_pos h7, e1, Option.bind_some]
  by_cases e : tkK y n p = 2
  · rw [if_pos (show S1 4 0 = 2 by rw [t4, e]; rfl), t6 e, e_isWithin, Option.bind_some]
    by_cases q : lo ≤ tkV y n p ∧ tkV y n p ≤ hi
    · rw [if_pos (show nI lo ≤ nI (tkV y n p) ∧ nI (tkV y n p) ≤ nI hi from ⟨nI_le q.1 (by have := k7 e; omega), nI_le q.2 hhi⟩), if_neg (show ¬ (1 : Int32) = 0 by decide)]
      refine ⟨_, S1, rfl, fun _ => ⟨rfl, ⟨bytC_fr (to 1 (by omega)) (to 2 (by omega)) hB, k5, t3 (by omega), h71⟩, t5⟩, fun z => absurd ⟨e, q⟩ z, fun k hk => to k (by omega)⟩
    · have hv := k7 e
      rw [if_neg (show ¬ (nI lo ≤ nI (tkV y n p) ∧ nI (tkV y n p) ≤ nI hi) from fun z => q ⟨(nI_leI hlo (by omega)).mp z.1, (nI_leI (by omega) hhi).mp z.2⟩), if_pos rfl]
      rw [show (2 : Int32) = nI 2 from rfl, e_fail h71 t5, Option.bind_some]
      exact ⟨_, _, rfl, fun z => absurd z.2 q, fun _ => by rw [zst_same]; unfold nFl; rw [if_pos e], fun k hk => by rw [zst_ne _ (by omega)]; exact to k (by omega)⟩
  · rw [if_neg (show ¬ S1 4 0 = 2 by rw [t4]; exact fun z => e ((nq2 (by omega)).mp z)), show (1 : Int32) = nI 1 from rfl, e_fail h71 t5, Option.bind_some]
    exact ⟨_, _, rfl, fun z => absurd z.1 e, fun _ => by rw [zst_same]; unfold nFl; rw [if_neg e], fun k hk => by rw [zst_ne _ (by omega)]; exact to k (by omega)⟩
theorem e_bad {M : Nat → Nat → Int32} {s k : Nat} (h : M 18 0 = 0) : f_X7_bad M (nI k) (nI s) = some (0, zst M 18 0 (nI (8 * s + k))) := by
  unfold f_X7_bad f_X7_bad_J21
  rw [if_pos h, zlet_eq, l_8, pk_mul, nI_add]
theorem e_isNumberM {M : Nat → Nat → Int32} {y : Nat → Nat} {n p lo hi : Nat} (hT : tokM M y n p) (hlo : lo < 2 ^ 31) (hhi : hi < 2 ^ 31) : (nOK y n p lo hi → f_X7_isNumber M (nI lo) (nI hi) = some (1, zst M 25 0 (nI (tkV y n p)))) ∧ (¬ nOK y n p lo hi → ∃ M', f_X7_isNumber M (nI lo) (nI hi) = some (0, M') ∧ M' 18 0 = nI (nFl y n p) ∧ ∀ k, k ≠ 18 → k ≠ 25 → M' k = M k) := by
  obtain ⟨hB, hp, t16, t14, t15, t17, t18⟩ := hT
  obtain ⟨k1, k2, k3, k4, k5, k6, k7⟩ := tk_lt (y := y) hp
  unfold f_X7_isNumber
  by_cases e : tkK y n p = 2
  · have hv := k7 e
    rw [if_pos (show M 16 0 = 2 by rw [t16, e]; rfl), zlet_eq, t17 e, zst_ne _ (show (17 : Nat) ≠ 25 by decide), t17 e]
    unfold f_X7_within
    refine ⟨fun z => ?_, fun z => ?_⟩
    · rw [if_neg (nI_nlt z.2.1 (by omega)), if_neg (nI_nlt z.2.2 hhi), Option.bind_some, if_neg (show ¬ (1 : Int32) = 0 by decide)]
    · have hw : (if nI (tkV y n p) < nI lo then some 0 else if nI hi < nI (tkV y n p) then some 0 else some (1 : Int32)) = some 0 := by
        by_cases q : tkV y n p < lo
        · rw [if_pos (nI_lt q hlo)]
        · rw [if_neg (nI_nlt (by omega) (by omega)), if_pos (nI_lt (by
            rcases Nat.lt_or_ge hi (tkV y n p) with w | w
            · exact w
            · exact absurd ⟨e, by omega, w⟩ z) (by omega))]
      rw [hw, Option.bind_some, if_pos rfl, zst_ne _ (show (14 : Nat) ≠ 25 by decide), t14, show (2 : Int32) = nI 2 from rfl, e_bad (by rw [zst_ne _ (by decide)]; exact t18), Option.bind_some]
      refine ⟨zst (zst M 25 0 (nI (tkV y n p))) 18 0 (nI (8 * skp y n p + 2)), if_pos rfl, by rw [zst_same]; unfold nFl; rw [if_pos e], fun k h18 h25 => by rw [zst_ne _ h18, zst_ne _ h25]⟩
  · rw [if_neg (show ¬ M 16 0 = 2 by rw [t16]; exact fun z => e ((nq2 (by omega)).mp z)), t14, show (1 : Int32) = nI 1 from rfl, e_bad t18, Option.bind_some]
    refine ⟨fun z => absurd z.1 e, fun _ => ⟨zst M 18 0 (nI (8 * skp y n p + 1)), zbo_0, by rw [zst_same]; unfold nFl; rw [if_neg e], fun k h18 _ => by rw [zst_ne _ h18]⟩⟩
theorem e_goT {M : Nat → Nat → Int32} {y : Nat → Nat} {n p : Nat} (hB : bytM M y n) (hp : p ≤ n) (h15 : M 15 0 = nI p) (h18 : M 18 0 = 0) : ∃ M', f_X7_go M = some M' ∧ tokM M' y n p ∧ ∀ k, k < 14 ∨ 17 < k → M' k = M k := by
  obtain ⟨M', e1, t16, t14, t15, t17, to⟩ := e_goM hB hp h15
  exact ⟨M', e1, ⟨bytM_fr (to 11 (by omega)) (to 13 (by omega)) hB, hp, t16, t14, t15, t17, by rw [to 18 (by omega)]; exact h18⟩, to⟩
theorem e_numberM {M : Nat → Nat → Int32} {y : Nat → Nat} {n p lo hi : Nat} (hT : tokM M y n p) (hlo : lo < 2 ^ 31) (hhi : hi < 2 ^ 31) : (nOK y n p lo hi → ∃ M', f_X7_number M (nI lo) (nI hi) = some (1, M') ∧ tokM M' y n (tkE y n p) ∧ M' 25 0 = nI (tkV y n p) ∧ ∀ k, k < 14 ∨ (17 < k ∧ k ≠ 25) → M' k = M k) ∧ (¬ nOK y n p lo hi → ∃ M', f_X7_number M (nI lo) (nI hi) = some (0, M') ∧ M' 18 0 = nI (nFl y n p) ∧ ∀ k, k ≠ 18 → k ≠ 25 → M' k = M k) := by
  obtain ⟨i1, i2⟩ := e_isNumberM hT hlo hhi
  obtain ⟨hB, hp, t16, t14, t15, t17, t18⟩ := hT
  obtain ⟨k1, k2, k3, k4, k5, k6, k7⟩ := tk_lt (y := y) hp
  unfold f_X7_number
  refine ⟨fun z => ?_, fun z => ?_⟩
  · obtain ⟨M', e1, e2, e3⟩ := e_goT (M := zst M 25 0 (nI (tkV y n p))) (bytM_fr (by rw [zst_ne _ (by decide)]) (by rw [zst_ne _ (by decide)]) hB) k5 (by rw [zst_ne _ (by decide)]; exact t15 (by omega)) (by rw [zst_ne _ (by decide)]; exact t18)
    rw [i1 z, Option.bind_some, if_neg (show ¬ (1 : Int32) = 0 by decide)]
    dsimp only
    rw [e1, Option.bind_some]
    exact ⟨M', zbo_1, e2, by rw [e3 25 (by omega), zst_same], fun k hk => by rw [e3 k (by omega), zst_ne _ (by omega)]⟩
  · obtain ⟨M', e1, e2, e3⟩ := i2 z
    rw [e1, Option.bind_some, if_pos rfl]
    exact ⟨M', zbo_0, e2, e3⟩
end NUM
