/-! THE EXCHANGE: in the chosen derivation of a set at a cell no cell is visited twice. Masks are numbers; 'sb a b': a within b. (A draft, not compiled yet.) -/
section EXC
def sb (a b : Nat) : Prop := a &&& b = a
def dj (a b : Nat) : Prop := a &&& b = 0
/-- what a choice says: 0 a place of its own, 1 the part x and the rest, 2 a step from the cell x of that length -/
abbrev zCh : Type := Nat → Nat → Nat × Nat × Nat
def fol (ch : zCh) : Nat → Nat → Nat → List (Nat × Nat × Nat)
  | 0, _, _ => []
  | n + 1, c, s =>
    if (ch c s).1 = 0 then []
    else if (ch c s).1 = 1 then fol ch n c (ch c s).2.1 ++ fol ch n c (s ^^^ (ch c s).2.1)
    else ((ch c s).2.1, s, (ch c s).2.2) :: (fol ch n (ch c s).2.1 s).map (fun q => (q.1, q.2.1, q.2.2 + (ch c s).2.2))
/-- what the table of the best says: Rc the places that come to a cell, B the least ink, amt the amounts, lv the ring -/
def zDP (Rc : Nat → Nat) (B : Nat → Nat → Nat) (amt : Nat → Nat) (base : Nat) (lv : Nat → Nat) (st : Nat → Nat → Nat → Prop) (ch : zCh) : Prop :=
  1 ≤ base ∧ amt 0 = 0 ∧ (∀ a b, dj a b → amt (a ||| b) = amt a + amt b) ∧
  (∀ c, B c 0 = 0) ∧
  (∀ c a b, dj a b → sb a (Rc c) → sb b (Rc c) → B c (a ||| b) ≤ B c a + B c b) ∧
  (∀ c x len s, st c x len → sb s (Rc x) → s ≠ 0 → sb s (Rc c) ∧ B c s ≤ B x s + len * (base + amt s)) ∧
  (∀ c x len, st c x len → 10 ≤ len ∧ lv x = lv c + 1) ∧
  (∀ c s, s ≠ 0 → sb s (Rc c) → (ch c s).1 = 0 ∨
    ((ch c s).1 = 1 ∧ (ch c s).2.1 ≠ 0 ∧ (ch c s).2.1 ≠ s ∧ sb (ch c s).2.1 s ∧ B c s = B c (ch c s).2.1 + B c (s ^^^ (ch c s).2.1)) ∨
    ((ch c s).1 = 2 ∧ st c (ch c s).2.1 (ch c s).2.2 ∧ sb s (Rc (ch c s).2.1) ∧ B c s = B (ch c s).2.1 s + (ch c s).2.2 * (base + amt s)))
theorem sb_iff {a b : Nat} : sb a b ↔ ∀ i, a.testBit i = true → b.testBit i = true := by
  unfold sb
  constructor
  · intro h i hi
    have := congrArg (fun z => Nat.testBit z i) h
    simp only [Nat.testBit_and] at this
    rw [hi] at this
    simpa using this
  · intro h
    apply Nat.eq_of_testBit_eq
    intro i
    rw [Nat.testBit_and]
    cases ha : a.testBit i
    · rfl
    · rw [h i ha]; rfl
theorem dj_iff {a b : Nat} : dj a b ↔ ∀ i, a.testBit i = true → b.testBit i = false := by
  unfold dj
  constructor
  · intro h i hi
    have := congrArg (fun z => Nat.testBit z i) h
    simp only [Nat.testBit_and, Nat.zero_testBit] at this
    rw [hi] at this
    simpa using this
  · intro h
    apply Nat.eq_of_testBit_eq
    intro i
    rw [Nat.testBit_and, Nat.zero_testBit]
    cases ha : a.testBit i
    · rfl
    · rw [h i ha]; rfl
theorem sb_tr {a b c : Nat} (h1 : sb a b) (h2 : sb b c) : sb a c := sb_iff.mpr fun i hi => sb_iff.mp h2 i (sb_iff.mp h1 i hi)
theorem sb_or {a b c : Nat} (h1 : sb a c) (h2 : sb b c) : sb (a ||| b) c := sb_iff.mpr fun i hi => by
  rw [Nat.testBit_or, Bool.or_eq_true] at hi
  exact hi.elim (sb_iff.mp h1 i) (sb_iff.mp h2 i)
theorem sb_orl {a b c : Nat} (h : sb (a ||| b) c) : sb a c := sb_iff.mpr fun i hi => sb_iff.mp h i (by rw [Nat.testBit_or, hi, Bool.true_or])
theorem sb_orr {a b c : Nat} (h : sb (a ||| b) c) : sb b c := sb_iff.mpr fun i hi => sb_iff.mp h i (by rw [Nat.testBit_or, hi, Bool.or_true])
theorem sb_rf (a : Nat) : sb a a := Nat.and_self a
theorem sb_xor {a s : Nat} (h : sb a s) : sb (s ^^^ a) s := sb_iff.mpr fun i hi => by
  have := sb_iff.mp h i
  rw [Nat.testBit_xor] at hi
  cases h1 : s.testBit i <;> cases h2 : a.testBit i <;> simp_all
theorem dj_sub {t s x : Nat} (h : dj t s) (hx : sb x s) : dj t x := dj_iff.mpr fun i hi => by
  have h1 := dj_iff.mp h i hi
  have h2 := sb_iff.mp hx i
  cases h3 : x.testBit i <;> simp_all
theorem dj_cm {a b : Nat} (h : dj a b) : dj b a := by unfold dj at *; rw [Nat.and_comm]; exact h
theorem dj_xor {a s : Nat} (h : sb a s) : dj a (s ^^^ a) := dj_iff.mpr fun i hi => by
  have h1 := sb_iff.mp h i hi
  rw [Nat.testBit_xor, hi, h1]; rfl
theorem or_xor {a s : Nat} (h : sb a s) : a ||| (s ^^^ a) = s := by
  apply Nat.eq_of_testBit_eq
  intro i
  have h1 := sb_iff.mp h i
  rw [Nat.testBit_or, Nat.testBit_xor]
  cases h2 : s.testBit i <;> cases h3 : a.testBit i <;> simp_all
theorem xor_xor {a s : Nat} : s ^^^ (s ^^^ a) = a := by
  apply Nat.eq_of_testBit_eq
  intro i
  rw [Nat.testBit_xor, Nat.testBit_xor]
  cases s.testBit i <;> cases a.testBit i <;> rfl
/-- s without T, T in the part x -/
theorem cut_eq {s x t : Nat} (hx : sb x s) (ht : sb t x) : s ^^^ t = (x ^^^ t) ||| (s ^^^ x) := by
  apply Nat.eq_of_testBit_eq
  intro i
  have h1 := sb_iff.mp hx i
  have h2 := sb_iff.mp ht i
  rw [Nat.testBit_or, Nat.testBit_xor, Nat.testBit_xor, Nat.testBit_xor]
  cases h3 : s.testBit i <;> cases h4 : x.testBit i <;> cases h5 : t.testBit i <;> simp_all
theorem cut_dj {s x t : Nat} (hx : sb x s) (ht : sb t x) : dj (x ^^^ t) (s ^^^ x) := dj_sub (dj_cm (dj_sub (dj_cm (dj_xor hx)) (sb_xor ht))) (sb_rf _)
theorem add_eq {s x t : Nat} (hx : sb x s) : s ||| t = (x ||| t) ||| (s ^^^ x) := by
  apply Nat.eq_of_testBit_eq
  intro i
  have h1 := sb_iff.mp hx i
  rw [Nat.testBit_or, Nat.testBit_or, Nat.testBit_or, Nat.testBit_xor]
  cases h3 : s.testBit i <;> cases h4 : x.testBit i <;> cases h5 : t.testBit i <;> simp_all
theorem add_dj {s x t : Nat} (hx : sb x s) (ht : dj t s) : dj (x ||| t) (s ^^^ x) := dj_iff.mpr fun i hi => by
  have h1 := sb_iff.mp hx i
  have h2 := dj_iff.mp ht i
  rw [Nat.testBit_or] at hi
  rw [Nat.testBit_xor]
  cases h3 : s.testBit i <;> cases h4 : x.testBit i <;> cases h5 : t.testBit i <;> simp_all
/-- one part with T of the other, and what is left of the other: together all -/
theorem swp_eq {s x t : Nat} (hx : sb x s) (ht : sb t (s ^^^ x)) : (x ||| t) ||| ((s ^^^ x) ^^^ t) = s := by
  apply Nat.eq_of_testBit_eq
  intro i
  have h1 := sb_iff.mp hx i
  have h2 := sb_iff.mp ht i
  rw [Nat.testBit_xor] at h2
  rw [Nat.testBit_or, Nat.testBit_or, Nat.testBit_xor, Nat.testBit_xor]
  cases h3 : s.testBit i <;> cases h4 : x.testBit i <;> cases h5 : t.testBit i <;> simp_all
theorem swp_dj {s x t : Nat} (hx : sb x s) (ht : sb t (s ^^^ x)) : dj (x ||| t) ((s ^^^ x) ^^^ t) := dj_iff.mpr fun i hi => by
  have h1 := sb_iff.mp hx i
  have h2 := sb_iff.mp ht i
  rw [Nat.testBit_xor] at h2
  rw [Nat.testBit_or] at hi
  rw [Nat.testBit_xor, Nat.testBit_xor]
  cases h3 : s.testBit i <;> cases h4 : x.testBit i <;> cases h5 : t.testBit i <;> simp_all
/-- what is said of an entry (y, T, L) of a derivation of s at c -/
def zEnt (Rc : Nat → Nat) (B : Nat → Nat → Nat) (amt : Nat → Nat) (base : Nat) (lv : Nat → Nat) (c s : Nat) (q : Nat × Nat × Nat) : Prop :=
  q.2.1 ≠ 0 ∧ sb q.2.1 s ∧ sb q.2.1 (Rc q.1) ∧ lv c < lv q.1 ∧
    B c (s ^^^ q.2.1) + B q.1 q.2.1 + amt q.2.1 * q.2.2 + 10 * base ≤ B c s ∧
    ∀ t, dj t s → sb t (Rc q.1) → sb t (Rc c) ∧ B c (s ||| t) ≤ B c s + B q.1 t + amt t * q.2.2
theorem zEnt_part {Rc : Nat → Nat} {B : Nat → Nat → Nat} {amt : Nat → Nat} {base : Nat} {lv : Nat → Nat} {c s x : Nat} {q : Nat × Nat × Nat} (hsplit : ∀ c a b, dj a b → sb a (Rc c) → sb b (Rc c) → B c (a ||| b) ≤ B c a + B c b) (hsr : sb s (Rc c)) (hx : sb x s) (hB : B c s = B c x + B c (s ^^^ x)) (h : zEnt Rc B amt base lv c x q) : zEnt Rc B amt base lv c s q := by
  obtain ⟨g1, g2, g3, g4, g5, g6⟩ := h
  refine ⟨g1, sb_tr g2 hx, g3, g4, ?_, fun t ht htr => ?_⟩
  · have k := hsplit c (x ^^^ q.2.1) (s ^^^ x) (cut_dj hx g2) (sb_tr (sb_xor g2) (sb_tr hx hsr)) (sb_tr (sb_xor hx) hsr)
    rw [← cut_eq hx g2] at k
    omega
  · obtain ⟨k1, k2⟩ := g6 t (dj_sub ht hx) htr
    have k := hsplit c (x ||| t) (s ^^^ x) (add_dj hx ht) (sb_or (sb_tr hx hsr) k1) (sb_tr (sb_xor hx) hsr)
    rw [← add_eq hx] at k
    exact ⟨k1, by omega⟩
theorem fol_entry {Rc : Nat → Nat} {B : Nat → Nat → Nat} {amt : Nat → Nat} {base : Nat} {lv : Nat → Nat} {st : Nat → Nat → Nat → Prop} {ch : zCh} (P : zDP Rc B amt base lv st ch) : ∀ (n c s : Nat), s ≠ 0 → sb s (Rc c) → ∀ q ∈ fol ch n c s, zEnt Rc B amt base lv c s q := by
  obtain ⟨hb, ha0, hadd, hB0, hsplit, hstep, hlen, hch⟩ := P
  intro n
  induction n with
  | zero => intro c s _ _ q hq; exact absurd hq List.not_mem_nil
  | succ n ih =>
    intro c s hs hsr q hq
    unfold fol at hq
    rcases hch c s hs hsr with h0 | ⟨h1, hx0, hxs, hxsub, hBx⟩ | ⟨h2, hst, hsx, hBx⟩
    · rw [if_pos h0] at hq; exact absurd hq List.not_mem_nil
    · rw [if_neg (by omega), if_pos h1] at hq
      generalize (ch c s).2.1 = x at *
      rcases List.mem_append.mp hq with hq | hq
      · exact zEnt_part hsplit hsr hxsub hBx (ih c x hx0 (sb_tr hxsub hsr) q hq)
      · have hy0 : s ^^^ x ≠ 0 := fun e => hxs (by have := or_xor hxsub; rw [e, Nat.or_zero] at this; exact this)
        exact zEnt_part hsplit hsr (sb_xor hxsub) (by rw [xor_xor]; omega) (ih c (s ^^^ x) hy0 (sb_tr (sb_xor hxsub) hsr) q hq)
    · rw [if_neg (by omega), if_neg (by omega)] at hq
      generalize (ch c s).2.1 = x at *
      generalize (ch c s).2.2 = len at *
      obtain ⟨hl10, hlv⟩ := hlen c x len hst
      have hm : 10 * base ≤ len * base := Nat.mul_le_mul_right base hl10
      have hBx' : B c s = B x s + (len * base + len * amt s) := by rw [hBx, Nat.mul_add]
      rcases List.mem_cons.mp hq with rfl | hq
      · refine ⟨hs, sb_rf s, hsx, by show lv c < lv x; omega, ?_, fun t ht htr => ?_⟩
        · show B c (s ^^^ s) + B x s + amt s * len + 10 * base ≤ B c s
          rw [Nat.xor_self, hB0, hBx', Nat.mul_comm (amt s) len]; omega
        · have htr' : sb t (Rc x) := htr
          obtain ⟨k1, k2⟩ := hstep c x len (s ||| t) hst (sb_or hsx htr') (fun e => hs (by have : sb s 0 := e ▸ sb_orl (sb_rf (s ||| t)); simpa [sb] using this.symm))
          have k3 := hsplit x s t (dj_cm ht) hsx htr'
          rw [hadd s t (dj_cm ht), Nat.mul_add, Nat.mul_add] at k2
          exact ⟨sb_orr k1, by show B c (s ||| t) ≤ B c s + B x t + amt t * len; rw [hBx', Nat.mul_comm (amt t) len]; omega⟩
      · obtain ⟨q', hq', rfl⟩ := List.mem_map.mp hq
        obtain ⟨g1, g2, g3, g4, g5, g6⟩ := ih x s hs hsx q' hq'
        have hamt : amt s = amt q'.2.1 + amt (s ^^^ q'.2.1) := by
          have := hadd q'.2.1 (s ^^^ q'.2.1) (dj_xor g2)
          rw [or_xor g2] at this; exact this
        refine ⟨g1, g2, g3, by show lv c < lv q'.1; omega, ?_, fun t ht htr => ?_⟩
        · show B c (s ^^^ q'.2.1) + B q'.1 q'.2.1 + amt q'.2.1 * (q'.2.2 + len) + 10 * base ≤ B c s
          rw [hBx', Nat.mul_add (amt q'.2.1), hamt, Nat.mul_add len, Nat.mul_comm (amt q'.2.1) len]
          by_cases hz : s ^^^ q'.2.1 = 0
          · rw [hz] at g5 ⊢
            rw [hB0] at g5 ⊢
            omega
          · have k := (hstep c x len (s ^^^ q'.2.1) hst (sb_tr (sb_xor g2) hsx) hz).2
            rw [Nat.mul_add] at k
            omega
        · obtain ⟨k1, k2⟩ := g6 t ht htr
          obtain ⟨k3, k4⟩ := hstep c x len (s ||| t) hst (sb_or hsx k1) (fun e => hs (by have : sb s 0 := e ▸ sb_orl (sb_rf (s ||| t)); simpa [sb] using this.symm))
          rw [hadd s t (dj_cm ht), Nat.mul_add, Nat.mul_add] at k4
          exact ⟨sb_orr k3, by show B c (s ||| t) ≤ B c s + B q'.1 t + amt t * (q'.2.2 + len); rw [hBx', Nat.mul_add, Nat.mul_comm (amt t) len]; omega⟩
theorem fol_nodup {Rc : Nat → Nat} {B : Nat → Nat → Nat} {amt : Nat → Nat} {base : Nat} {lv : Nat → Nat} {st : Nat → Nat → Nat → Prop} {ch : zCh} (P : zDP Rc B amt base lv st ch) : ∀ (n c s : Nat), s ≠ 0 → sb s (Rc c) → ((fol ch n c s).map (fun q => q.1)).Nodup := by
  have hE := fol_entry P
  obtain ⟨hb, ha0, hadd, hB0, hsplit, hstep, hlen, hch⟩ := P
  intro n
  induction n with
  | zero => intro c s _ _; exact List.nodup_nil
  | succ n ih =>
    intro c s hs hsr
    unfold fol
    rcases hch c s hs hsr with h0 | ⟨h1, hx0, hxs, hxsub, hBx⟩ | ⟨h2, hst, hsx, hBx⟩
    · rw [if_pos h0]; exact List.nodup_nil
    · rw [if_neg (by omega), if_pos h1]
      generalize (ch c s).2.1 = x at *
      have hy0 : s ^^^ x ≠ 0 := fun e => hxs (by have := or_xor hxsub; rw [e, Nat.or_zero] at this; exact this)
      have hxr := sb_tr hxsub hsr
      have hyr := sb_tr (sb_xor hxsub) hsr
      rw [List.map_append]
      refine List.nodup_append.mpr ⟨ih c x hx0 hxr, ih c (s ^^^ x) hy0 hyr, ?_⟩
      intro a ha b hb' hab
      obtain ⟨q1, hq1, rfl⟩ := List.mem_map.mp ha
      obtain ⟨q2, hq2, hq2e⟩ := List.mem_map.mp hb'
      obtain ⟨g1, g2, g3, g4, g5, g6⟩ := hE n c x hx0 hxr q1 hq1
      obtain ⟨f1, f2, f3, f4, f5, f6⟩ := hE n c (s ^^^ x) hy0 hyr q2 hq2
      have hyy : q1.1 = q2.1 := hab.trans hq2e.symm
      rcases Nat.le_total q1.2.2 q2.2.2 with hL | hL
      · obtain ⟨k1, k2⟩ := g6 q2.2.1 (dj_cm (dj_sub (dj_xor hxsub) f2)) (by rw [hyy]; exact f3)
        have k := hsplit c (x ||| q2.2.1) ((s ^^^ x) ^^^ q2.2.1) (swp_dj hxsub f2) (sb_or hxr k1) (sb_tr (sb_xor f2) hyr)
        rw [swp_eq hxsub f2] at k
        have hm := Nat.mul_le_mul_left (amt q2.2.1) hL
        rw [hyy] at k2
        omega
      · obtain ⟨k1, k2⟩ := f6 q1.2.1 (dj_sub (dj_cm (dj_sub (dj_cm (dj_xor hxsub)) g2)) (sb_rf _)) (by rw [← hyy]; exact g3)
        have hx' : sb (s ^^^ x) s := sb_xor hxsub
        have e1 : s ^^^ (s ^^^ x) = x := xor_xor
        have g2' : sb q1.2.1 (s ^^^ (s ^^^ x)) := by rw [e1]; exact g2
        have k := hsplit c ((s ^^^ x) ||| q1.2.1) ((s ^^^ (s ^^^ x)) ^^^ q1.2.1) (swp_dj hx' g2') (sb_or hyr k1) (by rw [e1]; exact sb_tr (sb_xor g2) hxr)
        rw [swp_eq hx' g2', e1] at k
        have hm := Nat.mul_le_mul_left (amt q1.2.1) hL
        rw [← hyy] at k2
        omega
    · rw [if_neg (by omega), if_neg (by omega)]
      generalize (ch c s).2.1 = x at *
      generalize (ch c s).2.2 = len at *
      rw [List.map_cons, List.map_map]
      refine List.nodup_cons.mpr ⟨?_, ih x s hs hsx⟩
      intro hm
      obtain ⟨q, hq, hqe⟩ := List.mem_map.mp hm
      have := (hE n x s hs hsx q hq).2.2.2.1
      have hqe : q.1 = x := hqe
      rw [hqe] at this
      omega
end EXC
