/-! bits: ints of sets -/
section PBT
theorem zlet_eq {α β : Type} (a : α) (f : α → β) : zlet a f = f a := rfl
theorem l_0 : (0 : Int32) = nI 0 := rfl
theorem l_1 : (1 : Int32) = nI 1 := rfl
theorem l_2 : (2 : Int32) = nI 2 := rfl
theorem l_3 : (3 : Int32) = nI 3 := rfl
theorem l_4 : (4 : Int32) = nI 4 := rfl
theorem l_7 : (7 : Int32) = nI 7 := rfl
theorem l_8 : (8 : Int32) = nI 8 := rfl
theorem l_10 : (10 : Int32) = nI 10 := rfl
theorem l_14 : (14 : Int32) = nI 14 := rfl
theorem l_24 : (24 : Int32) = nI 24 := rfl
theorem l_128 : (128 : Int32) = nI 128 := rfl
theorem l_240 : (240 : Int32) = nI 240 := rfl
theorem l_far : (1000000000 : Int32) = nI 1000000000 := rfl
theorem l_top : (1073741824 : Int32) = nI 1073741824 := rfl
theorem nx_and (a b : Nat) : nI a &&& nI b = nI (a &&& b) := by
  apply Int32.toBitVec_inj.1
  show BitVec.ofNat 32 a &&& BitVec.ofNat 32 b = BitVec.ofNat 32 (a &&& b)
  apply BitVec.eq_of_getLsbD_eq
  intro i hi
  simp [hi]
theorem nx_or (a b : Nat) : nI a ||| nI b = nI (a ||| b) := by
  apply Int32.toBitVec_inj.1
  show BitVec.ofNat 32 a ||| BitVec.ofNat 32 b = BitVec.ofNat 32 (a ||| b)
  apply BitVec.eq_of_getLsbD_eq
  intro i hi
  simp [hi]
theorem nx_xor (a b : Nat) : nI a ^^^ nI b = nI (a ^^^ b) := by
  apply Int32.toBitVec_inj.1
  show BitVec.ofNat 32 a ^^^ BitVec.ofNat 32 b = BitVec.ofNat 32 (a ^^^ b)
  apply BitVec.eq_of_getLsbD_eq
  intro i hi
  simp [hi]
theorem b_subw {a b : Nat} (h : b ≤ 2 ^ 32) : nI a - nI b = nI (a + 2 ^ 32 - b) := by
  have e : nI a = nI (a + 2 ^ 32) := by
    rw [← nI_add, show nI (2 ^ 32) = 0 from rfl, Int32.add_zero]
  rw [e, pk_sub (by omega)]
theorem b_neg {a : Nat} (h : a ≤ 2 ^ 32) : -nI a = nI (2 ^ 32 - a) := by
  rw [← Int32.zero_sub, l_0, b_subw h, Nat.zero_add]
def lowb (s : Nat) : Nat := s &&& (2 ^ 32 - s)
def nxtb (a b : Nat) : Nat := (a + 2 ^ 32 - b) &&& b
def subN (b : Nat) : Nat → Nat
  | 0 => 0
  | i + 1 => nxtb (subN b i) b
def nsub (a : Nat) : Nat := ((List.range 128).filter (fun p => p &&& a = p)).length
def pts (s : Nat) : List Nat := (List.range s).filter (fun p => p &&& s = p ∧ p &&& lowb s ≠ 0)
theorem e_low {s : Nat} (h : s < 128) : nI s &&& -nI s = nI (lowb s) := by rw [b_neg (by omega), nx_and]; rfl
theorem e_nextSubset {a b : Nat} (h : b < 128) : f_X0_nextSubset (nI a) (nI b) = some (nI (nxtb a b)) := by
  unfold f_X0_nextSubset
  rw [b_subw (by omega), nx_and]; rfl
theorem e_bitCount : ∀ a, a < 128 → (f_J6_bitCount_0f7a4 (nI a)).bind (fun r => some ((1 : Int32) <<< (r &&& 31))) = some (nI (nsub a)) := by decide +kernel
theorem nsub_le : ∀ a, a < 128 → nsub a ≤ 128 := by decide +kernel
theorem enum1 : ∀ b, b < 128 → (List.range (nsub b)).map (subN b) = (List.range 128).filter (fun p => p &&& b = p) := by decide +kernel
theorem enum2 : ∀ s, s < 128 → 0 < s → (List.range (nsub (s ^^^ lowb s) - 1)).map (fun i => lowb s ||| subN (s ^^^ lowb s) i) = pts s := by decide +kernel
theorem low_none : ∀ s, s < 128 → 0 < s → (List.range (lowb s)).filter (fun p => p &&& s = p ∧ p &&& lowb s ≠ 0) = [] ∧ 0 < lowb s ∧ lowb s ≤ s ∧ lowb s &&& s = lowb s ∧ lowb s &&& lowb s = lowb s := by decide +kernel
theorem e_not {s r : Nat} (hs : s < 128) (hr : r < 128) : (nI s &&& (nI r ^^^ (-1)) = 0) ↔ sb s r := by
  rw [show (-1 : Int32) = nI (2 ^ 32 - 1) from rfl, nx_xor, nx_and]
  have hlt : s &&& (r ^^^ (2 ^ 32 - 1)) < 2 ^ 31 := Nat.lt_of_le_of_lt Nat.and_le_left (by omega)
  rw [nq0 hlt, sb_iff]
  constructor
  · intro h i hi
    have := congrArg (fun z => Nat.testBit z i) h
    simp only [Nat.testBit_and, Nat.testBit_xor, Nat.testBit_two_pow_sub_one, Nat.zero_testBit, hi, Bool.true_and] at this
    have hi7 : i < 32 := by
      rcases Nat.lt_or_ge i 32 with q | q
      · exact q
      · rw [Nat.testBit_lt_two_pow (Nat.lt_of_lt_of_le hs (Nat.pow_le_pow_right (n := 2) (by decide) (show 7 ≤ i by omega)))] at hi; cases hi
    simp only [hi7, decide_true] at this
    cases hr : r.testBit i
    · rw [hr] at this; simp at this
    · rfl
  · intro h
    apply Nat.eq_of_testBit_eq
    intro i
    rw [Nat.testBit_and, Nat.testBit_xor, Nat.testBit_two_pow_sub_one, Nat.zero_testBit]
    cases hi : s.testBit i
    · rfl
    · rw [h i hi]
      have hi7 : i < 32 := by
        rcases Nat.lt_or_ge i 32 with q | q
        · exact q
        · rw [Nat.testBit_lt_two_pow (Nat.lt_of_lt_of_le hs (Nat.pow_le_pow_right (n := 2) (by decide) (show 7 ≤ i by omega)))] at hi; cases hi
      simp [hi7]
end PBT
