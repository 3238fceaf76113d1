/-! the tape: bytes of both -/
section BYT
theorem b255 : ∀ i : Fin 32, 8 ≤ i.val → (Int32.toBitVec 255)[i.val] = false := by decide
theorem bt_low (x : Int32) : x.toInt8.toInt32 &&& 255 = x &&& 255 := by
  apply Int32.toBitVec_inj.mp
  apply BitVec.eq_of_getElem_eq
  intro i hi
  rw [Int32.toBitVec_and, Int32.toBitVec_and, BitVec.getElem_and, BitVec.getElem_and]
  by_cases q : i < 8
  · rw [show x.toInt8.toInt32.toBitVec[i] = x.toBitVec[i] by
      simp only [Int8.toBitVec_toInt32, Int32.toBitVec_toInt8]
      rw [BitVec.getElem_signExtend, dif_pos q, BitVec.getElem_signExtend, dif_pos hi]]
  · rw [b255 ⟨i, hi⟩ (by show 8 ≤ i; omega), Bool.and_false, Bool.and_false]
theorem bt_sh (v : Int32) {s : Nat} (hs : s ≤ 24) {a b : Int32} (ha : a.toBitVec = v.toBitVec.sshiftRight s) (hb : b.toBitVec = v.toBitVec >>> s) : a &&& 255 = b &&& 255 := by
  apply Int32.toBitVec_inj.mp
  apply BitVec.eq_of_getElem_eq
  intro i hi
  rw [Int32.toBitVec_and, Int32.toBitVec_and, BitVec.getElem_and, BitVec.getElem_and]
  by_cases q : i < 8
  · simp only [ha, hb]
    rw [BitVec.getElem_sshiftRight, dif_pos (by omega), BitVec.getElem_ushiftRight, BitVec.getLsbD_eq_getElem]
  · rw [b255 ⟨i, hi⟩ (by show 8 ≤ i; omega), Bool.and_false, Bool.and_false]
theorem bt_eq (v : Int32) {k : Int32} (hk : k = 24 ∨ k = 16 ∨ k = 8 ∨ k = 0) : (vp_nar .byte ((Int32.toInt8 (v >>> (k &&& 31))).toInt32)) &&& 255 = (Int32.toUInt32 v >>> (Int32.toUInt32 k &&& Int32.toUInt32 31)).toInt32 &&& 255 := by
  have hn : ∀ x : Int32, vp_nar .byte x = x.toInt8.toInt32 := fun x => rfl
  rw [hn, bt_low, bt_low]
  rcases hk with rfl | rfl | rfl | rfl
  · exact bt_sh v (s := 24) (by decide) rfl rfl
  · exact bt_sh v (s := 16) (by decide) rfl rfl
  · exact bt_sh v (s := 8) (by decide) rfl rfl
  · exact bt_sh v (s := 0) (by decide) rfl rfl
theorem nI_sur (w : Int32) : ∃ a, w = nI a := by
  refine ⟨w.toBitVec.toNat, ?_⟩
  apply Int32.toBitVec_inj.mp
  apply BitVec.eq_of_toNat_eq
  simp [nI]
theorem bt_nat (w : Int32) : ∃ y, y < 256 ∧ w &&& 255 = nI y := by
  obtain ⟨a, rfl⟩ := nI_sur w
  refine ⟨a &&& 255, ?_, by rw [show (255 : Int32) = nI 255 from rfl, nx_and]⟩
  exact Nat.lt_of_le_of_lt Nat.and_le_right (by decide)
/-- the tapes of both are alike -/
def tpR (S M : Nat → Nat → Int32) : Prop := ∃ a, ∃ y : Nat → Nat, a ≤ 500 ∧ S 0 0 = nI a ∧ M 12 0 = nI a ∧ ∀ k, k < a → S 1 k = nI (y k) ∧ y k < 256 ∧ M 11 k &&& 255 = nI (y k)
/-- one byte more -/
theorem tp_one {S M : Nat → Nat → Int32} {y : Nat → Nat} {a : Nat} {v k : Int32} (hk : k = 24 ∨ k = 16 ∨ k = 8 ∨ k = 0) (ha : a < 500) (h1 : S 0 0 = nI a) (h2 : M 12 0 = nI a) (h3 : ∀ k, k < a → S 1 k = nI (y k) ∧ y k < 256 ∧ M 11 k &&& 255 = nI (y k)) : ∃ S' M', (∀ rec, f_X4_putNumber_L3b v rec (k, S) = rec (k + (-8), S')) ∧ (∀ rec, f_X7_puts_L3b v rec (k, M) = rec (k + (-8), M')) ∧ S' 0 0 = nI (a + 1) ∧ M' 12 0 = nI (a + 1) ∧ (∃ y' : Nat → Nat, ∀ k, k < a + 1 → S' 1 k = nI (y' k) ∧ y' k < 256 ∧ M' 11 k &&& 255 = nI (y' k)) ∧ (∀ k, k ≠ 11 → k ≠ 12 → M' k = M k) := by
  have hk0 : ¬ k < 0 := by rcases hk with rfl | rfl | rfl | rfl <;> decide
  obtain ⟨b, hb, eb⟩ := bt_nat ((Int32.toUInt32 v >>> (Int32.toUInt32 k &&& Int32.toUInt32 31)).toInt32)
  refine ⟨zst (zst S 1 a ((Int32.toUInt32 v >>> (Int32.toUInt32 k &&& Int32.toUInt32 31)).toInt32 &&& 255)) 0 0 (nI (a + 1)), zst (zst M 11 a (vp_nar .byte ((Int32.toInt8 (v >>> (k &&& 31))).toInt32))) 12 0 (nI (a + 1)), fun rec => ?_, fun rec => ?_, zst_same _ _ _ _, zst_same _ _ _ _, ⟨fun j => if j = a then b else y j, fun j hj => ?_⟩, fun j h1 h2 => by rw [zst_ne _ h2, zst_ne _ h1]⟩
  · unfold f_X4_putNumber_L3b
    rw [if_neg hk0]
    dsimp only
    rw [ilen (x := 500) (a := 500) rfl h1 ha (by decide), h1, zix_nI ha (by decide), zlet_eq, zlet_eq, zst_ne _ (show (0 : Nat) ≠ 1 by decide), h1, l_1, nI_add]
  · unfold f_X7_puts_L3b
    rw [if_neg hk0]
    dsimp only
    rw [h2, zix_nI ha (by decide), zlet_eq, zlet_eq, zst_ne _ (show (12 : Nat) ≠ 11 by decide), h2, l_1, nI_add]
  · rw [zst_ne _ (show (1 : Nat) ≠ 0 by decide), zst_ne _ (show (11 : Nat) ≠ 12 by decide), zst_row, zst_row]
    dsimp only
    by_cases q : j = a
    · rw [if_pos q, q, upd_same, upd_same, bt_eq v hk]
      exact ⟨eb, hb, eb⟩
    · rw [if_neg q, upd_ne _ q, upd_ne _ q]
      exact h3 j (by omega)
theorem tp_num {S M : Nat → Nat → Int32} {y : Nat → Nat} {a : Nat} {v : Int32} (ha : a + 4 ≤ 500) (h1 : S 0 0 = nI a) (h2 : M 12 0 = nI a) (h3 : ∀ k, k < a → S 1 k = nI (y k) ∧ y k < 256 ∧ M 11 k &&& 255 = nI (y k)) : ∃ S' M', f_X4_putNumber S v = some S' ∧ f_X7_puts M v = some M' ∧ S' 0 0 = nI (a + 4) ∧ M' 12 0 = nI (a + 4) ∧ (∃ y' : Nat → Nat, ∀ k, k < a + 4 → S' 1 k = nI (y' k) ∧ y' k < 256 ∧ M' 11 k &&& 255 = nI (y' k)) ∧ (∀ k, k ≠ 11 → k ≠ 12 → M' k = M k) := by
  obtain ⟨S1, M1, a1, a2, a3, a4, ⟨y1, a5⟩, a6⟩ := tp_one (v := v) (k := 24) (by decide) (by omega) h1 h2 h3
  obtain ⟨S2, M2, b1, b2, b3, b4, ⟨y2, b5⟩, b6⟩ := tp_one (v := v) (k := 16) (by decide) (by omega) a3 a4 a5
  obtain ⟨S3, M3, c1, c2, c3, c4, ⟨y3, c5⟩, c6⟩ := tp_one (v := v) (k := 8) (by decide) (by omega) b3 b4 b5
  obtain ⟨S4, M4, d1, d2, d3, d4, ⟨y4, d5⟩, d6⟩ := tp_one (v := v) (k := 0) (by decide) (by omega) c3 c4 c5
  refine ⟨S4, M4, ?_, ?_, d3, d4, ⟨y4, d5⟩, fun k q1 q2 => by rw [d6 k q1 q2, c6 k q1 q2, b6 k q1 q2, a6 k q1 q2]⟩
  · unfold f_X4_putNumber f_X4_putNumber_L3
    rw [show zfuel = 995 + 1 + 1 + 1 + 1 + 1 from rfl, zloop, a1, show (24 : Int32) + (-8) = 16 from rfl, zloop, b1, show (16 : Int32) + (-8) = 8 from rfl, zloop, c1, show (8 : Int32) + (-8) = 0 from rfl, zloop, d1, show (0 : Int32) + (-8) = -8 from rfl, zloop]
    unfold f_X4_putNumber_L3b
    rw [if_pos (show (-8 : Int32) < 0 by decide)]
    rfl
  · unfold f_X7_puts f_X7_puts_L3
    rw [show zfuel = 995 + 1 + 1 + 1 + 1 + 1 from rfl, zloop, a2, show (24 : Int32) + (-8) = 16 from rfl, zloop, b2, show (16 : Int32) + (-8) = 8 from rfl, zloop, c2, show (8 : Int32) + (-8) = 0 from rfl, zloop, d2, show (0 : Int32) + (-8) = -8 from rfl, zloop]
    unfold f_X7_puts_L3b
    rw [if_pos (show (-8 : Int32) < 0 by decide)]
    rfl
end BYT
