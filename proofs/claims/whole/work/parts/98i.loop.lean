/-! the claim's own words (out of the skeleton) and the law's loop -/
def R_law : String := "StreamTreeLaw"
def lw_P (b : Addr) (xs : List Int32) (args : Array Value) (s : State) : Prop := args = #[.ref b] ∧ s.IntsAt b xs ∧ xs.length ≤ 3072 ∧ (Jvm.Cond.and given_1 narrow_1).before args s = true
def lw_Q (_ : Array Value) (s : State) (o : Outcome) (t : State) : Prop := o = .returned (some (.int 1)) ∧ Framed s o t [] 601024 7293034
def lw_Z (below : List Frame) (a : Array Value) (s : State) : State → Prop := fun t => ∃ o, t.status = .running ∧ Ended t below o ∧ lw_Q a s o t
/-- the law's own end, with 1 on the stack, nothing written that was there before, its room as the claim has it -/
theorem lw_ret {p : Program} {l : Launch} {e : Env} {s : State} {m : MethodId} {below : List Frame} {meth : Method} {c : Code} {b : Nat} (hx : p.tables.exec = Jvm.exec) (hb : c.code = code) (hr : meth.sig.returnType = ret) (hlocks : meth.locks = false) {pc : Nat} {H : Heap} {ls : Array Slot} (hdg : decode code pc = .ok (.ireturn, 1)) : W p l e room_1 s m #[Value.ref b] below meth c H [] 601024 7293034 (lw_Z below #[Value.ref b] s) (F0 m pc ls [.int 1]) := by
  intro T hT X
  obtain ⟨fs, hret, hrun, hended, hW, hframe⟩ := X.leave (v := some (.int 1)) (hlocks := hlocks) (fun h => by rw [hr] at h; cases h)
  have hmeth' : T.vm.method? m = some meth := X.method'
  refine ⟨T.setFrames fs, ?_, .returned (some (.int 1)), hrun, hended, rfl, ⟨_, rfl⟩, hW, hframe⟩
  jvm_step X.here [X.here.top, hx, hb, hdg, hmeth', hr, ret, narrow_b1]
  (try refine ⟨rfl, ?_⟩); (try refine ⟨rfl, ?_⟩)
  first | (intro acts; rw [hret _ acts rfl rfl rfl]) | rw [hret _ _ rfl rfl rfl]
  exact Steps.refl _
/-- what holds at the law's entry: the machine, the code, the tables' words (any of lw_tbl by 'hts w (by decide +kernel)'), the script of L ints xs at the cell b, what the Statement gives of the start (any of its parts by flat_of_before) -/
def lw_At (p : Program) (s : State) (m : MethodId) (meth : Method) (c : Code) (b L : Nat) (xs : Nat → Int32) : Prop :=
  p.tables.exec = Jvm.exec ∧ c.code = code ∧ meth.sig.returnType = ret ∧ c.maxLocals = 7 ∧ s.vm.findClass R_law = some m.cls ∧ (∀ w ∈ lw_tbl, w.before #[Value.ref b] s = true) ∧ va_X b L xs s s.heap ∧ b < s.heap.size ∧ meth.locks = false ∧ (Jvm.Cond.and given_1 narrow_1).before #[Value.ref b] s = true

section LWL
theorem and31 (x : Int32) : ∃ k, k < 32 ∧ x &&& 31 = nI k := ⟨_, Nat.mod_lt _ (by decide), pk_and x 5 (m := 31) (by decide)⟩
theorem lw_gt {L i : Nat} (hL : L ≤ 3072) (hi : i ≤ 3078) : (nI L - 6 < nI i) ↔ L < i + 6 := by
  have h1 : (nI L - 6).toInt = (L : Int) - 6 := pk_sub_toInt (a := L) (b := 6) (by omega) (by omega)
  rw [Int32.lt_iff_toInt_lt, h1, nI_toInt (by omega)]
  omega
variable {p : Program} {l : Launch} {e : Env} {s : State} {m : MethodId} {below : List Frame} {meth : Method} {c : Code} {D : va_G} {T : Nat → ClassId} {adK adV : Nat → Nat} {b L sa : Nat} {xs : Nat → Int32} {cJ : ClassId}
set_option maxHeartbeats 4000000 in
set_option maxRecDepth 100000 in
theorem lw_switch {j : Nat} {K : Nat → Nat → Nat} {a0 a1 a2 a3 a4 a5 a6 a7 a8 a9 b0 : Nat → Nat} {S1 S2 S3 S4 S5 S6 S7 S8 S9 M : Nat → Nat → Int32} {q : Nat} {f : Nat → Int64} {cells slots : Nat} {Q : State → Prop} (hl0 : l.stackTraces = false) (C0 : lwC p s m meth c D T adK adV b L sa xs cJ) (hj : 6 * j + 6 ≤ L) (hI : ivK K S1 S2 S4 S5 S6 S7 S8 M) (hD : va_D (fun q : Nat => s.heap.size ≤ q) ((wX6 a0 a1 a2 a3 a4 a5 a6 a7 a8 a9 ++ (wX4 T a1 S1 ++ (wX1 T a2 S2 ++ (wX1 T a3 S3 ++ (wX0 T a4 S4 ++ (wX5 T a5 S5 ++ (wX5 T a6 S6 ++ (wX5 T a7 S7 ++ (wX5 T a8 S8 ++ wX3 T a9 S9))))))))) ++ (wX7 T b0 M ++ wJ cJ q f))) (hc : cells + 5 * tpL S1 ≤ 53 + 106 * j) (hs : slots + 25 * tpL S1 ≤ 98797 + 600 * j) (KK : lwG p l e s m below meth c Q D T b cJ j) : zt p l e room_1 s m #[Value.ref b] below meth c 7 (fun q : Nat => s.heap.size ≤ q) D cells slots Q ((wX6 a0 a1 a2 a3 a4 a5 a6 a7 a8 a9 ++ (wX4 T a1 S1 ++ (wX1 T a2 S2 ++ (wX1 T a3 S3 ++ (wX0 T a4 S4 ++ (wX5 T a5 S5 ++ (wX5 T a6 S6 ++ (wX5 T a7 S7 ++ (wX5 T a8 S8 ++ wX3 T a9 S9))))))))) ++ (wX7 T b0 M ++ wJ cJ q f)) [(0, .ref b), (1, .ref (a0 99)), (2, .ref (b0 99)), (3, .ref q), (4, .int (nI (6 * j)))] 33 [] := by
  have C := C0.1 cells slots (by have := C0.2.2.2.1; omega) (by have := C0.2.2.2.1; omega)
  have hbA : ¬ (fun q : Nat => s.heap.size ≤ q) b := Nat.not_le.mpr C0.2.2.1
  refine z_aload_n C dL_law_33 rfl 0 rfl 34 rfl ?_
  refine z_iload C dL_law_34 4 rfl 36 rfl ?_
  refine z_sld0 C C0.2.1 C0.2.2.1 hbA (vp_in_nI (by omega) (by have := C0.2.2.2.1; omega)) dL_law_36 37 rfl ?_
  refine z_bipush C 31 dL_law_37 (by decide) 39 rfl ?_
  refine z_iand C dL_law_39 40 rfl ?_
  obtain ⟨k, hk, hx⟩ := and31 (xs (nI (6 * j)).toNatClampNeg)
  rw [hx]
  match k, hk with
  | 0, _ =>
    refine z_tblIn (off := 96) C 136 dL_law_40 (by decide +kernel) (by decide +kernel) (by decide +kernel) (by decide) ?_
    exact lw_feed C0 hj hI hD hc hs KK
  | 1, _ =>
    refine z_tblIn (off := 169) C 209 dL_law_40 (by decide +kernel) (by decide +kernel) (by decide +kernel) (by decide) ?_
    exact lw_text C0 hj hI hD hc hs KK
  | 2, _ =>
    refine z_tblIn (off := 194) C 234 dL_law_40 (by decide +kernel) (by decide +kernel) (by decide +kernel) (by decide) ?_
    exact lw_chart C0 hj hI hD hc hs KK
  | 3, _ =>
    refine z_tblIn (off := 231) C 271 dL_law_40 (by decide +kernel) (by decide +kernel) (by decide +kernel) (by decide) ?_
    exact lw_place C0 hj hI hD hc hs KK
  | 4, _ =>
    refine z_tblIn (off := 280) C 320 dL_law_40 (by decide +kernel) (by decide +kernel) (by decide +kernel) (by decide) ?_
    exact lw_rock C0 hj hI hD hc hs KK
  | 5, _ =>
    refine z_tblIn (off := 345) C 385 dL_law_40 (by decide +kernel) (by decide +kernel) (by decide +kernel) (by decide) ?_
    exact lw_set C0 hj hI hD hc hs KK
  | 6, _ =>
    refine z_tblIn (off := 382) C 422 dL_law_40 (by decide +kernel) (by decide +kernel) (by decide +kernel) (by decide) ?_
    exact lw_at hl0 C0 hj hI hD hc hs KK
  | 7, _ =>
    refine z_tblIn (off := 450) C 490 dL_law_40 (by decide +kernel) (by decide +kernel) (by decide +kernel) (by decide) ?_
    exact lw_ink C0 hj hI hD hc hs KK
  | 8, _ =>
    refine z_tblIn (off := 475) C 515 dL_law_40 (by decide +kernel) (by decide +kernel) (by decide +kernel) (by decide) ?_
    exact lw_width C0 hj hI hD hc hs KK
  | 9, _ =>
    refine z_tblIn (off := 524) C 564 dL_law_40 (by decide +kernel) (by decide +kernel) (by decide +kernel) (by decide) ?_
    exact lw_step C0 hj hI hD hc hs KK
  | 10, _ =>
    refine z_tblIn (off := 573) C 613 dL_law_40 (by decide +kernel) (by decide +kernel) (by decide +kernel) (by decide) ?_
    exact lw_join C0 hj hI hD hc hs KK
  | 11, _ =>
    refine z_tblIn (off := 622) C 662 dL_law_40 (by decide +kernel) (by decide +kernel) (by decide +kernel) (by decide) ?_
    exact lw_drawn C0 hj hI hD hc hs KK
  | 12, _ =>
    refine z_tblIn (off := 659) C 699 dL_law_40 (by decide +kernel) (by decide +kernel) (by decide +kernel) (by decide) ?_
    exact lw_way C0 hj hI hD hc hs KK
  | 13, _ =>
    refine z_tblIn (off := 708) C 748 dL_law_40 (by decide +kernel) (by decide +kernel) (by decide +kernel) (by decide) ?_
    exact lw_borne C0 hj hI hD hc hs KK
  | 14, _ =>
    refine z_tblIn (off := 757) C 797 dL_law_40 (by decide +kernel) (by decide +kernel) (by decide +kernel) (by decide) ?_
    exact lw_alone C0 hj hI hD hc hs KK
  | 15, _ =>
    refine z_tblIn (off := 782) C 822 dL_law_40 (by decide +kernel) (by decide +kernel) (by decide +kernel) (by decide) ?_
    exact lw_costs C0 hj hI hD hc hs KK
  | 16, _ =>
    refine z_tblIn (off := 807) C 847 dL_law_40 (by decide +kernel) (by decide +kernel) (by decide +kernel) (by decide) ?_
    exact lw_bars C0 hj hI hD hc hs KK
  | 17, _ =>
    refine z_tblIn (off := 844) C 884 dL_law_40 (by decide +kernel) (by decide +kernel) (by decide +kernel) (by decide) ?_
    exact lw_more C0 hj hI hD hc hs KK
  | 18, _ =>
    refine z_tblIn (off := 905) C 945 dL_law_40 (by decide +kernel) (by decide +kernel) (by decide +kernel) (by decide) ?_
    exact lw_best C0 hj hI hD hc hs KK
  | 19, _ =>
    refine z_tblIn (off := 954) C 994 dL_law_40 (by decide +kernel) (by decide +kernel) (by decide +kernel) (by decide) ?_
    exact lw_count C0 hj hI hD hc hs KK
  | k + 20, h =>
    refine z_tblOut C 1019 dL_law_40 (Or.inr ?_) (by decide) ?_
    · rw [nI_toInt (by omega)]; omega
    · exact KK K a0 a1 a2 a3 a4 a5 a6 a7 a8 a9 b0 S1 S2 S3 S4 S5 S6 S7 S8 S9 M q f cells slots hI hD (by omega) (by omega)
theorem lw_loop (hl0 : l.stackTraces = false) (hr : meth.sig.returnType = ret) (C0 : lwC p s m meth c D T adK adV b L sa xs cJ) : ∀ (n j : Nat) (K : Nat → Nat → Nat) (a0 a1 a2 a3 a4 a5 a6 a7 a8 a9 b0 : Nat → Nat) (S1 S2 S3 S4 S5 S6 S7 S8 S9 M : Nat → Nat → Int32) (q : Nat) (f : Nat → Int64) (cells slots : Nat), L < 6 * j + 6 * n + 6 → 6 * j ≤ 3078 → ivK K S1 S2 S4 S5 S6 S7 S8 M → va_D (fun q : Nat => s.heap.size ≤ q) ((wX6 a0 a1 a2 a3 a4 a5 a6 a7 a8 a9 ++ (wX4 T a1 S1 ++ (wX1 T a2 S2 ++ (wX1 T a3 S3 ++ (wX0 T a4 S4 ++ (wX5 T a5 S5 ++ (wX5 T a6 S6 ++ (wX5 T a7 S7 ++ (wX5 T a8 S8 ++ wX3 T a9 S9))))))))) ++ (wX7 T b0 M ++ wJ cJ q f)) → cells + 5 * tpL S1 ≤ 53 + 106 * j → slots + 25 * tpL S1 ≤ 98797 + 600 * j → zt p l e room_1 s m #[Value.ref b] below meth c 7 (fun q : Nat => s.heap.size ≤ q) D cells slots (lw_Z below #[Value.ref b] s) ((wX6 a0 a1 a2 a3 a4 a5 a6 a7 a8 a9 ++ (wX4 T a1 S1 ++ (wX1 T a2 S2 ++ (wX1 T a3 S3 ++ (wX0 T a4 S4 ++ (wX5 T a5 S5 ++ (wX5 T a6 S6 ++ (wX5 T a7 S7 ++ (wX5 T a8 S8 ++ wX3 T a9 S9))))))))) ++ (wX7 T b0 M ++ wJ cJ q f)) [(0, .ref b), (1, .ref (a0 99)), (2, .ref (b0 99)), (3, .ref q), (4, .int (nI (6 * j)))] 23 [] := by
  have hL := C0.2.2.2.1
  have hbA : ¬ (fun q : Nat => s.heap.size ≤ q) b := Nat.not_le.mpr C0.2.2.1
  intro n
  induction n with
  | zero =>
    intro j K a0 a1 a2 a3 a4 a5 a6 a7 a8 a9 b0 S1 S2 S3 S4 S5 S6 S7 S8 S9 M q f cells slots hn hj hI hD hc hs
    have C := C0.1 cells slots (by omega) (by omega)
    refine z_iload C dL_law_23 4 rfl 25 rfl ?_
    refine z_aload_n C dL_law_25 rfl 0 rfl 26 rfl ?_
    refine z_slen C C0.2.1 C0.2.2.1 hbA dL_law_26 27 rfl ?_
    refine z_bipush C 6 dL_law_27 (by decide) 29 rfl ?_
    refine z_isub C dL_law_29 30 rfl ?_
    refine z_icmp_gt (X := some ()) (Y := none) (ex := ()) C 1025 dL_law_30 (by decide) 33 rfl (if_pos ((lw_gt hL hj).mpr (by omega))) (fun _ => ?_) (fun h => nomatch h)
    refine z_iconst C 1 dL_law_1025 (by decide) 1026 rfl ?_
    exact fun H locs ls hP hS hl => va_forget (fun q hq => hS.2.2 q hq) (W.widen (k := 601024) (n := 7293034) (by omega) (by omega) (lw_ret C.1.1 C.1.2.1 hr C.2.2.1 dL_law_1026))
  | succ n ih =>
    intro j K a0 a1 a2 a3 a4 a5 a6 a7 a8 a9 b0 S1 S2 S3 S4 S5 S6 S7 S8 S9 M q f cells slots hn hj hI hD hc hs
    have C := C0.1 cells slots (by omega) (by omega)
    refine z_iload C dL_law_23 4 rfl 25 rfl ?_
    refine z_aload_n C dL_law_25 rfl 0 rfl 26 rfl ?_
    refine z_slen C C0.2.1 C0.2.2.1 hbA dL_law_26 27 rfl ?_
    refine z_bipush C 6 dL_law_27 (by decide) 29 rfl ?_
    refine z_isub C dL_law_29 30 rfl ?_
    by_cases hg : L < 6 * j + 6
    · refine z_icmp_gt (X := some ()) (Y := none) (ex := ()) C 1025 dL_law_30 (by decide) 33 rfl (if_pos ((lw_gt hL hj).mpr hg)) (fun _ => ?_) (fun h => nomatch h)
      refine z_iconst C 1 dL_law_1025 (by decide) 1026 rfl ?_
      exact fun H locs ls hP hS hl => va_forget (fun q hq => hS.2.2 q hq) (W.widen (k := 601024) (n := 7293034) (by omega) (by omega) (lw_ret C.1.1 C.1.2.1 hr C.2.2.1 dL_law_1026))
    · refine z_icmp_gt (X := none) (Y := some ()) (ex := ()) C 1025 dL_law_30 (by decide) 33 rfl (if_neg (fun h => hg ((lw_gt hL hj).mp h))) (fun h => nomatch h) (fun _ => ?_)
      refine lw_switch hl0 C0 (by omega) hI hD hc hs ?_
      intro K2 a0 a1 a2 a3 a4 a5 a6 a7 a8 a9 b0 S1 S2 S3 S4 S5 S6 S7 S8 S9 M q f cells slots hI hD hc hs
      have C := C0.1 cells slots (by omega) (by omega)
      refine z_iinc C (nI (6 * (j + 1))) [(0, .ref b), (1, .ref (a0 99)), (2, .ref (b0 99)), (3, .ref q), (4, .int (nI (6 * (j + 1))))] dL_law_1019 4 rfl ?_ (by decide) [1, 2, 3, 4, 0] rfl 1022 rfl ?_
      · rw [show 6 * (j + 1) = 6 * j + 6 by omega, ← nI_add]; rfl
      refine z_goto C 23 dL_law_1022 (by decide) ?_
      exact ih (j + 1) K2 a0 a1 a2 a3 a4 a5 a6 a7 a8 a9 b0 S1 S2 S3 S4 S5 S6 S7 S8 S9 M q f cells slots (by omega) (by omega) hI hD hc hs
end LWL
