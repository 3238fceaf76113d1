/-! the law from its entry -/
section LWS
variable {p : Program} {l : Launch} {e : Env} {R : Room} {s : State} {m : MethodId} {args : Array Value} {below : List Frame} {meth : Method} {c : Code} {cells slots : Nat} {Q : State → Prop}
variable {cc : ByteArray} {nL fr lc : Nat} {own : String} {Ts : List Cond} {A : Nat → Prop} {D : va_G} {T : Nat → ClassId}
variable {w : va_W} {lv : List (Nat × Value)} {pc : Nat} {st : List Value}
theorem z_callI6 {y : MethodName} {ws ws' : List Cond} {rm : Room} {bytes : ByteArray} {maxL index mc ms mc1 ms1 b : Nat} {x : va_E} {wf : (Nat → Nat → Nat) → va_W} (C : zCM p R s m args meth c cc nL own Ts D T fr lc mc ms) (hM : ∀ sz, zNew6 l y ws rm D T b [(b, x)] wf sz mc1 ms1) (nest : Bool) (hG : GoodIn Ts ws) (hw : ws = Cond.code y bytes maxL none :: ws') (hrm : rm.cells = mc1 ∧ rm.slots = ms1) (hini : Cond.initialized y.cls ∈ Ts) (hl : (nest = false ∧ Cond.methodLink own index y ∈ Ts) ∨ (nest = true ∧ Cond.methodLinkNest own index y "StreamTree" ∈ znests)) (hin : Cond.instanceMethod y ∈ Ts) (hy1 : y.name = "<init>") (hd0 : y.cls ≠ "java/lang/invoke/MethodHandle" ∧ y.cls ≠ "java/lang/invoke/VarHandle" ∧ (parseMethodDescriptor y.desc).map (fun d => d.parameters.length) = some 0) (hR : rm.frames + 1 ≤ fr ∧ 8 + (maxL + 11) + rm.locals ≤ lc) (hc1 : cells + mc1 ≤ mc) (hs1 : slots + ms1 ≤ ms) (hD : va_D A (w ++ [(b, x)])) (hA : ∀ q, s.heap.size ≤ q → A q) (hst : (st.map fun v => v.category).sum ≤ 8) (hd : decode cc pc = .ok (.invokespecial index, 3)) (k2 s2 : Nat) (hk2 : cells + mc1 = k2) (hs2 : slots + ms1 = s2) (n : Nat) (hn : pc + 3 = n)
    (KK : ∀ ad : Nat → Nat → Nat, ad 0 99 = b → va_D A (w ++ wf ad) → zt p l e R s m args below meth c nL A D k2 s2 Q (w ++ wf ad) lv n st) : zt p l e R s m args below meth c nL A D cells slots Q (w ++ [(b, x)]) lv pc (.ref b :: st) := by
  subst hn; subst hk2; subst hs2
  intro H locs ls hP hS hl2
  have C0 := C.1 cells slots (by omega) (by omega)
  have hlast : (w ++ [(b, x)])[w.length]? = some (b, x) := by rw [List.getElem?_append_right (Nat.le_refl _), Nat.sub_self]; rfl
  have hPc : va_P D vwCl [(b, x)] H := by
    intro k q hq
    have hz : k < 1 := (List.getElem?_eq_some_iff.mp hq).1
    rw [show k = 0 by omega] at hq
    cases hq
    exact hP w.length _ hlast
  have hDc : va_D (fun _ => True) [(b, x)] := ⟨fun i j p q h1 h2 _ => by
    have z1 : i < 1 := (List.getElem?_eq_some_iff.mp h1).1
    have z2 : j < 1 := (List.getElem?_eq_some_iff.mp h2).1
    omega, fun _ _ _ => trivial⟩
  have hF : ∀ q, va_A [(b, x)] H.size q → A q := by
    rintro q (⟨k, e, h⟩ | h)
    · have hz : k < 1 := (List.getElem?_eq_some_iff.mp h).1
      rw [show k = 0 by omega] at h
      cases h
      exact hD.2 w.length _ hlast
    · exact hA q (Nat.le_trans hS.1 h)
  have hRR : rm.frames + 1 ≤ R.frames ∧ 8 + (maxL + 11) + rm.locals ≤ R.locals := ⟨Nat.le_trans hR.1 C0.2.2.2.1.1, Nat.le_trans hR.2 C0.2.2.2.1.2⟩
  have hcall : va_Run p l e R s m args below meth c H locs cells slots mc1 ms1 (F0 m pc ls (.ref b :: st)) st ((va_Qv (fun ad : Nat → Nat → Nat => ad 0 99 = b) (fun ad t => va_P D vwCl (wf ad) t.heap ∧ va_D (va_A [(b, x)] H.size) (wf ad)) (va_A [(b, x)] H.size)) [Value.ref b].toArray) (va_A [(b, x)] H.size) := by
    rcases hl with ⟨-, hl⟩ | ⟨-, hl⟩
    · exact va_runI (As := []) (rest := st) C0.1 (hM H.size) (cwI 0 C0.1.2.2.2.2 hG hw hrm.1 hrm.2 (C0.1.2.2.2.2 _ hini) (C0.1.2.2.2.2 _ hl) (C0.1.2.2.2.2 _ hin) hy1 hd0 hRR) ⟨zPreN.blind, fun U hU hW => ⟨rfl, by rw [hU], by rw [hU]; exact hPc, C0.2.1.warm hW, hDc⟩⟩ rfl rfl hl2.1 rfl (lv_room hst) hd ⟨by have := C.2.1; omega, by have := C.2.2; omega⟩
    · exact va_runIN (As := []) (rest := st) C0.1 (hM H.size) ⟨va_cnB 0 C0.1.2.2.2.2 hG hw hrm.1 hrm.2 (C0.2.1.2.1 _ hl) (C0.1.2.2.2.2 _ hini) hd0 hRR, hy1, C0.1.2.2.2.2 _ hin⟩ ⟨zPreN.blind, fun U hU hW => ⟨rfl, by rw [hU], by rw [hU]; exact hPc, C0.2.1.warm hW, hDc⟩⟩ rfl rfl hl2.1 rfl (lv_room hst) hd ⟨by have := C.2.1; omega, by have := C.2.2; omega⟩
  refine va_callv (A1 := va_A [(b, x)] H.size) hcall hS (fun q _ h => hF q h) hF (fun ad t H1 locs1 ht hvm hw9 hB hz1 hk1 hS1 => ?_)
  obtain ⟨hP1, hD1⟩ : va_P D vwCl (wf ad) t.heap ∧ va_D (va_A [(b, x)] H.size) (wf ad) := hB
  rw [ht] at hP1
  have hwr : (List.range w.length).map (fun i => (w ++ [(b, x)])[i]?) = w.map some := by
    apply List.ext_getElem?
    intro i
    rw [List.getElem?_map, List.getElem?_map]
    by_cases hi : i < w.length
    · rw [List.getElem?_range hi, Option.map_some, List.getElem?_append_left hi, List.getElem?_eq_getElem hi]; rfl
    · rw [List.getElem?_eq_none (by simpa using hi), List.getElem?_eq_none (by omega)]; rfl
  have hnd : va_nd (List.range w.length) = true := z_nd_of _ List.nodup_range
  obtain ⟨hP2, hD2⟩ := va_join (wc := [(b, x)]) (wr := w) (w1 := wf ad) hP hD [w.length] (List.range w.length) (by simp) hwr hnd (fun i hi h => by simp at hi h; omega) hk1 hF hP1 hD1
  exact KK ad hw9 hD2 H1 locs1 ls hP2 hS1 hl2

/-- an array of one long is made -/
theorem z_newJ {mc ms : Nat} (C : zCM p R s m args meth c cc nL own Ts D T fr lc mc ms) (hc : cells + 1 ≤ mc) (hs : slots + 1 ≤ ms) (hAr : Cond.arrayClass .long ∈ Ts) (hD : va_D A w) (hA : ∀ q, s.heap.size ≤ q → A q) (hd : decode cc pc = .ok (.newarray .long, 2)) (k2 s2 : Nat) (hk2 : cells + 1 = k2) (hs2 : slots + 1 = s2) (n : Nat) (hn : pc + 2 = n)
    (KK : ∀ (q : Nat) (cJ : ClassId), va_K D vwCl [(cJ, .long)] s → va_D A (w ++ wJ cJ q (fun _ => 0)) → zt p l e R s m args below meth c nL A D k2 s2 Q (w ++ wJ cJ q (fun _ => 0)) lv n (.ref q :: st)) : zt p l e R s m args below meth c nL A D cells slots Q w lv pc (.int 1 :: st) := by
  subst hn; subst hk2; subst hs2
  intro H locs ls hP hS hl
  have C0 := C.1 cells slots (by omega) (by omega)
  refine va_newaK (atype := .long) C0.1.1 C0.1.2.1 (C0.1.2.2.2.2 _ hAr) rfl hd (N := 1) rfl (by decide) (by decide) (by decide) (by have := C.2.1; omega) (by have := C.2.2; omega) rfl (fun H1 cA e1 z1 o1 hArr hNm => ?_)
  have hk1 : ∀ (k : Nat) (x : Nat × va_E), w[k]? = some x → H1[x.1]? = H[x.1]? := fun k x hx => o1 x.1 ((hP k x hx).lt)
  have hD1 : va_D A (w ++ wJ cA H.size (fun _ => 0)) := hD.push hP rfl (hA _ hS.1)
  have hP1 : va_P D vwCl (w ++ wJ cA H.size (fun _ => 0)) H1 := by
    refine (hP.kept hk1).app (fun j x hx => ?_)
    have hz : j < 1 := (List.getElem?_eq_some_iff.mp hx).1
    rw [show j = 0 by omega] at hx
    cases hx
    show H1[H.size]? = some (vp_cell _ _)
    exact e1
  have hS1 : va_S A s.heap H1 locs := ⟨Nat.le_trans hS.1 (by omega), fun x h1 h2 => (o1 x (Nat.lt_of_lt_of_le h1 hS.1)).trans (hS.2.1 x h1 h2), hS.2.2⟩
  have hKJ : va_K D vwCl [(cA, .long)] s := ⟨C0.2.1.1.1, fun k q hq => by
    have hz : k < 1 := (List.getElem?_eq_some_iff.mp hq).1
    rw [show k = 0 by omega] at hq
    cases hq
    exact ⟨hArr, hNm⟩⟩
  exact KK H.size cA hKJ hD1 H1 locs ls hP1 hS1 hl
theorem lw_arr {ty : FieldType} (h : (Cond.arrayClass ty).before args s = true) : ∃ cA : ClassId, ArrOfT s cA ty ∧ s.vm.findClass ("[" ++ ty.toString) = some cA := by
  obtain ⟨cA, kA, comp, h1, h2, h3⟩ := Cond.arrayClass_spec h
  exact ⟨cA, fun n z => ⟨fun k h => (by cases h), kA, h2, comp, h3⟩, h1⟩
/-- what the tables say of the classes and arrays -/
theorem lw_zK (hts : ∀ w ∈ wsL_law0, w.before args s = true) (htb : ∀ w ∈ lw_tbl, w.before args s = true) : ∃ D T, zK D T s := by
  obtain ⟨c0, i0, h0⟩ := u_known (C := RX0) (T := TX0) (N := 11) (n := 11) hts inl0X0 (htb (.instantiable RX0 11) (by decide +kernel))
  obtain ⟨c1, i1, h1⟩ := u_known (C := RX1) (T := TX1) (N := 10) (n := 10) hts inl0X1 (htb (.instantiable RX1 10) (by decide +kernel))
  obtain ⟨c2, i2, h2⟩ := u_known (C := RX3) (T := TX3) (N := 5) (n := 5) hts inl0X3 (htb (.instantiable RX3 5) (by decide +kernel))
  obtain ⟨c3, i3, h3⟩ := u_known (C := RX4) (T := TX4) (N := 8) (n := 8) hts inl0X4 (htb (.instantiable RX4 8) (by decide +kernel))
  obtain ⟨c4, i4, h4⟩ := u_known (C := RX5) (T := TX5) (N := 5) (n := 5) hts inl0X5 (htb (.instantiable RX5 5) (by decide +kernel))
  obtain ⟨c5, i5, h5⟩ := u_known (C := RX6) (T := TX6) (N := 9) (n := 9) hts inl0X6 (htb (.instantiable RX6 9) (by decide +kernel))
  obtain ⟨c6, i6, h6⟩ := u_known (C := RX7) (T := TX7) (N := 35) (n := 35) hts inl0X7 (htb (.instantiable RX7 35) (by decide +kernel))
  obtain ⟨t0, t0a, t0b⟩ := lw_arr (htb (.arrayClass .int) (by decide +kernel))
  obtain ⟨t1, t1a, t1b⟩ := lw_arr (htb (.arrayClass .boolean) (by decide +kernel))
  obtain ⟨t2, t2a, t2b⟩ := lw_arr (htb (.arrayClass .byte) (by decide +kernel))
  refine ⟨(fun k => match k with | 0 => c0 | 1 => c1 | 2 => c2 | 3 => c3 | 4 => c4 | 5 => c5 | _ => c6, fun k => match k with | 0 => i0 | 1 => i1 | 2 => i2 | 3 => i3 | 4 => i4 | 5 => i5 | _ => i6), fun k => match k with | 0 => t0 | 1 => t1 | _ => t2, ⟨?_, ?_⟩, ?_, t0b, t1b, t2b⟩
  · intro k q hq
    match k, hq with
    | 0, hq => cases hq; exact h0
    | 1, hq => cases hq; exact h1
    | 2, hq => cases hq; exact h2
    | 3, hq => cases hq; exact h3
    | 4, hq => cases hq; exact h4
    | 5, hq => cases hq; exact h5
    | 6, hq => cases hq; exact h6
    | k + 7, hq => simp at hq
  · intro k q hq
    match k, hq with
    | 0, hq => cases hq; exact ⟨t0a, t0b⟩
    | 1, hq => cases hq; exact ⟨t1a, t1b⟩
    | 2, hq => cases hq; exact ⟨t2a, t2b⟩
    | k + 3, hq => simp [ztys] at hq
  · intro w hw
    have hw1 := htb w (znests_in w hw)
    have ho : w.onTables = true := List.all_eq_true.mp (show znests.all Cond.onTables = true by decide +kernel) w hw
    exact va_tabs ho rfl hw1
theorem lw_no {a : Nat} (h : a < s.heap.size) : ¬ (fun q : Nat => s.heap.size ≤ q) a := Nat.not_le.mpr h
def lw_nar : List Cond := flatC (Jvm.Cond.and given_1 narrow_1)
def lw_tm (i : Nat) : Term := .string RX4 (zidx.getD i 0)
theorem lw_s1 : ∀ i : Nat, i < 6 → Cond.exactly (lw_tm i) "java/lang/String" ∈ lw_nar := by decide +kernel
theorem lw_s2 : ∀ i : Nat, i < 6 → Cond.eq (.field (lw_tm i) "java/lang/String" "coder" "B") (.int 0) ∈ lw_nar := by decide +kernel
theorem lw_s3 : ∀ i : Nat, i < 6 → Cond.arrayOf (.field (lw_tm i) "java/lang/String" "value" "[B") .byte ∈ lw_nar := by decide +kernel
theorem lw_s4 : ∀ i : Nat, i < 6 → Cond.eq (.length (.field (lw_tm i) "java/lang/String" "value" "[B")) (.int (Int32.ofNat (zlen.getD i 0))) ∈ lw_nar := by decide +kernel
theorem lw_s5 : ∀ i : Nat, i < 6 → ∀ j : Nat, j < zlen.getD i 0 → Cond.eq (.elem (.field (lw_tm i) "java/lang/String" "value" "[B") (.int (Int32.ofNat j))) (.int ((zbyt.getD i []).getD j 0)) ∈ lw_nar := by decide +kernel
theorem lw_s6 : ∀ i : Nat, i < 6 → ∀ j : Nat, j < 6 → i ≠ j → Cond.not (Cond.eq (lw_tm i) (lw_tm j)) ∈ lw_nar ∨ Cond.not (Cond.eq (lw_tm j) (lw_tm i)) ∈ lw_nar := by decide +kernel
theorem lw_s7 : ∀ i : Nat, i < 6 → Cond.stringRef RX4 (zidx.getD i 0) (ztx.getD i "") ∈ lw_tbl := by decide +kernel
theorem lw_R {own tx : String} {k a : Nat} (h1 : (Cond.stringRef own k tx).before args s = true) (h2 : (Term.string own k).eval args s none [] s = some (.ref a)) : vk_R own k tx a s := vk_R.of h1 h2
/-- the String constants -/
theorem lw_zE (htb : ∀ w ∈ lw_tbl, w.before args s = true) (hn : ∀ w ∈ lw_nar, w.before args s = true) : ∃ adK adV, zE adK adV (fun q : Nat => s.heap.size ≤ q) s s.heap ∧ zR adK s := by
  obtain ⟨adK, adV, h1, h2⟩ := vk_Sof (N := 6) (tm := lw_tm) (len := zlen) (byt := zbyt) (A := (fun q : Nat => s.heap.size ≤ q)) (by decide) (fun i hi => hn _ (lw_s1 i hi)) (fun i hi => hn _ (lw_s2 i hi)) (fun i hi => hn _ (lw_s3 i hi)) (fun i hi => hn _ (lw_s4 i hi)) (fun i hi j hj => hn _ (lw_s5 i hi j hj)) (fun i j hi hj hij => (lw_s6 i hi j hj hij).elim (fun h => Or.inl (hn _ h)) (fun h => Or.inr (hn _ h))) (fun a ha => lw_no ha)
  refine ⟨adK, adV, ⟨h1, ?_, ?_⟩, fun i hi => ?_⟩
  · exact va_Zof (htb (.laysStatic "java/lang/String" "COMPACT_STRINGS" "Z") (by decide +kernel)) (htb (.initialized "java/lang/String") (by decide +kernel)) (va_eqt (hn (.eq (.static "java/lang/String" "COMPACT_STRINGS" "Z") (.int 1)) (by decide +kernel))) (fun a ha => lw_no ha)
  · exact va_Zqof (htb (.laysStatic "jdk/internal/util/Preconditions" "SIOOBE_FORMATTER" "Ljava/util/function/BiFunction;") (by decide +kernel)) (htb (.initialized "jdk/internal/util/Preconditions") (by decide +kernel)) (hn (.isRef (.static "jdk/internal/util/Preconditions" "SIOOBE_FORMATTER" "Ljava/util/function/BiFunction;")) (by decide +kernel)) (fun a ha => lw_no ha)
  · exact lw_R (htb _ (lw_s7 i hi)) (h2 i hi)
theorem lw_zX (htb : ∀ w ∈ lw_tbl, w.before args s = true) (hn : ∀ w ∈ lw_nar, w.before args s = true) : ∃ sa, zXw sa (fun q : Nat => s.heap.size ≤ q) s s.heap := by
  obtain ⟨sa, c, cA, kA, q1, -⟩ := Cond.exactly_spec (args := args) (first := s) (o := none) (s := s) (idx := []) (t := .string RX6 123) (cls := "java/lang/String") (hn (Cond.exactly (.string RX6 123) "java/lang/String") (by decide +kernel))
  refine ⟨sa, lw_R (htb (.stringRef RX6 123 "no such place, or nothing such of it") (by decide +kernel)) q1, fun w hw => va_tabs (xW_tab hw).1 rfl (htb w (xWs_in w hw)), ?_, ?_⟩
  · exact vx_Zqof (htb (.laysStatic Bundle.tN "UNASSIGNED_STACK" Bundle.steD) (by decide +kernel)) (htb (.initialized Bundle.tN) (by decide +kernel)) (hn (.isRef (.static Bundle.tN "UNASSIGNED_STACK" Bundle.steD)) (by decide +kernel)) (fun a ha => lw_no ha)
  · exact vx_Zqof (htb (.laysStatic Bundle.tN "SUPPRESSED_SENTINEL" Bundle.listD) (by decide +kernel)) (htb (.initialized Bundle.tN) (by decide +kernel)) (hn (.isRef (.static Bundle.tN "SUPPRESSED_SENTINEL" Bundle.listD)) (by decide +kernel)) (fun a ha => lw_no ha)
end LWS
