/-! rows for the law's body: calls on a middle piece of the world; the script -/
section LWR
def sv (xs : Nat → Int32) (i : Nat) (k : Int32) : Int32 := xs (nI i + k).toNatClampNeg
theorem zP_iff {D : va_G} {cl : List vw_C} {w : va_W} {H : Heap} : va_P D cl w H ↔ ∀ q ∈ w, va_at D cl q H := by
  constructor
  · intro h q hq
    obtain ⟨k, hk⟩ := List.getElem?_of_mem hq
    exact h k q hk
  · intro h k q hk
    exact h q (List.mem_of_getElem? hk)
theorem zM_c {wa wc wb : va_W} {j : Nat} {x : Nat × va_E} (h : wc[j]? = some x) : (wa ++ (wc ++ wb))[wa.length + j]? = some x := by
  have hj : j < wc.length := (List.getElem?_eq_some_iff.mp h).1
  rw [List.getElem?_append_right (Nat.le_add_right _ _), Nat.add_sub_cancel_left, List.getElem?_append_left hj]; exact h
theorem zM_a {wa wc wb : va_W} {j : Nat} {x : Nat × va_E} (h : wa[j]? = some x) : (wa ++ (wc ++ wb))[j]? = some x := by
  have hj : j < wa.length := (List.getElem?_eq_some_iff.mp h).1
  rw [List.getElem?_append_left hj]; exact h
theorem zM_b {wa wc wb : va_W} {j : Nat} {x : Nat × va_E} (h : wb[j]? = some x) : (wa ++ (wc ++ wb))[wa.length + (wc.length + j)]? = some x := by
  rw [List.getElem?_append_right (Nat.le_add_right _ _), Nat.add_sub_cancel_left, List.getElem?_append_right (Nat.le_add_right _ _), Nat.add_sub_cancel_left]; exact h
theorem zD_c {A : Nat → Prop} {wa wc wb : va_W} (h : va_D A (wa ++ (wc ++ wb))) : va_D A wc :=
  ⟨fun i j p q h1 h2 h3 => by have := h.1 _ _ p q (zM_c (wa := wa) (wb := wb) h1) (zM_c (wa := wa) (wb := wb) h2) h3; omega, fun k q hq => h.2 _ q (zM_c (wa := wa) (wb := wb) hq)⟩
theorem zM_apart {A : Nat → Prop} {wa wc wb : va_W} (h : va_D A (wa ++ (wc ++ wb))) {q : Nat × va_E} (hq : q ∈ wa ∨ q ∈ wb) : ¬ zA wc q.1 := by
  rintro ⟨j, e, hj⟩
  have hl : j < wc.length := (List.getElem?_eq_some_iff.mp hj).1
  rcases hq with hq | hq
  · obtain ⟨k, hk⟩ := List.getElem?_of_mem hq
    have hk1 : k < wa.length := (List.getElem?_eq_some_iff.mp hk).1
    have := h.1 _ _ _ _ (zM_c (wa := wa) (wb := wb) hj) (zM_a (wc := wc) (wb := wb) hk) rfl
    omega
  · obtain ⟨k, hk⟩ := List.getElem?_of_mem hq
    have := h.1 _ _ _ _ (zM_c (wa := wa) (wb := wb) hj) (zM_b (wa := wa) (wc := wc) hk) rfl
    omega
theorem zP_mid {A : Nat → Prop} {D : va_G} {cl : List vw_C} {wa wc wb w1 : va_W} {H H1 : Heap} (hP : va_P D cl (wa ++ (wc ++ wb)) H) (hD : va_D A (wa ++ (wc ++ wb))) (hk : ∀ q : Nat, q < H.size → ¬ zA wc q → H1[q]? = H[q]?) (hB : va_P D cl w1 H1) : va_P D cl (wa ++ (w1 ++ wb)) H1 := by
  rw [zP_iff] at hP hB ⊢
  intro q hq
  have side : q ∈ wa ∨ q ∈ wb → va_at D cl q H1 := fun h => by
    have h1 : va_at D cl q H := hP q (by
      rcases h with h | h
      · exact List.mem_append_left _ h
      · exact List.mem_append_right _ (List.mem_append_right _ h))
    exact h1.kept (hk q.1 h1.lt (zM_apart hD h))
  rcases List.mem_append.mp hq with h | h
  · exact side (Or.inl h)
  · rcases List.mem_append.mp h with h | h
    · exact hB q h
    · exact side (Or.inr h)
theorem zP_c {D : va_G} {cl : List vw_C} {wa wc wb : va_W} {H : Heap} (hP : va_P D cl (wa ++ (wc ++ wb)) H) : va_P D cl wc H := fun k q hq => hP _ q (zM_c (wa := wa) (wb := wb) hq)
theorem zA_c {A : Nat → Prop} {wa wc wb : va_W} (hD : va_D A (wa ++ (wc ++ wb))) {q : Nat} (h : zA wc q) : A q := by
  obtain ⟨j, e, hj⟩ := h
  exact hD.2 _ _ (zM_c (wa := wa) (wb := wb) hj)
variable {p : Program} {l : Launch} {e : Env} {R : Room} {s : State} {m : MethodId} {args : Array Value} {below : List Frame} {meth : Method} {c : Code} {cells slots : Nat} {Q : State → Prop}
variable {cc : ByteArray} {nL fr lc : Nat} {own : String} {Ts : List Cond} {A : Nat → Prop} {D : va_G} {T : Nat → ClassId}
variable {w : va_W} {lv : List (Nat × Value)} {pc : Nat} {st : List Value} {adK adV : Nat → Nat}
/-- an int of the script: aload_0, iload 4, iconst k, iadd, iaload -/
theorem z_sarg {b L i : Nat} {xs : Nat → Int32} {z : Int} (k : Int32) (C : zC p R s m args meth c cc nL own Ts D T fr lc cells slots) (hX : va_X b L xs s s.heap) (hbl : b < s.heap.size) (hA : ¬ A b) (hin : vp_in (nI i + k) L) (hz : Int32.ofInt z = k) (h0 : lv[0]? = some (0, .ref b)) (h4 : lv[4]? = some (4, .int (nI i))) (d0 : decode cc pc = .ok (.aload_n 0, 1)) (d1 : decode cc (pc + 1) = .ok (.iload 4, 2)) (d3 : decode cc (pc + 3) = .ok (.iconst z, 1)) (d4 : decode cc (pc + 4) = .ok (.iadd, 1)) (d5 : decode cc (pc + 5) = .ok (.iaload, 1)) (n : Nat) (hn : pc + 6 = n)
    (K : zt p l e R s m args below meth c nL A D cells slots Q w lv n (.int (sv xs i k) :: st)) : zt p l e R s m args below meth c nL A D cells slots Q w lv pc st := by
  subst hn
  refine z_aload_n C d0 rfl 0 h0 _ rfl ?_
  refine z_iload C d1 4 h4 _ rfl ?_
  refine z_iconst C k d3 hz _ rfl ?_
  refine z_iadd C d4 _ rfl ?_
  exact fun H locs ls hP hS hl => va_sld C.1.1 C.1.2.1 hX hbl hA hS hin d5 (K H locs ls hP hS hl)
theorem z_sld0 {b L i : Nat} {xs : Nat → Int32} (C : zC p R s m args meth c cc nL own Ts D T fr lc cells slots) (hX : va_X b L xs s s.heap) (hbl : b < s.heap.size) (hA : ¬ A b) (hin : vp_in (nI i) L) (d5 : decode cc pc = .ok (.iaload, 1)) (n : Nat) (hn : pc + 1 = n) (K : zt p l e R s m args below meth c nL A D cells slots Q w lv n (.int (xs (nI i).toNatClampNeg) :: st)) : zt p l e R s m args below meth c nL A D cells slots Q w lv pc (.int (nI i) :: .ref b :: st) := by
  subst hn
  exact fun H locs ls hP hS hl => va_sld C.1.1 C.1.2.1 hX hbl hA hS hin d5 (K H locs ls hP hS hl)
theorem z_slen {b L : Nat} {xs : Nat → Int32} (C : zC p R s m args meth c cc nL own Ts D T fr lc cells slots) (hX : va_X b L xs s s.heap) (hbl : b < s.heap.size) (hA : ¬ A b) (d5 : decode cc pc = .ok (.arraylength, 1)) (n : Nat) (hn : pc + 1 = n) (K : zt p l e R s m args below meth c nL A D cells slots Q w lv n (.int (nI L) :: st)) : zt p l e R s m args below meth c nL A D cells slots Q w lv pc (.ref b :: st) := by
  subst hn
  exact fun H locs ls hP hS hl => va_slen C.1.1 C.1.2.1 hX hbl hA hS d5 (K H locs ls hP hS hl)
theorem z_tblIn {dflt lo hi : Int} {offs : Array Int} {len : Nat} {x : Int32} {off : Int} (C : zC p R s m args meth c cc nL own Ts D T fr lc cells slots) (tgt : Nat) (hd : decode cc pc = .ok (.tableswitch dflt lo hi offs, len)) (h1 : ¬ x.toInt < lo) (h2 : ¬ hi < x.toInt) (ho : offs[(x.toInt - lo).toNat]? = some off) (ht : (pc : Int) + off = (tgt : Int)) (K : zt p l e R s m args below meth c nL A D cells slots Q w lv tgt st) : zt p l e R s m args below meth c nL A D cells slots Q w lv pc (.int x :: st) :=
  fun H locs ls hP hS hl => lv_tableIn C.1.1 C.1.2.1 hd h1 h2 ho ht (K H locs ls hP hS hl)
theorem z_tblOut {dflt lo hi : Int} {offs : Array Int} {len : Nat} {x : Int32} (C : zC p R s m args meth c cc nL own Ts D T fr lc cells slots) (tgt : Nat) (hd : decode cc pc = .ok (.tableswitch dflt lo hi offs, len)) (h : x.toInt < lo ∨ hi < x.toInt) (ht : (pc : Int) + dflt = (tgt : Int)) (K : zt p l e R s m args below meth c nL A D cells slots Q w lv tgt st) : zt p l e R s m args below meth c nL A D cells slots Q w lv pc (.int x :: st) :=
  fun H locs ls hP hS hl => lv_tableOut C.1.1 C.1.2.1 hd h ht (K H locs ls hP hS hl)
theorem z_perm {w' : va_W} (pm : List Nat) (hN : pm.filterMap (fun i => w[i]?) = w') (K : zt p l e R s m args below meth c nL A D cells slots Q w' lv pc st) : zt p l e R s m args below meth c nL A D cells slots Q w lv pc st :=
  fun H locs ls hP hS hl => K H locs ls (hP.sub pm hN) hS hl
section CALLM
variable {y : MethodName} {bytes : ByteArray} {maxL index : Nat} {ret : Option FieldType} {ws ws' : List Cond} {rm : Room} {st0 : List Value} {av : List Value} {wa wc wb w1 : va_W} {v : Int32} {n : Nat}
theorem z_callM (C : zC p R s m args meth c cc nL own Ts D T fr lc cells slots) (hM : zWI l y ws rm D T av wc v w1) (hrm : rm.cells = 0 ∧ rm.slots = 0) (cw : zCW R s args own index y bytes maxL ret ws rm rm.cells rm.slots n 0) (hD : va_D A (wa ++ (wc ++ wb))) (hrecv : ∃ (b : Nat) (As : List Value) (ci q0 : Nat) (q : vw_C) (fs : List Value), av = .ref b :: As ∧ As.length = n ∧ vwCl[ci]? = some q ∧ wc[q0]? = some (b, .inr (ci, fs)) ∧ q.1 = y.cls) (hst0 : st0 = av.reverse ++ st) (hst : (st.map fun v => v.category).sum ≤ 8) (hd : decode cc pc = .ok (.invokevirtual index, 3)) (n2 : Nat) (hn : pc + 3 = n2)
    (K : zt p l e R s m args below meth c nL A D cells slots Q (wa ++ (w1 ++ wb)) lv n2 (.int v :: st)) : zt p l e R s m args below meth c nL A D cells slots Q (wa ++ (wc ++ wb)) lv pc st0 := by
  subst hn
  intro H locs ls hP hS hl
  rw [hrm.1, hrm.2] at cw
  have hPc : va_P D vwCl wc H := zP_c hP
  have hDc : va_D (fun _ => True) wc := (zD_c hD).weaken (fun _ _ _ _ => trivial)
  refine va_calli (A1 := zA wc) (z_run (n := n) (kd := 0) (av := av) C hM cw zPre.blind (fun _ => ?_) (fun h => absurd rfl h) (fun U hU hW => ⟨rfl, by rw [hU]; exact hPc, C.2.1.warm hW, hDc⟩) hl.1 hst0 hst hd ⟨C.2.2.2.2.1, C.2.2.2.2.2⟩) hS (fun q _ h => zA_c hD h) (fun q h => zA_c hD h) (fun r u t H1 locs1 ht hvm hw hB hz1 hk1 hS1 => ?_)
  · obtain ⟨b, As, ci, q0, q, fs, h1, h2, h3, h4, h5⟩ := hrecv
    exact ⟨b, As, h1, h2, h5 ▸ va_recv C.2.1.1 hPc h3 h4⟩
  · have hw : r = v := hw
    subst hw
    have hB : va_P D vwCl w1 t.heap := hB
    rw [ht] at hB
    exact K H1 locs1 ls (zP_mid hP hD hk1 hB) hS1 hl
theorem z_callMR (C : zC p R s m args meth c cc nL own Ts D T fr lc cells slots) (hM : zRI l y ws rm D T av wc v) (hrm : rm.cells = 0 ∧ rm.slots = 0) (cw : zCW R s args own index y bytes maxL ret ws rm rm.cells rm.slots n 0) (hD : va_D A (wa ++ (wc ++ wb))) (hrecv : ∃ (b : Nat) (As : List Value) (ci q0 : Nat) (q : vw_C) (fs : List Value), av = .ref b :: As ∧ As.length = n ∧ vwCl[ci]? = some q ∧ wc[q0]? = some (b, .inr (ci, fs)) ∧ q.1 = y.cls) (hst0 : st0 = av.reverse ++ st) (hst : (st.map fun v => v.category).sum ≤ 8) (hd : decode cc pc = .ok (.invokevirtual index, 3)) (n2 : Nat) (hn : pc + 3 = n2)
    (K : zt p l e R s m args below meth c nL A D cells slots Q (wa ++ (wc ++ wb)) lv n2 (.int v :: st)) : zt p l e R s m args below meth c nL A D cells slots Q (wa ++ (wc ++ wb)) lv pc st0 := by
  subst hn
  intro H locs ls hP hS hl
  rw [hrm.1, hrm.2] at cw
  have hPc : va_P D vwCl wc H := zP_c hP
  have hDc : va_D (fun _ => True) wc := (zD_c hD).weaken (fun _ _ _ _ => trivial)
  refine va_calli (A1 := fun _ => False) (z_run (n := n) (kd := 0) (av := av) C hM cw zPre.blind (fun _ => ?_) (fun h => absurd rfl h) (fun U hU hW => ⟨rfl, by rw [hU]; exact hPc, C.2.1.warm hW, hDc⟩) hl.1 hst0 hst hd ⟨C.2.2.2.2.1, C.2.2.2.2.2⟩) hS (fun q _ h => h.elim) (fun q h => h.elim) (fun r u t H1 locs1 ht hvm hw hB hz1 hk1 hS1 => ?_)
  · obtain ⟨b, As, ci, q0, q, fs, h1, h2, h3, h4, h5⟩ := hrecv
    exact ⟨b, As, h1, h2, h5 ▸ va_recv C.2.1.1 hPc h3 h4⟩
  · have hw : r = v := hw
    subst hw
    exact K H1 locs1 ls (hP.zkept (fun q hq => hk1 q hq (fun f => f.elim))) hS1 hl
theorem z_callME (C : zC p R s m args meth c cc nL own Ts D T fr lc cells slots) (E : zE adK adV A s s.heap ∧ zR adK s) (hM : zWIE l y ws rm D T adK adV av wc v w1) (hrm : rm.cells = 0 ∧ rm.slots = 0) (cw : zCW R s args own index y bytes maxL ret ws rm rm.cells rm.slots n 0) (hD : va_D A (wa ++ (wc ++ wb))) (hrecv : ∃ (b : Nat) (As : List Value) (ci q0 : Nat) (q : vw_C) (fs : List Value), av = .ref b :: As ∧ As.length = n ∧ vwCl[ci]? = some q ∧ wc[q0]? = some (b, .inr (ci, fs)) ∧ q.1 = y.cls) (hst0 : st0 = av.reverse ++ st) (hst : (st.map fun v => v.category).sum ≤ 8) (hd : decode cc pc = .ok (.invokevirtual index, 3)) (n2 : Nat) (hn : pc + 3 = n2)
    (K : zt p l e R s m args below meth c nL A D cells slots Q (wa ++ (w1 ++ wb)) lv n2 (.int v :: st)) : zt p l e R s m args below meth c nL A D cells slots Q (wa ++ (wc ++ wb)) lv pc st0 := by
  subst hn
  intro H locs ls hP hS hl
  rw [hrm.1, hrm.2] at cw
  have hPc : va_P D vwCl wc H := zP_c hP
  have hDc : va_D (fun _ => True) wc := (zD_c hD).weaken (fun _ _ _ _ => trivial)
  refine va_calli (A1 := zA wc) (z_run (n := n) (kd := 0) (av := av) C hM cw zPreE.blind (fun _ => ?_) (fun h => absurd rfl h) (fun U hU hW => ⟨rfl, by rw [hU]; exact hPc, C.2.1.warm hW, hDc, by rw [hU]; exact ((E.1.kept hS.2.1).narrow (fun _ h => zA_c hD h)).moved hW.alike, E.2.warm hW⟩) hl.1 hst0 hst hd ⟨C.2.2.2.2.1, C.2.2.2.2.2⟩) hS (fun q _ h => zA_c hD h) (fun q h => zA_c hD h) (fun r u t H1 locs1 ht hvm hw hB hz1 hk1 hS1 => ?_)
  · obtain ⟨b, As, ci, q0, q, fs, h1, h2, h3, h4, h5⟩ := hrecv
    exact ⟨b, As, h1, h2, h5 ▸ va_recv C.2.1.1 hPc h3 h4⟩
  · have hw : r = v := hw
    subst hw
    have hB : va_P D vwCl w1 t.heap := hB
    rw [ht] at hB
    exact K H1 locs1 ls (zP_mid hP hD hk1 hB) hS1 hl
theorem z_callMN {fr2 lc2 kc : Nat} (C : zC p R s m args meth c cc nL own Ts D T fr lc cells slots) (hM : ∀ sz, zWN l y ws fr2 lc2 D T av wc sz v w1 kc) (cw : zCW R s args own index y bytes maxL ret ws ({ frames := fr2, cells := kc, slots := 5 * kc, locals := lc2 } : Room) kc (5 * kc) n 0) (hk : cells + kc ≤ R.cells ∧ slots + 5 * kc ≤ R.slots) (hD : va_D A (wa ++ (wc ++ wb))) (hA : ∀ q, s.heap.size ≤ q → A q) (hrecv : ∃ (b : Nat) (As : List Value) (ci q0 : Nat) (q : vw_C) (fs : List Value), av = .ref b :: As ∧ As.length = n ∧ vwCl[ci]? = some q ∧ wc[q0]? = some (b, .inr (ci, fs)) ∧ q.1 = y.cls) (hst0 : st0 = av.reverse ++ st) (hst : (st.map fun v => v.category).sum ≤ 8) (hd : decode cc pc = .ok (.invokevirtual index, 3)) (n2 : Nat) (hn : pc + 3 = n2)
    (K : zt p l e R s m args below meth c nL A D (cells + kc) (slots + 5 * kc) Q (wa ++ (w1 ++ wb)) lv n2 (.int v :: st)) : zt p l e R s m args below meth c nL A D cells slots Q (wa ++ (wc ++ wb)) lv pc st0 := by
  subst hn
  intro H locs ls hP hS hl
  have hPc : va_P D vwCl wc H := zP_c hP
  have hDc : va_D (fun _ => True) wc := (zD_c hD).weaken (fun _ _ _ _ => trivial)
  have hin : ∀ q, zAn wc H.size q → A q := fun q hq => hq.elim (fun h => zA_c hD h) (fun h => hA q (Nat.le_trans hS.1 h))
  refine va_calli (A1 := zAn wc H.size) (z_run (n := n) (kd := 0) (av := av) C (hM H.size) cw zPreN.blind (fun _ => ?_) (fun h => absurd rfl h) (fun U hU hW => ⟨rfl, by rw [hU], by rw [hU]; exact hPc, C.2.1.warm hW, hDc⟩) hl.1 hst0 hst hd hk) hS (fun q _ h => hin q h) (fun q h => hin q h) (fun r u t H1 locs1 ht hvm hw hB hz1 hk1 hS1 => ?_)
  · obtain ⟨b, As, ci, q0, q, fs, h1, h2, h3, h4, h5⟩ := hrecv
    exact ⟨b, As, h1, h2, h5 ▸ va_recv C.2.1.1 hPc h3 h4⟩
  · have hw : r = v := hw
    subst hw
    have hB : va_P D vwCl w1 t.heap := hB
    rw [ht] at hB
    exact K H1 locs1 ls (zP_mid hP hD (fun q hq h => hk1 q hq (fun h2 => h2.elim h (fun h3 => absurd hq (Nat.not_lt.mpr h3)))) hB) hS1 hl
theorem z_callL (C : zC p R s m args meth c cc nL own Ts D T fr lc cells slots) (hM : zWI l y ws rm D T av wc v w1) (hrm : rm.cells = 0 ∧ rm.slots = 0) (cw : zCW R s args own index y bytes maxL ret ws rm rm.cells rm.slots n 0) (hD : va_D A (wc ++ wb)) (hrecv : ∃ (b : Nat) (As : List Value) (ci q0 : Nat) (q : vw_C) (fs : List Value), av = .ref b :: As ∧ As.length = n ∧ vwCl[ci]? = some q ∧ wc[q0]? = some (b, .inr (ci, fs)) ∧ q.1 = y.cls) (hst0 : st0 = av.reverse ++ st) (hst : (st.map fun v => v.category).sum ≤ 8) (hd : decode cc pc = .ok (.invokevirtual index, 3)) (n2 : Nat) (hn : pc + 3 = n2)
    (K : zt p l e R s m args below meth c nL A D cells slots Q (w1 ++ wb) lv n2 (.int v :: st)) : zt p l e R s m args below meth c nL A D cells slots Q (wc ++ wb) lv pc st0 :=
  z_callM (wa := []) C hM hrm cw hD hrecv hst0 hst hd n2 hn K
theorem z_callLE (C : zC p R s m args meth c cc nL own Ts D T fr lc cells slots) (E : zE adK adV A s s.heap ∧ zR adK s) (hM : zWIE l y ws rm D T adK adV av wc v w1) (hrm : rm.cells = 0 ∧ rm.slots = 0) (cw : zCW R s args own index y bytes maxL ret ws rm rm.cells rm.slots n 0) (hD : va_D A (wc ++ wb)) (hrecv : ∃ (b : Nat) (As : List Value) (ci q0 : Nat) (q : vw_C) (fs : List Value), av = .ref b :: As ∧ As.length = n ∧ vwCl[ci]? = some q ∧ wc[q0]? = some (b, .inr (ci, fs)) ∧ q.1 = y.cls) (hst0 : st0 = av.reverse ++ st) (hst : (st.map fun v => v.category).sum ≤ 8) (hd : decode cc pc = .ok (.invokevirtual index, 3)) (n2 : Nat) (hn : pc + 3 = n2)
    (K : zt p l e R s m args below meth c nL A D cells slots Q (w1 ++ wb) lv n2 (.int v :: st)) : zt p l e R s m args below meth c nL A D cells slots Q (wc ++ wb) lv pc st0 :=
  z_callME (wa := []) C E hM hrm cw hD hrecv hst0 hst hd n2 hn K
theorem z_callLA {sa : Nat} {cJ : ClassId} {ex : Option Int32} {wf : (Nat → Int64) → va_W} (C : zC p R s m args meth c cc nL own Ts D T fr lc cells slots) (X : zXw sa A s s.heap) (KJ : va_K D vwCl [(cJ, .long)] s) (hM : vx_Met l yL_at wsL_at2 rmY (zPreY D T sa cJ av wc) (zQY D ex wf wc) zXY 1 6 (zA wc)) (cw : vx_CSW R s args own index yL_at cL_at 5 (some .int) [(0, 10, 13, 13)] wsL_at2 rmY 1 6 4) (hk : cells + 1 ≤ R.cells ∧ slots + 6 ≤ R.slots) (hD : va_D A (wc ++ wb)) (hav : av.length = 4) (hst0 : st0 = av.reverse ++ st) (hst : (st.map fun v => v.category).sum ≤ 8) (hd : decode cc pc = .ok (.invokestatic index, 3)) (n2 : Nat) (hn : pc + 3 = n2)
    (K : ∀ (r : Int32) (f' : Nat → Int64), ((∃ v, ex = some v ∧ r = 0 ∧ f' 0 = v.toInt64) ∨ (ex = none ∧ r = 1)) → zt p l e R s m args below meth c nL A D (cells + 1) (slots + 6) Q (wf f' ++ wb) lv n2 (.int r :: st)) : zt p l e R s m args below meth c nL A D cells slots Q (wc ++ wb) lv pc st0 := by
  subst hn; subst hst0
  intro H locs ls hP hS hl
  have hPc : va_P D vwCl wc H := zP_c (wa := []) hP
  have hDc : va_D (fun _ => True) wc := (zD_c (wa := []) hD).weaken (fun _ _ _ _ => trivial)
  have hin : ∀ q, zA wc q → A q := fun q h => zA_c (wa := []) hD h
  refine vx_calli (A1 := zA wc) (vx_runSX (As := av) (rest := st) C.1 hM cw ⟨zPreY.blind, fun U hU hW => ⟨rfl, by rw [hU]; exact hPc, C.2.1.warm hW, hDc, by rw [hU]; exact ((X.kept hS.2.1).narrow hin).warm hW, va_K.moved hW.alike KJ⟩⟩ rfl hav hl.1 rfl (lv_room hst) hd hk) hS (fun q _ h => hin q h) (fun q h => hin q h) (fun q _ h => h.elim) (fun E ce q9 u t H1 locs1 ht hvm hpx hBx hz1 hk1 hS1 hce hcv hcl => hpx.elim) (fun r f' t H1 locs1 ht hvm hw hB hz1 hk1 hS1 => ?_)
  have hB : va_P D vwCl (wf f') t.heap := hB
  rw [ht] at hB
  exact K r f' hw H1 locs1 ls (zP_mid (wa := []) hP hD hk1 hB) hS1 hl
end CALLM
end LWR
