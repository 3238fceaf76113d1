/-! methods that use the words: what is known of the constants goes along -/
section ZENV
def zidx : List Nat := [51, 66, 71, 76, 80, 84]
def ztx : List String := ["chart", "place", "rocks", "base", "bend", "reach"]
def zR (adK : Nat → Nat) (U : State) : Prop := ∀ i, i < 6 → vk_R RX4 (zidx.getD i 0) (ztx.getD i "") (adK i) U
theorem zR.warm {adK : Nat → Nat} {s U : State} (h : zR adK s) (hW : s.WarmedH U.vm) : zR adK U := fun i hi => (h i hi).warm hW
def zPreE (D : va_G) (T : Nat → ClassId) (adK adV : Nat → Nat) (A : Nat → Prop) (av : List Value) (w : va_W) : Array Value → State → Prop := va_Pc av (fun U => va_P D vwCl w U.heap ∧ zK D T U ∧ va_D (fun _ => True) w ∧ zE adK adV A U U.heap ∧ zR adK U)
theorem zPreE.blind {D : va_G} {T : Nat → ClassId} {adK adV : Nat → Nat} {A : Nat → Prop} {av : List Value} {w : va_W} : FrameBlind (zPreE D T adK adV A av w) := fun a U g mk q => ⟨q.1, q.2.1, q.2.2.1.calling g mk a, q.2.2.2.1, zE.moved (u := U) (U := U.calling g mk a) (Vm.Alike.refl U.vm) q.2.2.2.2.1, fun i hi => vk_R.same (u := U) rfl (q.2.2.2.2.2 i hi)⟩
def zRE (l : Launch) (y : MethodName) (ws : List Cond) (rm : Room) (D : va_G) (T : Nat → ClassId) (adK adV : Nat → Nat) (av : List Value) (w : va_W) (v : Int32) : Prop := Met l y ws rm (zPreE D T adK adV (fun _ => False) av w) (zQI v) 0 0 (fun _ => False)
def zWIE (l : Launch) (y : MethodName) (ws : List Cond) (rm : Room) (D : va_G) (T : Nat → ClassId) (adK adV : Nat → Nat) (av : List Value) (w : va_W) (v : Int32) (w' : va_W) : Prop := Met l y ws rm (zPreE D T adK adV (zA w) av w) (zQJ D w v w') 0 0 (zA w)
def zWVE (l : Launch) (y : MethodName) (ws : List Cond) (rm : Room) (D : va_G) (T : Nat → ClassId) (adK adV : Nat → Nat) (av : List Value) (w : va_W) (w' : va_W) : Prop := Met l y ws rm (zPreE D T adK adV (zA w) av w) (zQV D w w') 0 0 (zA w)
variable {p : Program} {l : Launch} {e : Env} {R : Room} {s : State} {m : MethodId} {args : Array Value} {below : List Frame} {meth : Method} {c : Code} {cells slots : Nat} {Q : State → Prop}
variable {cc : ByteArray} {nL fr lc : Nat} {own : String} {Ts : List Cond} {A : Nat → Prop} {D : va_G} {T : Nat → ClassId}
variable {w : va_W} {lv : List (Nat × Value)} {pc : Nat} {st : List Value} {adK adV : Nat → Nat}
theorem ze_ldc (C : zC p R s m args meth c cc nL RX4 Ts D T fr lc cells slots) (E : zE adK adV A s s.heap ∧ zR adK s) (i : Nat) (hi : i < 6) (index : Nat) (hx : zidx.getD i 0 = index) (hd : decode cc pc = .ok (.ldc index, 2)) (n : Nat) (hn : pc + 2 = n) (K : zt p l e R s m args below meth c nL A D cells slots Q w lv n (.ref (adK i) :: st)) : zt p l e R s m args below meth c nL A D cells slots Q w lv pc st := by
  subst hn; subst hx
  exact fun H locs ls hP hS hl => va_ldcS C.1.1 C.1.2.1 C.1.2.2.2.1 (E.2 i hi) hd (K H locs ls hP hS hl)
theorem z_beginE {y : MethodName} {ws ws' : List Cond} {rm : Room} {av : List Value} {Qc : Array Value → State → Outcome → State → Prop} {ret : Option FieldType} (hy : plainName y.cls = true) (hw0 : ws = Cond.code y cc nL ret :: ws') (hav : (lg_sl av).length ≤ nL) (lv0 : List (Nat × Value)) (hlv : lv_args 0 av = lv0) (hrm : rm.frames = fr ∧ rm.locals = lc) (hown : y.cls = own)
    (body : ∀ (p : Program) (e : Env) (s : State) (m : MethodId) (args : Array Value) (below : List Frame) (meth : Method) (c : Code), zC p rm s m args meth c cc nL own ws D T fr lc 0 0 → zE adK adV A s s.heap ∧ zR adK s → meth.sig.returnType = ret → va_D (fun _ => True) w → zt p l e rm s m args below meth c nL A D 0 0 (MQ below Qc args s 0 0 A) w lv0 0 []) : Met l y ws rm (zPreE D T adK adV A av w) Qc 0 0 A := by
  refine Met.ofW (cc := cc) (maxL := nL) (ret := ret) hy hw0 ?_
  intro p e s m args below meth c s₁ B hml hv
  obtain ⟨rfl, hP, hK, hD, hE⟩ := hv
  have hts := atoms_spec (ws := ws) B.pre
  have hfc : s.vm.findClass own = some m.cls := hown ▸ findClass_of_methodNamed B.named
  have hl := lv_entry av (n := nL) hav
  rw [hlv] at hl
  rw [lg_entry_eq]
  exact body p e s m av.toArray below meth c ⟨⟨B.exec, B.bytes, hml, hfc, hts⟩, hK, B.notSynchronized, ⟨Nat.le_of_eq hrm.1.symm, Nat.le_of_eq hrm.2.symm⟩, Nat.zero_le _, Nat.zero_le _⟩ hE B.returns hD s.heap [] _ hP va_S.rf hl
theorem z_putR (C : zC p R s m args meth c cc nL own Ts D T fr lc cells slots) {ref Cn E : String} {F : u_T} {N ci index a b : Nat} {fs : List Value} (w' : va_W) (hD : va_D A w) (hin : ∀ x ∈ u_ws Cn F N, x ∈ Ts) (ty0 : Nat → FieldType) (hty : ∀ k, k < N → parseFieldDescriptor (F k).2.2.1 = some (ty0 k)) (hnm : ∀ a, a < N → ∀ b, b < N → a ≠ b → (F a).2.1 ≠ (F b).2.1) (q0 : Nat) (he : w[q0]? = some (a, .inr (ci, fs))) (hc : vwCl[ci]? = some (Cn, F, N)) (k : Nat) (hk : k < N) (hl : Cond.fieldLink own index ref (F k).2.1 (F k).2.2.1 ∈ Ts) (hr : (F k).1 = ref) (hfin : (F k).2.2.2 = false) (hd0 : parseFieldDescriptor (F k).2.2.1 = some (.object E)) (hlen : k < fs.length)
    (hw : w.set q0 (a, .inr (ci, fs.set k (.ref b))) = w') (hd : decode cc pc = .ok (.putfield index, 3)) (n : Nat) (hn : pc + 3 = n)
    (K : zt p l e R s m args below meth c nL A D cells slots Q w' lv n st) : zt p l e R s m args below meth c nL A D cells slots Q w lv pc (.ref b :: .ref a :: st) := by
  subst hn; subst hr
  exact fun H locs ls hP hS hl2 => va_put (D := D) C.1.1 C.1.2.1 C.1.2.2.2.2 hin ty0 hty hnm C.1.2.2.2.1 C.2.1.1 hP hD hS q0 he hc k hk (C.1.2.2.2.2 _ hl) (fun _ h => h) hfin hd0 rfl rfl hlen hd (fun H1 locs1 hP1 _ hS1 => K H1 locs1 ls (hw ▸ hP1) hS1 hl2)
section CALLE
variable {y : MethodName} {bytes : ByteArray} {maxL index : Nat} {ret : Option FieldType} {ws ws' : List Cond} {rm : Room} {β ρ : Type} {ex : β} {g : Option ρ} {F : ρ → Option β} {st0 : List Value} {A' : Nat → Prop}
theorem z_charAt {wi : Nat} {x : Int32} {G : Nat → Option β} (C : zC p R s m args meth c cc nL own Ts D T fr lc cells slots) (E : zE adK adV A s s.heap ∧ zR adK s) (hwi : wi < 6) (cw : zCW R s args own index yJ0_charAt_5068e bytes maxL ret wsJ0_charAt_5068e ({ frames := 3, cells := 0, slots := 0, locals := 64 } : Room) 0 0 1 0) (hst : (st.map fun v => v.category).sum ≤ 8) (hd : decode cc pc = .ok (.invokevirtual index, 3)) (n2 : Nat) (hn : pc + 3 = n2) (h : zix x (zlen.getD wi 0) G = some ex)
    (K : G x.toNatClampNeg = some ex → zt p l e R s m args below meth c nL A D cells slots Q w lv n2 (.int (zchr wi x) :: st)) : zt p l e R s m args below meth c nL A D cells slots Q w lv pc (.int x :: .ref (adK wi) :: st) := by
  obtain ⟨hin, h⟩ := zix_some h
  have hs := zlen_small wi hwi
  obtain ⟨j, hj, rfl⟩ := vp_in_of hin (by omega)
  have e1 : zchr wi (nI j) = (zbyt.getD wi []).getD j 0 := by unfold zchr; rw [nI_clamp (by omega)]
  have K2 := K h
  rw [e1] at K2
  exact z_callS (kd := 0) (av := [.ref (adK wi), .int (nI j)]) C (c_J0_charAt l D T adK adV hwi hj) ⟨rfl, rfl⟩ cw E.1 (fun _ => ⟨wi, [.int (nI j)], rfl, rfl, hwi, rfl⟩) (fun h => absurd rfl h) rfl hst hd n2 hn K2
theorem z_callRE {g : Option Int32} {F : Int32 → Option β} {n : Nat} {av : List Value} (C : zC p R s m args meth c cc nL own Ts D T fr lc cells slots) (E : zE adK adV A s s.heap ∧ zR adK s) (wc : va_W) (hM : ∀ v, g = some v → zRE l y ws rm D T adK adV av wc v) (hrm : rm.cells = 0 ∧ rm.slots = 0) (cw : zCW R s args own index y bytes maxL ret ws rm rm.cells rm.slots n 0) (hD : va_D A' w) (isC : List Nat) (hnd : va_nd isC = true) (hC : isC.map (fun i => w[i]?) = wc.map some) (hrecv : ∃ (b : Nat) (As : List Value) (ci q0 : Nat) (q : vw_C) (fs : List Value), av = .ref b :: As ∧ As.length = n ∧ vwCl[ci]? = some q ∧ wc[q0]? = some (b, .inr (ci, fs)) ∧ q.1 = y.cls) (hst0 : st0 = av.reverse ++ st) (hst : (st.map fun v => v.category).sum ≤ 8) (hd : decode cc pc = .ok (.invokevirtual index, 3)) (n2 : Nat) (hn : pc + 3 = n2) (h : g.bind F = some ex)
    (K : ∀ r, F r = some ex → zt p l e R s m args below meth c nL A D cells slots Q w lv n2 (.int r :: st)) : zt p l e R s m args below meth c nL A D cells slots Q w lv pc st0 := by
  subst hn
  intro H locs ls hP hS hl
  obtain ⟨v, hv, h⟩ := Option.bind_eq_some_iff.mp h
  rw [hrm.1, hrm.2] at cw
  have hPc : va_P D vwCl wc H := z_pickP hP hC
  have hDc : va_D (fun _ => True) wc := (hD.sub isC hnd hC).weaken (fun _ _ _ _ => trivial)
  refine va_calli (A1 := fun _ => False) (z_run (n := n) (kd := 0) (av := av) C (hM v hv) cw zPreE.blind (fun _ => ?_) (fun h => absurd rfl h) (fun U hU hW => ⟨rfl, by rw [hU]; exact hPc, C.2.1.warm hW, hDc, by rw [hU]; exact ((E.1.kept hS.2.1).narrow (fun _ h => h.elim)).moved hW.alike, E.2.warm hW⟩) hl.1 hst0 hst hd ⟨C.2.2.2.2.1, C.2.2.2.2.2⟩) hS (fun q _ h => h.elim) (fun q h => h.elim) (fun r u t H1 locs1 ht hvm hw hB hz1 hk1 hS1 => ?_)
  · obtain ⟨b, As, ci, q0, q, fs, h1, h2, h3, h4, h5⟩ := hrecv
    exact ⟨b, As, h1, h2, h5 ▸ va_recv C.2.1.1 hPc h3 h4⟩
  · have hw : r = v := hw
    subst hw
    exact K r h H1 locs1 ls (hP.zkept (fun q hq => hk1 q hq (fun f => f.elim))) hS1 hl
theorem z_callWE {n : Nat} {av : List Value} (C : zC p R s m args meth c cc nL own Ts D T fr lc cells slots) (E : zE adK adV A s s.heap ∧ zR adK s) (wc wr : va_W) (rv : ρ → Int32) (w1 wn : ρ → va_W) (hM : ∀ x, g = some x → zWIE l y ws rm D T adK adV av wc (rv x) (w1 x)) (hrm : rm.cells = 0 ∧ rm.slots = 0) (cw : zCW R s args own index y bytes maxL ret ws rm rm.cells rm.slots n 0) (hD : va_D A w) (isC isR pm : List Nat) (hnd : va_nd isC = true) (hC : isC.map (fun i => w[i]?) = wc.map some) (hR : isR.map (fun i => w[i]?) = wr.map some) (hdis : ∀ i ∈ isR, i ∉ isC) (hN : ∀ x, pm.filterMap (fun i => (wr ++ w1 x)[i]?) = wn x) (hrecv : ∃ (b : Nat) (As : List Value) (ci q0 : Nat) (q : vw_C) (fs : List Value), av = .ref b :: As ∧ As.length = n ∧ vwCl[ci]? = some q ∧ wc[q0]? = some (b, .inr (ci, fs)) ∧ q.1 = y.cls) (hst0 : st0 = av.reverse ++ st) (hst : (st.map fun v => v.category).sum ≤ 8) (hd : decode cc pc = .ok (.invokevirtual index, 3)) (n2 : Nat) (hn : pc + 3 = n2) (h : g.bind F = some ex)
    (K : ∀ x, F x = some ex → zt p l e R s m args below meth c nL A D cells slots Q (wn x) lv n2 (.int (rv x) :: st)) : zt p l e R s m args below meth c nL A D cells slots Q w lv pc st0 := by
  subst hn
  intro H locs ls hP hS hl
  obtain ⟨v, hv, h⟩ := Option.bind_eq_some_iff.mp h
  rw [hrm.1, hrm.2] at cw
  have hPc : va_P D vwCl wc H := z_pickP hP hC
  have hDc : va_D (fun _ => True) wc := (hD.sub isC hnd hC).weaken (fun _ _ _ _ => trivial)
  refine va_calli (A1 := zA wc) (z_run (n := n) (kd := 0) (av := av) C (hM v hv) cw zPreE.blind (fun _ => ?_) (fun h => absurd rfl h) (fun U hU hW => ⟨rfl, by rw [hU]; exact hPc, C.2.1.warm hW, hDc, by rw [hU]; exact ((E.1.kept hS.2.1).narrow (fun _ h => zA.sub hD isC hC h)).moved hW.alike, E.2.warm hW⟩) hl.1 hst0 hst hd ⟨C.2.2.2.2.1, C.2.2.2.2.2⟩) hS (fun q _ h => zA.sub hD isC hC h) (fun q h => zA.sub hD isC hC h) (fun r u t H1 locs1 ht hvm hw hB hz1 hk1 hS1 => ?_)
  · obtain ⟨b, As, ci, q0, q, fs, h1, h2, h3, h4, h5⟩ := hrecv
    exact ⟨b, As, h1, h2, h5 ▸ va_recv C.2.1.1 hPc h3 h4⟩
  · have hw : r = rv v := hw
    subst hw
    have hB : va_P D vwCl (w1 v) t.heap := hB
    rw [ht] at hB
    exact K v h H1 locs1 ls ((z_join hP hD isC isR hC hR hdis hk1 hB).sub pm (hN v)) hS1 hl
theorem z_callVE {n : Nat} {av : List Value} (C : zC p R s m args meth c cc nL own Ts D T fr lc cells slots) (E : zE adK adV A s s.heap ∧ zR adK s) (wc wr : va_W) (w1 wn : ρ → va_W) (hM : ∀ x, g = some x → zWVE l y ws rm D T adK adV av wc (w1 x)) (hrm : rm.cells = 0 ∧ rm.slots = 0) (cw : zCW R s args own index y bytes maxL ret ws rm rm.cells rm.slots n 0) (hD : va_D A w) (isC isR pm : List Nat) (hnd : va_nd isC = true) (hC : isC.map (fun i => w[i]?) = wc.map some) (hR : isR.map (fun i => w[i]?) = wr.map some) (hdis : ∀ i ∈ isR, i ∉ isC) (hN : ∀ x, pm.filterMap (fun i => (wr ++ w1 x)[i]?) = wn x) (hrecv : ∃ (b : Nat) (As : List Value) (ci q0 : Nat) (q : vw_C) (fs : List Value), av = .ref b :: As ∧ As.length = n ∧ vwCl[ci]? = some q ∧ wc[q0]? = some (b, .inr (ci, fs)) ∧ q.1 = y.cls) (hst0 : st0 = av.reverse ++ st) (hst : (st.map fun v => v.category).sum ≤ 8) (hd : decode cc pc = .ok (.invokevirtual index, 3)) (n2 : Nat) (hn : pc + 3 = n2) (h : g.bind F = some ex)
    (K : ∀ x, F x = some ex → zt p l e R s m args below meth c nL A D cells slots Q (wn x) lv n2 st) : zt p l e R s m args below meth c nL A D cells slots Q w lv pc st0 := by
  subst hn
  intro H locs ls hP hS hl
  obtain ⟨v, hv, h⟩ := Option.bind_eq_some_iff.mp h
  rw [hrm.1, hrm.2] at cw
  have hPc : va_P D vwCl wc H := z_pickP hP hC
  have hDc : va_D (fun _ => True) wc := (hD.sub isC hnd hC).weaken (fun _ _ _ _ => trivial)
  refine va_callv (A1 := zA wc) (z_run (n := n) (kd := 0) (av := av) C (hM v hv) cw zPreE.blind (fun _ => ?_) (fun h => absurd rfl h) (fun U hU hW => ⟨rfl, by rw [hU]; exact hPc, C.2.1.warm hW, hDc, by rw [hU]; exact ((E.1.kept hS.2.1).narrow (fun _ h => zA.sub hD isC hC h)).moved hW.alike, E.2.warm hW⟩) hl.1 hst0 hst hd ⟨C.2.2.2.2.1, C.2.2.2.2.2⟩) hS (fun q _ h => zA.sub hD isC hC h) (fun q h => zA.sub hD isC hC h) (fun u t H1 locs1 ht hvm hw hB hz1 hk1 hS1 => ?_)
  · obtain ⟨b, As, ci, q0, q, fs, h1, h2, h3, h4, h5⟩ := hrecv
    exact ⟨b, As, h1, h2, h5 ▸ va_recv C.2.1.1 hPc h3 h4⟩
  · have hB : va_P D vwCl (w1 v) t.heap := hB
    rw [ht] at hB
    exact K v h H1 locs1 ls ((z_join hP hD isC isR hC hR hdis hk1 hB).sub pm (hN v)) hS1 hl
end CALLE
end ZENV
