/-! constructors -/
theorem z_nd_of : ∀ (l : List Nat), l.Nodup → va_nd l = true
  | [], _ => rfl
  | a :: l, h => by
    have h1 := List.nodup_cons.mp h
    show (decide (a ∉ l) && va_nd l) = true
    rw [z_nd_of l h1.2]
    simpa using h1.1
section ZMK
/-- a constructor: the object's cell o, empty, becomes a whole object with its arrays, at addresses of its own -/
def zNew (l : Launch) (y : MethodName) (ws : List Cond) (rm : Room) (D : va_G) (T : Nat → ClassId) (o : Nat) (w0 : va_W) (wf : (Nat → Nat) → va_W) (sz mc ms : Nat) : Prop := Met l y ws rm (zPreN D T [.ref o] w0 sz) (va_Qv (fun ad : Nat → Nat => ad 99 = o) (fun ad t => va_P D vwCl (wf ad) t.heap ∧ va_D (va_A w0 sz) (wf ad)) (va_A w0 sz)) mc ms (va_A w0 sz)
variable {p : Program} {l : Launch} {e : Env} {R : Room} {s : State} {m : MethodId} {args : Array Value} {below : List Frame} {meth : Method} {c : Code} {cells slots : Nat} {Q : State → Prop}
variable {cc : ByteArray} {nL fr lc : Nat} {own : String} {Ts : List Cond} {A : Nat → Prop} {D : va_G} {T : Nat → ClassId}
variable {w : va_W} {lv : List (Nat × Value)} {pc : Nat} {st : List Value}
def zCM (p : Program) (R : Room) (s : State) (m : MethodId) (args : Array Value) (meth : Method) (c : Code) (cc : ByteArray) (nL : Nat) (own : String) (Ts : List Cond) (D : va_G) (T : Nat → ClassId) (fr lc mc ms : Nat) : Prop :=
  (∀ a b, a ≤ mc → b ≤ ms → zC p R s m args meth c cc nL own Ts D T fr lc a b) ∧ mc ≤ R.cells ∧ ms ≤ R.slots
theorem z_beginM {y : MethodName} {ws ws' : List Cond} {rm : Room} {o sz mc ms : Nat} {Qc : Array Value → State → Outcome → State → Prop} (hy : plainName y.cls = true) (hw0 : ws = Cond.code y cc nL none :: ws') (hav : 1 ≤ nL) (hrm : rm.frames = fr ∧ rm.locals = lc ∧ rm.cells = mc ∧ rm.slots = ms) (hown : y.cls = own) (hyn : y.name = "<init>")
    (body : ∀ (p : Program) (e : Env) (s : State) (m : MethodId) (args : Array Value) (below : List Frame) (meth : Method) (c : Code), zCM p rm s m args meth c cc nL own ws D T fr lc mc ms → meth.sig.returnType = none → meth.name = "<init>" → va_D (va_A w sz) w → (∀ q, s.heap.size ≤ q → va_A w sz q) → zt p l e rm s m args below meth c nL (va_A w sz) D 0 0 (MQ below Qc args s mc ms (va_A w sz)) w [(0, .ref o)] 0 []) : Met l y ws rm (zPreN D T [.ref o] w sz) Qc mc ms (va_A w sz) := by
  refine Met.ofW (cc := cc) (maxL := nL) (ret := none) hy hw0 ?_
  intro p e s m args below meth c s₁ B hml hv
  obtain ⟨rfl, hsz, hP, hK, hD⟩ := hv
  have hts := atoms_spec (ws := ws) B.pre
  have hfc : s.vm.findClass own = some m.cls := hown ▸ findClass_of_methodNamed B.named
  have hin : meth.name = "<init>" := hyn ▸ (name_of_methodNamed B.named B.method).1
  have hl := lv_entry [Value.ref o] (n := nL) hav
  rw [lg_entry_eq]
  exact body p e s m [Value.ref o].toArray below meth c ⟨fun a b ha hb => ⟨⟨B.exec, B.bytes, hml, hfc, hts⟩, hK, B.notSynchronized, ⟨Nat.le_of_eq hrm.1.symm, Nat.le_of_eq hrm.2.1.symm⟩, by show a ≤ rm.cells; rw [hrm.2.2.1]; exact ha, by show b ≤ rm.slots; rw [hrm.2.2.2]; exact hb⟩, Nat.le_of_eq hrm.2.2.1.symm, Nat.le_of_eq hrm.2.2.2.symm⟩ B.returns hin hD.self (fun q hq => Or.inr (hsz ▸ hq)) s.heap [] _ hP va_S.rf hl
theorem z_objInit (C : zC p R s m args meth c cc nL own Ts D T fr lc cells slots) {idx a : Nat} (h1 : Cond.methodLink own idx Lib.objectInit ∈ Ts) (h2 : Cond.instanceMethod Lib.objectInit ∈ Ts) (h3 : Cond.code Lib.objectInit ⟨#[0xb1]⟩ 1 none ∈ Ts) (hf : 1 ≤ fr) (hl0 : 20 ≤ lc) (hst : (st.map fun v => v.category).sum ≤ 8) (hd : decode cc pc = .ok (.invokespecial idx, 3)) (n : Nat) (hn : pc + 3 = n) (K : zt p l e R s m args below meth c nL A D cells slots Q w lv n st) : zt p l e R s m args below meth c nL A D cells slots Q w lv pc (.ref a :: st) := by
  subst hn
  exact fun H locs ls hP hS hl => W.objInit C.1.1 C.1.2.1 C.1.2.2.2.1 (C.1.2.2.2.2 _ h1) (C.1.2.2.2.2 _ h2) (C.1.2.2.2.2 _ h3) rfl (by rw [C.1.2.2.1]; exact hl.1) rfl hd (Nat.le_trans hf C.2.2.2.1.1) (by have := C.2.2.2.1.2; have := lv_room (m := m) (pc := pc) (ls := ls) (rest := .ref a :: st) hst; omega) (K H locs ls hP hS hl)
theorem z_world {w' : va_W} (hw : w = w') (K : zt p l e R s m args below meth c nL A D cells slots Q w' lv pc st) : zt p l e R s m args below meth c nL A D cells slots Q w lv pc st := by subst hw; exact K
/-- an array is made -/
theorem z_newG {mc ms : Nat} (C : zCM p R s m args meth c cc nL own Ts D T fr lc mc ms) {atype : ArrayType} (ti N : Nat) (wf : Nat → va_W) {x : Int32} (hc : cells + 1 ≤ mc) (hs : slots + N ≤ ms) (hT : ∀ cA, s.vm.findClass ("[" ++ (newarray.typeOf atype).toString) = some cA → zK D T s → cA = T ti) (hdf : ∀ cA : ClassId, vp_cell cA (N, .inl (fun _ => 0)) = arrV cA N (fun _ => defaultValue (newarray.typeOf atype))) (hAr : Cond.arrayClass (newarray.typeOf atype) ∈ Ts) (hx0 : ¬ x < 0) (hxN : x.toNatClampNeg = N) (hby : N * componentBytes (newarray.typeOf atype) ≤ 536870912) (hD : va_D A w) (hA : ∀ q, s.heap.size ≤ q → A q) (hwf : ∀ q, w ++ [(q, .inl (T ti, N, .inl (fun _ => 0)))] = wf q) (hd : decode cc pc = .ok (.newarray atype, 2)) (k2 s2 : Nat) (hk2 : cells + 1 = k2) (hs2 : slots + N = s2) (n : Nat) (hn : pc + 2 = n)
    (KK : ∀ q, va_D A (wf q) → zt p l e R s m args below meth c nL A D k2 s2 Q (wf q) lv n (.ref q :: st)) : zt p l e R s m args below meth c nL A D cells slots Q w lv pc (.int x :: st) := by
  subst hn; subst hk2; subst hs2
  intro H locs ls hP hS hl
  have C0 := C.1 cells slots (by omega) (by omega)
  refine va_newaK (atype := atype) C0.1.1 C0.1.2.1 (C0.1.2.2.2.2 _ hAr) rfl hd (N := N) rfl hx0 hxN hby (by have := C.2.1; omega) (by have := C.2.2; omega) rfl (fun H1 cA e1 z1 o1 hArr hNm => ?_)
  have hcA : cA = T ti := hT cA hNm C0.2.1
  subst hcA
  have hk1 : ∀ (k : Nat) (x : Nat × va_E), w[k]? = some x → H1[x.1]? = H[x.1]? := fun k x hx => o1 x.1 ((hP k x hx).lt)
  have hD1 : va_D A (w ++ [(H.size, .inl (T ti, N, .inl (fun _ => 0)))]) := hD.push hP rfl (hA _ hS.1)
  have hP1 : va_P D vwCl (w ++ [(H.size, .inl (T ti, N, .inl (fun _ => 0)))]) H1 := by
    refine (hP.kept hk1).app (fun j x hx => ?_)
    have hz : j < 1 := (List.getElem?_eq_some_iff.mp hx).1
    rw [show j = 0 by omega] at hx
    cases hx
    show H1[H.size]? = some (vp_cell _ _)
    rw [hdf]
    exact e1
  have hS1 : va_S A s.heap H1 locs := ⟨Nat.le_trans hS.1 (by omega), fun x h1 h2 => (o1 x (Nat.lt_of_lt_of_le h1 hS.1)).trans (hS.2.1 x h1 h2), hS.2.2⟩
  rw [hwf] at hD1 hP1
  exact KK H.size hD1 H1 locs ls hP1 hS1 hl
theorem z_tI (cA : ClassId) (h : s.vm.findClass ("[" ++ (newarray.typeOf .int).toString) = some cA) (hK : zK D T s) : cA = T 0 := by
  have h1 : s.vm.findClass "[I" = some cA := h
  have h2 := hK.2.2.1
  rw [h1] at h2; exact Option.some.inj h2
theorem z_tZ (cA : ClassId) (h : s.vm.findClass ("[" ++ (newarray.typeOf .boolean).toString) = some cA) (hK : zK D T s) : cA = T 1 := by
  have h1 : s.vm.findClass "[Z" = some cA := h
  have h2 := hK.2.2.2.1
  rw [h1] at h2; exact Option.some.inj h2
theorem z_tB (cA : ClassId) (h : s.vm.findClass ("[" ++ (newarray.typeOf .byte).toString) = some cA) (hK : zK D T s) : cA = T 2 := by
  have h1 : s.vm.findClass "[B" = some cA := h
  have h2 := hK.2.2.2.2
  rw [h1] at h2; exact Option.some.inj h2
/-- a final field of the object that is made -/
theorem z_putF (C : zC p R s m args meth c cc nL own Ts D T fr lc cells slots) {ref Cn : String} {F : u_T} {N ci index a b : Nat} {fs : List Value} {ty : FieldType} (w' : va_W) (hD : va_D A w) (hin : ∀ x ∈ u_ws Cn F N, x ∈ Ts) (ty0 : Nat → FieldType) (hty : ∀ k, k < N → parseFieldDescriptor (F k).2.2.1 = some (ty0 k)) (hnm : ∀ a, a < N → ∀ b, b < N → a ≠ b → (F a).2.1 ≠ (F b).2.1) (hini : meth.name = "<init>") (q0 : Nat) (he : w[q0]? = some (a, .inr (ci, fs))) (hc : vwCl[ci]? = some (Cn, F, N)) (k : Nat) (hk : k < N) (hl : Cond.fieldLink own index ref (F k).2.1 (F k).2.2.1 ∈ Ts) (hr : (F k).1 = ref) (hfin : (F k).2.2.2 = true) (hdecl : (F k).1 = own) (hd0 : parseFieldDescriptor (F k).2.2.1 = some ty) (hnr : narrow ty (.ref b) = .ref b) (hfit : fits ty (.ref b) = true) (hlen : k < fs.length)
    (hw : w.set q0 (a, .inr (ci, fs.set k (.ref b))) = w') (hd : decode cc pc = .ok (.putfield index, 3)) (n : Nat) (hn : pc + 3 = n)
    (K : va_D A w' → zt p l e R s m args below meth c nL A D cells slots Q w' lv n st) : zt p l e R s m args below meth c nL A D cells slots Q w lv pc (.ref b :: .ref a :: st) := by
  subst hn; subst hr
  exact fun H locs ls hP hS hl2 => va_putF (D := D) C.1.1 C.1.2.1 C.1.2.2.2.2 hin ty0 hty hnm C.1.2.2.2.1 C.2.1.1 hP hD hS q0 he hc k hk (C.1.2.2.2.2 _ hl) (fun _ h => h) hfin hini hdecl hd0 hnr hfit hlen hd (fun H1 locs1 hP1 hD1 hS1 => K (hw ▸ hD1) H1 locs1 ls (hw ▸ hP1) hS1 hl2)
/-- a field that isn't final, of a reference, with what it leaves of the world's apartness -/
theorem z_putG (C : zC p R s m args meth c cc nL own Ts D T fr lc cells slots) {ref Cn : String} {F : u_T} {N ci index a b : Nat} {fs : List Value} {ty : FieldType} (w' : va_W) (hD : va_D A w) (hin : ∀ x ∈ u_ws Cn F N, x ∈ Ts) (ty0 : Nat → FieldType) (hty : ∀ k, k < N → parseFieldDescriptor (F k).2.2.1 = some (ty0 k)) (hnm : ∀ a, a < N → ∀ b, b < N → a ≠ b → (F a).2.1 ≠ (F b).2.1) (q0 : Nat) (he : w[q0]? = some (a, .inr (ci, fs))) (hc : vwCl[ci]? = some (Cn, F, N)) (k : Nat) (hk : k < N) (hl : Cond.fieldLink own index ref (F k).2.1 (F k).2.2.1 ∈ Ts) (hr : (F k).1 = ref) (hfin : (F k).2.2.2 = false) (hd0 : parseFieldDescriptor (F k).2.2.1 = some ty) (hnr : narrow ty (.ref b) = .ref b) (hfit : fits ty (.ref b) = true) (hlen : k < fs.length)
    (hw : w.set q0 (a, .inr (ci, fs.set k (.ref b))) = w') (hd : decode cc pc = .ok (.putfield index, 3)) (n : Nat) (hn : pc + 3 = n)
    (K : va_D A w' → zt p l e R s m args below meth c nL A D cells slots Q w' lv n st) : zt p l e R s m args below meth c nL A D cells slots Q w lv pc (.ref b :: .ref a :: st) := by
  subst hn; subst hr
  exact fun H locs ls hP hS hl2 => va_put (D := D) C.1.1 C.1.2.1 C.1.2.2.2.2 hin ty0 hty hnm C.1.2.2.2.1 C.2.1.1 hP hD hS q0 he hc k hk (C.1.2.2.2.2 _ hl) (fun _ h => h) hfin hd0 hnr hfit hlen hd (fun H1 locs1 hP1 hD1 hS1 => K (hw ▸ hD1) H1 locs1 ls (hw ▸ hP1) hS1 hl2)
theorem z_vretM {o sz mc ms : Nat} {w0 : va_W} {wf : (Nat → Nat) → va_W} (C : zCM p R s m args meth c cc nL own Ts D T fr lc mc ms) (ad : Nat → Nat) (hc : cells ≤ mc) (hs : slots ≤ ms) (hr : meth.sig.returnType = none) (hd : decode cc pc = .ok (.return_, 1)) (h99 : ad 99 = o) (hw : wf ad = w) (hD : va_D (va_A w0 sz) w) : zt p l e R s m args below meth c nL (va_A w0 sz) D cells slots (MQ below (va_Qv (fun ad : Nat → Nat => ad 99 = o) (fun ad t => va_P D vwCl (wf ad) t.heap ∧ va_D (va_A w0 sz) (wf ad)) (va_A w0 sz)) args s mc ms (va_A w0 sz)) w lv pc [] := by
  subst hw
  intro H locs ls hP hS hl
  have C0 := C.1 cells slots hc hs
  exact W.widen hc hs (W.vret C0.1.1 C0.1.2.1 hr (fun t ht hW => ⟨⟨ad, rfl, h99, by subst ht; exact hP, hD⟩, hS.F ht⟩) hS.2.2 hd C0.2.2.1)
/-- an object is made: its cell -/
theorem z_new {mc ms : Nat} (C : zCM p R s m args meth c cc nL own Ts D T fr lc mc ms) {Cn : String} {F : u_T} {N ci index : Nat} (fs : List Value) (hc1 : cells + 1 ≤ mc) (hs1 : slots + N ≤ ms) (hin : ∀ x ∈ u_ws Cn F N, x ∈ Ts) (ty0 : Nat → FieldType) (hty : ∀ k, k < N → parseFieldDescriptor (F k).2.2.1 = some (ty0 k)) (hl : Cond.classLink own index Cn ∈ Ts) (hi : Cond.instantiable Cn N ∈ Ts) (hini : Cond.initialized Cn ∈ Ts) (hc : vwCl[ci]? = some (Cn, F, N)) (hfs : ∀ j, j < N → defaultValue (ty0 j) = vp_V fs j) (hD : va_D A w) (hA : ∀ q, s.heap.size ≤ q → A q) (hd : decode cc pc = .ok (.new index, 3)) (k2 s2 : Nat) (hk2 : cells + 1 = k2) (hs2 : slots + N = s2) (n : Nat) (hn : pc + 3 = n)
    (KK : ∀ q, va_D A (w ++ [(q, .inr (ci, fs))]) → zt p l e R s m args below meth c nL A D k2 s2 Q (w ++ [(q, .inr (ci, fs))]) lv n (.ref q :: st)) : zt p l e R s m args below meth c nL A D cells slots Q w lv pc st := by
  subst hn; subst hk2; subst hs2
  intro H locs ls hP hS hl2
  have C0 := C.1 cells slots (by omega) (by omega)
  exact va_new (D := D) C0.1.1 C0.1.2.1 C0.1.2.2.2.2 hin ty0 hty C0.1.2.2.2.1 (C0.1.2.2.2.2 _ hl) (C0.1.2.2.2.2 _ hi) (C0.1.2.2.2.2 _ hini) C0.2.1.1 hP hD hS hA hc hfs (by have := C.2.1; omega) (by have := C.2.2; omega) hd (fun q H1 hP1 hD1 hS1 => KK q hD1 H1 locs ls hP1 hS1 hl2)
/-- its constructor is called: nest = true for a private one of a nest mate -/
theorem z_callI {y : MethodName} {ws ws' : List Cond} {rm : Room} {bytes : ByteArray} {maxL index mc ms mc1 ms1 b : Nat} {x : va_E} {wf : (Nat → Nat) → va_W} (C : zCM p R s m args meth c cc nL own Ts D T fr lc mc ms) (hM : ∀ sz, zNew l y ws rm D T b [(b, x)] wf sz mc1 ms1) (nest : Bool) (hG : GoodIn Ts ws) (hw : ws = Cond.code y bytes maxL none :: ws') (hrm : rm.cells = mc1 ∧ rm.slots = ms1) (hini : Cond.initialized y.cls ∈ Ts) (hl : (nest = false ∧ Cond.methodLink own index y ∈ Ts) ∨ (nest = true ∧ Cond.methodLinkNest own index y "StreamTree" ∈ znests)) (hin : Cond.instanceMethod y ∈ Ts) (hy1 : y.name = "<init>") (hd0 : y.cls ≠ "java/lang/invoke/MethodHandle" ∧ y.cls ≠ "java/lang/invoke/VarHandle" ∧ (parseMethodDescriptor y.desc).map (fun d => d.parameters.length) = some 0) (hR : rm.frames + 1 ≤ fr ∧ 8 + (maxL + 11) + rm.locals ≤ lc) (hc1 : cells + mc1 ≤ mc) (hs1 : slots + ms1 ≤ ms) (hD : va_D A (w ++ [(b, x)])) (hA : ∀ q, s.heap.size ≤ q → A q) (hst : (st.map fun v => v.category).sum ≤ 8) (hd : decode cc pc = .ok (.invokespecial index, 3)) (k2 s2 : Nat) (hk2 : cells + mc1 = k2) (hs2 : slots + ms1 = s2) (n : Nat) (hn : pc + 3 = n)
    (KK : ∀ ad : Nat → Nat, ad 99 = b → va_D A (w ++ wf ad) → zt p l e R s m args below meth c nL A D k2 s2 Q (w ++ wf ad) lv n st) : zt p l e R s m args below meth c nL A D cells slots Q (w ++ [(b, x)]) lv pc (.ref b :: st) := by
  subst hn; subst hk2; subst hs2
  intro H locs ls hP hS hl2
  have C0 := C.1 cells slots (by omega) (by omega)
  have hlast : (w ++ [(b, x)])[w.length]? = some (b, x) := by rw [List.getElem?_append_right (Nat.le_refl _), Nat.sub_self]; rfl
  have hPc : va_P D vwCl [(b, x)] H := by
    intro k q hq
    have hz : k < 1 := (List.getElem?_eq_some_iff.mp hq).1
    rw [show k = 0 by omega] at hq
    cases hq
    exact hP w.length _ hlast
  have hDc : va_D (fun _ => True) [(b, x)] := ⟨fun i j p q h1 h2 _ => by
    have z1 : i < 1 := (List.getElem?_eq_some_iff.mp h1).1
    have z2 : j < 1 := (List.getElem?_eq_some_iff.mp h2).1
    omega, fun _ _ _ => trivial⟩
  have hF : ∀ q, va_A [(b, x)] H.size q → A q := by
    rintro q (⟨k, e, h⟩ | h)
    · have hz : k < 1 := (List.getElem?_eq_some_iff.mp h).1
      rw [show k = 0 by omega] at h
      cases h
      exact hD.2 w.length _ hlast
    · exact hA q (Nat.le_trans hS.1 h)
  have hRR : rm.frames + 1 ≤ R.frames ∧ 8 + (maxL + 11) + rm.locals ≤ R.locals := ⟨Nat.le_trans hR.1 C0.2.2.2.1.1, Nat.le_trans hR.2 C0.2.2.2.1.2⟩
  have hcall : va_Run p l e R s m args below meth c H locs cells slots mc1 ms1 (F0 m pc ls (.ref b :: st)) st ((va_Qv (fun ad : Nat → Nat => ad 99 = b) (fun ad t => va_P D vwCl (wf ad) t.heap ∧ va_D (va_A [(b, x)] H.size) (wf ad)) (va_A [(b, x)] H.size)) [Value.ref b].toArray) (va_A [(b, x)] H.size) := by
    rcases hl with ⟨-, hl⟩ | ⟨-, hl⟩
    · exact va_runI (As := []) (rest := st) C0.1 (hM H.size) (cwI 0 C0.1.2.2.2.2 hG hw hrm.1 hrm.2 (C0.1.2.2.2.2 _ hini) (C0.1.2.2.2.2 _ hl) (C0.1.2.2.2.2 _ hin) hy1 hd0 hRR) ⟨zPreN.blind, fun U hU hW => ⟨rfl, by rw [hU], by rw [hU]; exact hPc, C0.2.1.warm hW, hDc⟩⟩ rfl rfl hl2.1 rfl (lv_room hst) hd ⟨by have := C.2.1; omega, by have := C.2.2; omega⟩
    · exact va_runIN (As := []) (rest := st) C0.1 (hM H.size) ⟨va_cnB 0 C0.1.2.2.2.2 hG hw hrm.1 hrm.2 (C0.2.1.2.1 _ hl) (C0.1.2.2.2.2 _ hini) hd0 hRR, hy1, C0.1.2.2.2.2 _ hin⟩ ⟨zPreN.blind, fun U hU hW => ⟨rfl, by rw [hU], by rw [hU]; exact hPc, C0.2.1.warm hW, hDc⟩⟩ rfl rfl hl2.1 rfl (lv_room hst) hd ⟨by have := C.2.1; omega, by have := C.2.2; omega⟩
  refine va_callv (A1 := va_A [(b, x)] H.size) hcall hS (fun q _ h => hF q h) hF (fun ad t H1 locs1 ht hvm hw9 hB hz1 hk1 hS1 => ?_)
  obtain ⟨hP1, hD1⟩ : va_P D vwCl (wf ad) t.heap ∧ va_D (va_A [(b, x)] H.size) (wf ad) := hB
  rw [ht] at hP1
  have hwr : (List.range w.length).map (fun i => (w ++ [(b, x)])[i]?) = w.map some := by
    apply List.ext_getElem?
    intro i
    rw [List.getElem?_map, List.getElem?_map]
    by_cases hi : i < w.length
    · rw [List.getElem?_range hi, Option.map_some, List.getElem?_append_left hi, List.getElem?_eq_getElem hi]; rfl
    · rw [List.getElem?_eq_none (by simpa using hi), List.getElem?_eq_none (by omega)]; rfl
  have hnd : va_nd (List.range w.length) = true := z_nd_of _ List.nodup_range
  obtain ⟨hP2, hD2⟩ := va_join (wc := [(b, x)]) (wr := w) (w1 := wf ad) hP hD [w.length] (List.range w.length) (by simp) hwr hnd (fun i hi h => by simp at hi h; omega) hk1 hF hP1 hD1
  exact KK ad hw9 hD2 H1 locs1 ls hP2 hS1 hl2
end ZMK
