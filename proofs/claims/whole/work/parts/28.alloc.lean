/-! methods that make arrays: a count of cells runs along; 5 slots a cell -/
section ZAL
def zAn (w : va_W) (sz : Nat) : Nat → Prop := fun q => zA w q ∨ sz ≤ q
def zPreN (D : va_G) (T : Nat → ClassId) (av : List Value) (w : va_W) (sz : Nat) : Array Value → State → Prop := va_Pc av (fun U => U.heap.size = sz ∧ va_P D vwCl w U.heap ∧ zK D T U ∧ va_D (fun _ => True) w)
theorem zPreN.blind {D : va_G} {T : Nat → ClassId} {av : List Value} {w : va_W} {sz : Nat} : FrameBlind (zPreN D T av w sz) := fun a U g mk q => ⟨q.1, q.2.1, q.2.2.1, q.2.2.2.1.calling g mk a, q.2.2.2.2⟩
def zQN (D : va_G) (w : va_W) (sz : Nat) (v : Int32) (w' : va_W) : Array Value → State → Outcome → State → Prop := va_Qi (fun r (_ : Unit) => r = v) (fun _ t => va_P D vwCl w' t.heap) (zAn w sz)
/-- a method that makes at most K arrays of five, leaves the world w' and answers v -/
def zWN (l : Launch) (y : MethodName) (ws : List Cond) (fr lc : Nat) (D : va_G) (T : Nat → ClassId) (av : List Value) (w : va_W) (sz : Nat) (v : Int32) (w' : va_W) (K : Nat) : Prop := Met l y ws ({ frames := fr, cells := K, slots := 5 * K, locals := lc } : Room) (zPreN D T av w sz) (zQN D w sz v w') K (5 * K) (zAn w sz)
theorem zAn.hD {A : Nat → Prop} {w : va_W} {sz : Nat} (h : va_D A w) : va_D (zAn w sz) w := ⟨h.1, fun k q hq => Or.inl ⟨k, q.2, hq⟩⟩
def zcap {α : Type} (k K : Nat) (x : Option α) : Option α := if k ≤ K then x else none
theorem zcap_some {α : Type} {k K : Nat} {x : Option α} {y : α} (h : zcap k K x = some y) : k ≤ K ∧ x = some y := by
  unfold zcap at h
  split at h
  · rename_i hc; exact ⟨hc, h⟩
  · cases h
variable {p : Program} {l : Launch} {e : Env} {R : Room} {s : State} {m : MethodId} {args : Array Value} {below : List Frame} {meth : Method} {c : Code} {cells slots : Nat} {Q : State → Prop}
variable {cc : ByteArray} {nL fr lc : Nat} {own : String} {Ts : List Cond} {A : Nat → Prop} {D : va_G} {T : Nat → ClassId}
variable {w : va_W} {lv : List (Nat × Value)} {pc : Nat} {st : List Value}
def zCN (p : Program) (R : Room) (s : State) (m : MethodId) (args : Array Value) (meth : Method) (c : Code) (cc : ByteArray) (nL : Nat) (own : String) (Ts : List Cond) (D : va_G) (T : Nat → ClassId) (fr lc K : Nat) : Prop :=
  (∀ k, k ≤ K → zC p R s m args meth c cc nL own Ts D T fr lc k (5 * k)) ∧ K ≤ R.cells ∧ 5 * K ≤ R.slots
theorem z_beginN {y : MethodName} {ws ws' : List Cond} {av : List Value} {Qc : Array Value → State → Outcome → State → Prop} {sz K : Nat} {ret : Option FieldType} (hy : plainName y.cls = true) (hw0 : ws = Cond.code y cc nL ret :: ws') (hav : (lg_sl av).length ≤ nL) (lv0 : List (Nat × Value)) (hlv : lv_args 0 av = lv0) (hown : y.cls = own)
    (body : ∀ (p : Program) (e : Env) (s : State) (m : MethodId) (args : Array Value) (below : List Frame) (meth : Method) (c : Code), zCN p ({ frames := fr, cells := K, slots := 5 * K, locals := lc } : Room) s m args meth c cc nL own ws D T fr lc K → meth.sig.returnType = ret → va_D (fun _ => True) w → (∀ q, s.heap.size ≤ q → zAn w sz q) → zt p l e ({ frames := fr, cells := K, slots := 5 * K, locals := lc } : Room) s m args below meth c nL (zAn w sz) D 0 (5 * 0) (MQ below Qc args s K (5 * K) (zAn w sz)) w lv0 0 []) : Met l y ws ({ frames := fr, cells := K, slots := 5 * K, locals := lc } : Room) (zPreN D T av w sz) Qc K (5 * K) (zAn w sz) := by
  refine Met.ofW (cc := cc) (maxL := nL) (ret := ret) hy hw0 ?_
  intro p e s m args below meth c s₁ B hml hv
  obtain ⟨rfl, hsz, hP, hK, hD⟩ := hv
  have hts := atoms_spec (ws := ws) B.pre
  have hfc : s.vm.findClass own = some m.cls := hown ▸ findClass_of_methodNamed B.named
  have hl := lv_entry av (n := nL) hav
  rw [hlv] at hl
  rw [lg_entry_eq]
  exact body p e s m av.toArray below meth c ⟨fun k hk => ⟨⟨B.exec, B.bytes, hml, hfc, hts⟩, hK, B.notSynchronized, ⟨Nat.le_refl _, Nat.le_refl _⟩, hk, Nat.mul_le_mul_left 5 hk⟩, Nat.le_refl _, Nat.le_refl _⟩ B.returns hD (fun q hq => Or.inr (hsz ▸ hq)) s.heap [] _ hP va_S.rf hl
theorem z_drop {w2 : va_W} (K : zt p l e R s m args below meth c nL A D cells slots Q w lv pc st) : zt p l e R s m args below meth c nL A D cells slots Q (w ++ w2) lv pc st :=
  fun H locs ls hP hS hl => K H locs ls (fun k q hq => hP k q (by
    have hl : k < w.length := (List.getElem?_eq_some_iff.mp hq).1
    rw [List.getElem?_append_left hl]; exact hq)) hS hl
theorem z_zretN0 {w0 : va_W} {sz K k : Nat} {v ex : Int32} (C : zCN p R s m args meth c cc nL own Ts D T fr lc K) (hk : k ≤ K) (hr : meth.sig.returnType = some .boolean) (hd : decode cc pc = .ok (.ireturn, 1)) (h : zbo v (some v) = some ex) : zt p l e R s m args below meth c nL (zAn w0 sz) D k (5 * k) (MQ below (zQN D w0 sz ex w) args s K (5 * K) (zAn w0 sz)) w lv pc [.int v] := by
  obtain ⟨hb, h⟩ := zbo_some h
  cases h
  intro H locs ls hP hS hl
  have C0 := C.1 k hk
  exact W.widen hk (Nat.mul_le_mul_left 5 hk) (W.zret (v := v) C0.1.1 C0.1.2.1 hr (zb_narrow hb) (fun t ht hW => ⟨⟨v, (), rfl, rfl, by subst ht; exact hP⟩, hS.F ht⟩) hS.2.2 hd C0.2.2.1)
theorem z_zretN {w0 : va_W} {σ : Type} {sz K k : Nat} {v : Int32} {x : σ} {ex : Int32 × σ} (wf : σ → va_W) (C : zCN p R s m args meth c cc nL own Ts D T fr lc K) (hk : k ≤ K) (hr : meth.sig.returnType = some .boolean) (hd : decode cc pc = .ok (.ireturn, 1)) (h : zbo v (some (v, x)) = some ex) (hw : wf x = w) : zt p l e R s m args below meth c nL (zAn w0 sz) D k (5 * k) (MQ below (zQN D w0 sz ex.1 (wf ex.2)) args s K (5 * K) (zAn w0 sz)) w lv pc [.int v] := by
  obtain ⟨hb, h⟩ := zbo_some h
  cases h; subst hw
  intro H locs ls hP hS hl
  have C0 := C.1 k hk
  exact W.widen hk (Nat.mul_le_mul_left 5 hk) (W.zret (v := v) C0.1.1 C0.1.2.1 hr (zb_narrow hb) (fun t ht hW => ⟨⟨v, (), rfl, rfl, by subst ht; exact hP⟩, hS.F ht⟩) hS.2.2 hd C0.2.2.1)
theorem z_zretNc {w0 : va_W} {σ : Type} {sz K k : Nat} {v : Int32} {x : σ} {ex : Int32 × σ} (wf : σ → va_W) (C : zCN p R s m args meth c cc nL own Ts D T fr lc K) (hk : k ≤ K) (hr : meth.sig.returnType = some .boolean) (hd : decode cc pc = .ok (.ireturn, 1)) (hb : v = 0 ∨ v = 1) (h : some (v, x) = some ex) (hw : wf x = w) : zt p l e R s m args below meth c nL (zAn w0 sz) D k (5 * k) (MQ below (zQN D w0 sz ex.1 (wf ex.2)) args s K (5 * K) (zAn w0 sz)) w lv pc [.int v] :=
  z_zretN wf C hk hr hd (by unfold zbo; rw [if_pos hb]; exact h) hw
theorem z_iretN {w0 : va_W} {σ : Type} {sz K k : Nat} {v : Int32} {x : σ} {ex : Int32 × σ} (wf : σ → va_W) (C : zCN p R s m args meth c cc nL own Ts D T fr lc K) (hk : k ≤ K) (hr : meth.sig.returnType = some .int) (hd : decode cc pc = .ok (.ireturn, 1)) (h : some (v, x) = some ex) (hw : wf x = w) : zt p l e R s m args below meth c nL (zAn w0 sz) D k (5 * k) (MQ below (zQN D w0 sz ex.1 (wf ex.2)) args s K (5 * K) (zAn w0 sz)) w lv pc [.int v] := by
  cases h; subst hw
  intro H locs ls hP hS hl
  have C0 := C.1 k hk
  exact W.widen hk (Nat.mul_le_mul_left 5 hk) (W.iret (v := v) C0.1.1 C0.1.2.1 hr (fun t ht hW => ⟨⟨v, (), rfl, rfl, by subst ht; exact hP⟩, hS.F ht⟩) hS.2.2 hd C0.2.2.1)
/-- an array of five ints is made -/
theorem z_newa5 {K k : Nat} (C : zCN p R s m args meth c cc nL own Ts D T fr lc K) (hk : k + 1 ≤ K) (hAr : Cond.arrayClass .int ∈ Ts) (hD : va_D A w) (hA : ∀ q, s.heap.size ≤ q → A q) (hd : decode cc pc = .ok (.newarray .int, 2)) (k2 : Nat) (hk2 : k + 1 = k2) (n : Nat) (hn : pc + 2 = n)
    (KK : ∀ ad : Nat → Nat, va_D A (w ++ wAI 5 T ad (fun _ _ => 0)) → zt p l e R s m args below meth c nL A D k2 (5 * k2) Q (w ++ wAI 5 T ad (fun _ _ => 0)) lv n (.ref (ad 0) :: st)) : zt p l e R s m args below meth c nL A D k (5 * k) Q w lv pc (.int 5 :: st) := by
  subst hn; subst hk2
  intro H locs ls hP hS hl
  have C0 := C.1 k (by omega)
  refine va_newaK (atype := .int) C0.1.1 C0.1.2.1 (C0.1.2.2.2.2 _ hAr) rfl hd (N := 5) rfl (by decide) (by decide) (by decide) (by have := C.2.1; omega) (by have := C.2.2; omega) rfl (fun H1 cA e1 z1 o1 hArr hNm => ?_)
  have hcA : cA = T 0 := by
    have h1 : s.vm.findClass "[I" = some cA := hNm
    have h2 := C0.2.1.2.2.1
    rw [h1] at h2
    exact Option.some.inj h2
  subst hcA
  have hk1 : ∀ (k : Nat) (x : Nat × va_E), w[k]? = some x → H1[x.1]? = H[x.1]? := fun k x hx => o1 x.1 ((hP k x hx).lt)
  have hD1 : va_D A (w ++ wAI 5 T (fun _ => H.size) (fun _ _ => 0)) := hD.push hP rfl (hA _ hS.1)
  have hP1 : va_P D vwCl (w ++ wAI 5 T (fun _ => H.size) (fun _ _ => 0)) H1 := by
    refine (hP.kept hk1).app (fun j x hx => ?_)
    have hz : j < 1 := (List.getElem?_eq_some_iff.mp hx).1
    rw [show j = 0 by omega] at hx
    cases hx
    show H1[H.size]? = some (vp_cell _ _)
    exact e1
  have hS1 : va_S A s.heap H1 locs := ⟨Nat.le_trans hS.1 (by omega), fun x h1 h2 => (o1 x (Nat.lt_of_lt_of_le h1 hS.1)).trans (hS.2.1 x h1 h2), hS.2.2⟩
  exact KK (fun _ => H.size) hD1 H1 locs ls hP1 hS1 hl
section CALLN
variable {y : MethodName} {bytes : ByteArray} {maxL index : Nat} {ret : Option FieldType} {ws ws' : List Cond} {β ρ : Type} {ex : β} {g : Option ρ} {F : ρ → Option β} {st0 : List Value}
/-- a call of a method that makes arrays, by one that may -/
theorem z_callN {n fr2 lc2 K k kc : Nat} {av : List Value} (C : zCN p R s m args meth c cc nL own Ts D T fr lc K) (wc : va_W) (rv : ρ → Int32) (w1 : ρ → va_W) (hM : ∀ sz x, g = some x → zWN l y ws fr2 lc2 D T av wc sz (rv x) (w1 x) kc) (cw : zCW R s args own index y bytes maxL ret ws ({ frames := fr2, cells := kc, slots := 5 * kc, locals := lc2 } : Room) kc (5 * kc) n 0) (hk : k + kc ≤ K) (hD : va_D A wc) (hA : ∀ q, s.heap.size ≤ q → A q) (hrecv : ∃ (b : Nat) (As : List Value) (ci q0 : Nat) (q : vw_C) (fs : List Value), av = .ref b :: As ∧ As.length = n ∧ vwCl[ci]? = some q ∧ wc[q0]? = some (b, .inr (ci, fs)) ∧ q.1 = y.cls) (hst0 : st0 = av.reverse ++ st) (hst : (st.map fun v => v.category).sum ≤ 8) (hd : decode cc pc = .ok (.invokevirtual index, 3)) (k2 : Nat) (hk2 : k + kc = k2) (n2 : Nat) (hn : pc + 3 = n2) (h : g.bind F = some ex)
    (KK : ∀ x, F x = some ex → zt p l e R s m args below meth c nL A D k2 (5 * k2) Q (w1 x) lv n2 (.int (rv x) :: st)) : zt p l e R s m args below meth c nL A D k (5 * k) Q wc lv pc st0 := by
  subst hn; subst hk2
  intro H locs ls hP hS hl
  obtain ⟨v, hv, h⟩ := Option.bind_eq_some_iff.mp h
  have C0 := C.1 k (by omega)
  have hDc : va_D (fun _ => True) wc := hD.weaken (fun _ _ _ _ => trivial)
  have hin : ∀ q, zAn wc H.size q → A q := fun q hq => hq.elim (fun ⟨j, e, h⟩ => hD.2 j (q, e) h) (fun h => hA q (Nat.le_trans hS.1 h))
  refine va_calli (A1 := zAn wc H.size) (z_run (n := n) (kd := 0) (av := av) C0 (hM H.size v hv) cw zPreN.blind (fun _ => ?_) (fun h => absurd rfl h) (fun U hU hW => ⟨rfl, by rw [hU], by rw [hU]; exact hP, C0.2.1.warm hW, hDc⟩) hl.1 hst0 hst hd ⟨by have := C.2.1; omega, by have := C.2.2; omega⟩) hS (fun q _ h => hin q h) (fun q h => hin q h) (fun r u t H1 locs1 ht hvm hw hB hz1 hk1 hS1 => ?_)
  · obtain ⟨b, As, ci, q0, q, fs, h1, h2, h3, h4, h5⟩ := hrecv
    exact ⟨b, As, h1, h2, h5 ▸ va_recv C0.2.1.1 hP h3 h4⟩
  · have hw : r = rv v := hw
    subst hw
    have hB : va_P D vwCl (w1 v) t.heap := hB
    rw [ht] at hB
    rw [show 5 * k + 5 * kc = 5 * (k + kc) by omega]
    exact KK v h H1 locs1 ls hB hS1 hl
theorem z_cwVN {rm : Room} (C : zC p R s m args meth c cc nL own Ts D T fr lc cells slots) (n : Nat) {Cn : String} (hG : GoodIn Ts (wsV own index Cn y ws)) (hw : ws = Cond.code y bytes maxL ret :: ws') (hc : y.cls = Cn) (hd0 : Cn ≠ "java/lang/invoke/MethodHandle" ∧ Cn ≠ "java/lang/invoke/VarHandle" ∧ (parseMethodDescriptor y.desc).map (fun d => d.parameters.length) = some n) (hR : rm.frames + 1 ≤ fr ∧ 8 + (maxL + 11) + rm.locals ≤ lc) : zCW R s args own index y bytes maxL ret ws rm rm.cells rm.slots n 0 := z_cwV C n hG hw hc hd0 hR
end CALLN
end ZAL
