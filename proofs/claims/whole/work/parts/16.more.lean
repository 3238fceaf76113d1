/-! further lifted rows: whole arrays, references answered, tags -/
section ZN
theorem zsetL {B R B' : va_W} {i : Nat} {x : Nat × va_E} (h : B.set i x = B') (hi : i < B.length) : (B ++ R).set i x = B' ++ R := by rw [List.set_append_left _ _ hi, h]
theorem zsetR {P W W' : va_W} {n i : Nat} {x : Nat × va_E} (hn : n = P.length + i) (h : W.set i x = W') : (P ++ W).set n x = P ++ W' := by
  subst hn
  rw [List.set_append_right _ _ (Nat.le_add_right _ _), Nat.add_sub_cancel_left, h]
def zsa (S : Nat → Nat → Int32) (k : Nat) (f : Nat → Int32) : Nat → Nat → Int32 := fun q => if q = k then f else S q
def wAI (N : Nat) (T : Nat → ClassId) (ad : Nat → Nat) (S : Nat → Nat → Int32) : va_W := [(ad 0, .inl (T 0, N, .inl (S 0)))]
def wX6 (a0 a1 a2 a3 a4 a5 a6 a7 a8 a9 : Nat → Nat) : va_W := [(a0 99, .inr (5, [.ref (a1 99), .ref (a2 99), .ref (a3 99), .ref (a4 99), .ref (a5 99), .ref (a6 99), .ref (a7 99), .ref (a8 99), .ref (a9 99)]))]
def zQA (D : va_G) (w : va_W) (r : Nat) (w' : va_W) : Array Value → State → Outcome → State → Prop := va_Qr (fun (_ : Unit) => True) (fun _ ra t => ra = r ∧ va_P D vwCl w' t.heap) (zA w)
/-- a method that leaves the world w' and answers the cell r -/
def zWA (l : Launch) (y : MethodName) (ws : List Cond) (rm : Room) (D : va_G) (T : Nat → ClassId) (av : List Value) (w : va_W) (r : Nat) (w' : va_W) : Prop := Met l y ws rm (zPre D T av w) (zQA D w r w') 0 0 (zA w)
variable {p : Program} {l : Launch} {e : Env} {R : Room} {s : State} {m : MethodId} {args : Array Value} {below : List Frame} {meth : Method} {c : Code} {cells slots : Nat} {Q : State → Prop}
variable {cc : ByteArray} {nL fr lc : Nat} {own : String} {Ts : List Cond} {A : Nat → Prop} {D : va_G} {T : Nat → ClassId}
variable {w : va_W} {lv : List (Nat × Value)} {pc : Nat} {st : List Value}
theorem z_letS {β : Type} {ex : β} {G : (Nat → Nat → Int32) → Option β} (wf : (Nat → Nat → Int32) → va_W) (S : Nat → Nat → Int32) (h : zlet S G = some ex) (K : ∀ S1, G S1 = some ex → zt p l e R s m args below meth c nL A D cells slots Q (wf S1) lv pc st) : zt p l e R s m args below meth c nL A D cells slots Q (wf S) lv pc st := K S h
theorem z_ref {a b : Nat} (hab : a = b) (K : zt p l e R s m args below meth c nL A D cells slots Q w lv pc (.ref b :: st)) : zt p l e R s m args below meth c nL A D cells slots Q w lv pc (.ref a :: st) := by
  subst hab; exact K
theorem z_tag {β : Type} {ex : β} {X Y : Option β} {t : Nat} (v : Nat) (f : Nat → Nat) {b : Nat} (hf : f v = b) (h : (if t = v then X else Y) = some ex) (K1 : X = some ex → zt p l e R s m args below meth c nL A D cells slots Q w lv pc (.ref b :: st)) (K2 : ¬ t = v → Y = some ex → zt p l e R s m args below meth c nL A D cells slots Q w lv pc (.ref (f t) :: st)) : zt p l e R s m args below meth c nL A D cells slots Q w lv pc (.ref (f t) :: st) := by
  by_cases ht : t = v
  · subst ht; rw [hf]; exact K1 (z_pos rfl h)
  · exact K2 ht (z_neg ht h)
theorem z_aretW {w0 : va_W} {ρ : Type} {x ex : ρ} {a : Nat} {E : String} (ra : ρ → Nat) (wf : ρ → va_W) (C : zC p R s m args meth c cc nL own Ts D T fr lc 0 0) (hr : meth.sig.returnType = some (.object E)) (hd : decode cc pc = .ok (.areturn, 1)) (h : some x = some ex) (hv : ra x = a) (hw : wf x = w) : zt p l e R s m args below meth c nL (zA w0) D 0 0 (MQ below (zQA D w0 (ra ex) (wf ex)) args s 0 0 (zA w0)) w lv pc [.ref a] := by
  cases h; subst hv; subst hw
  exact fun H locs ls hP hS hl => W.aret (v := .ref (ra x)) C.1.1 C.1.2.1 hr (Or.inl ⟨_, rfl⟩) (Or.inr ⟨_, rfl⟩) (fun t ht hW => ⟨⟨(), ra x, rfl, trivial, rfl, by subst ht; exact hP⟩, hS.F ht⟩) hS.2.2 hd C.2.2.1
theorem z_copyi (C : zC p R s m args meth c cc nL own Ts D T fr lc cells slots) {β : Type} {ex : β} {G : (Nat → Nat → Int32) → Option β} {index a a0 N : Nat} {f g : Nat → Int32} {c0 c1 : ClassId} {n9 : Int32} (wf : (Nat → Nat → Int32) → va_W) (S : Nat → Nat → Int32) (k : Nat) (hD : va_D A (wf S)) (h1 : Cond.methodLink own index arraycopyName ∈ Ts) (h2 : Cond.native arraycopyName ∈ Ts) (h3 : Cond.static arraycopyName ∈ Ts) (h4 : Cond.initialized "java/lang/System" ∈ Ts) (q0 q1 : Nat) (ha0 : (wf S)[q0]? = some (a0, .inl (c0, N, .inl f))) (ha1 : (wf S)[q1]? = some (a, .inl (c1, N, .inl g))) (ht0 : (ztys T)[0]? = some (c0, .int)) (ht1 : (ztys T)[0]? = some (c1, .int)) (hn0 : ¬ n9 < 0) (hn1 : n9.toNatClampNeg = N) (hf : 1 ≤ fr) (hl0 : 40 ≤ lc) (hst : (st.map fun v => v.category).sum ≤ 8)
    (hw : (wf S).set q1 (a, .inl (c1, N, .inl (va_cpy f g 0 0 N))) = wf (zsa S k (va_cpy f g 0 0 N))) (hd : decode cc pc = .ok (.invokestatic index, 3)) (n : Nat) (hn : pc + 3 = n) (h : zlet (zsa S k (va_cpy f g 0 0 N)) G = some ex)
    (K : ∀ S1, G S1 = some ex → zt p l e R s m args below meth c nL A D cells slots Q (wf S1) lv n st) : zt p l e R s m args below meth c nL A D cells slots Q (wf S) lv pc (.int n9 :: .int 0 :: .ref a :: .int 0 :: .ref a0 :: st) := by
  subst hn
  intro H locs ls hP hS hl
  have hz : (0 : Int32).toNatClampNeg = 0 := by decide
  refine va_copyi (D := D) C.1.1 C.1.2.1 (C.1.2.2.1.trans hl.1.symm) C.1.2.2.2.1 (C.1.2.2.2.2 _ h1) (C.1.2.2.2.2 _ h2) (C.1.2.2.2.2 _ h3) (C.1.2.2.2.2 _ h4) C.2.1.1 hP hD hS q0 q1 0 0 ha0 ha1 ht0 ht1 rfl (by decide) (by decide) hn0 (by rw [hz, hn1]; omega) (by rw [hz, hn1]; omega) (fun i _ => rfl) (Nat.le_trans hf C.2.2.2.1.1) (by have := C.2.2.2.1.2; have e1 : nativeFrameWords "java/lang/System" "arraycopy" 5 = 7 := (by decide); omega) hd (fun H1 locs1 hP1 _ hS1 => ?_)
  rw [hz, hn1] at hP1
  exact K _ h H1 locs1 ls (hw ▸ hP1) hS1 hl
section CALLA
variable {y : MethodName} {bytes : ByteArray} {maxL index : Nat} {ret : Option FieldType} {ws ws' : List Cond} {rm : Room} {β ρ : Type} {ex : β} {g : Option ρ} {F : ρ → Option β} {st0 : List Value}
theorem z_callA {n kd : Nat} {av : List Value} (C : zC p R s m args meth c cc nL own Ts D T fr lc cells slots) (wc wr : va_W) (rv : ρ → Nat) (w1 wn : ρ → va_W) (hM : ∀ x, g = some x → zWA l y ws rm D T av wc (rv x) (w1 x)) (hrm : rm.cells = 0 ∧ rm.slots = 0) (cw : zCW R s args own index y bytes maxL ret ws rm rm.cells rm.slots n kd) (hD : va_D A w) (isC isR pm : List Nat) (hnd : va_nd isC = true) (hC : isC.map (fun i => w[i]?) = wc.map some) (hR : isR.map (fun i => w[i]?) = wr.map some) (hdis : ∀ i ∈ isR, i ∉ isC) (hN : ∀ x, pm.filterMap (fun i => (wr ++ w1 x)[i]?) = wn x) (hrecv : kd = 0 → ∃ (b : Nat) (As : List Value) (ci q0 : Nat) (q : vw_C) (fs : List Value), av = .ref b :: As ∧ As.length = n ∧ vwCl[ci]? = some q ∧ wc[q0]? = some (b, .inr (ci, fs)) ∧ q.1 = y.cls) (hn1 : kd ≠ 0 → av.length = n) (hst0 : st0 = av.reverse ++ st) (hst : (st.map fun v => v.category).sum ≤ 8) (hd : decode cc pc = .ok (zInv kd index, 3)) (n2 : Nat) (hn : pc + 3 = n2) (h : g.bind F = some ex)
    (K : ∀ x, F x = some ex → zt p l e R s m args below meth c nL A D cells slots Q (wn x) lv n2 (.ref (rv x) :: st)) : zt p l e R s m args below meth c nL A D cells slots Q w lv pc st0 := by
  subst hn
  intro H locs ls hP hS hl
  obtain ⟨v, hv, h⟩ := Option.bind_eq_some_iff.mp h
  rw [hrm.1, hrm.2] at cw
  have hPc : va_P D vwCl wc H := z_pickP hP hC
  have hDc : va_D (fun _ => True) wc := (hD.sub isC hnd hC).weaken (fun _ _ _ _ => trivial)
  refine va_callr (A1 := zA wc) (z_run (n := n) (kd := kd) (av := av) C (hM v hv) cw zPre.blind (fun hk => ?_) hn1 (fun U hU hW => ⟨rfl, by rw [hU]; exact hPc, C.2.1.warm hW, hDc⟩) hl.1 hst0 hst hd ⟨C.2.2.2.2.1, C.2.2.2.2.2⟩) hS (fun q _ h => zA.sub hD isC hC h) (fun q h => zA.sub hD isC hC h) (fun u ra t H1 locs1 ht hvm hw hB hz1 hk1 hS1 => ?_)
  · obtain ⟨b, As, ci, q0, q, fs, h1, h2, h3, h4, h5⟩ := hrecv hk
    exact ⟨b, As, h1, h2, h5 ▸ va_recv C.2.1.1 hPc h3 h4⟩
  · obtain ⟨hra, hB⟩ : ra = rv v ∧ va_P D vwCl (w1 v) t.heap := hB
    subst hra
    rw [ht] at hB
    exact K v h H1 locs1 ls ((z_join hP hD isC isR hC hR hdis hk1 hB).sub pm (hN v)) hS1 hl
end CALLA
end ZN
