/-! fields, arrays, calls and returns, lifted -/
/-! ends of loops -/
theorem zexT0 {F : Prop} {i b : Nat} (h : some i = some b) (K : b = i → F) : F := by cases h; exact K rfl
theorem zex1 {α0 : Type} {e0 : α0} {F : α0 → Prop} {b : α0} (h : some e0 = some b) (K : F b) : F e0 := by cases h; exact K
theorem zexT1 {α0 : Type} {e0 : α0} {F : α0 → Prop} {i : Nat} {b : Nat × α0} (h : some (i, e0) = some b) (K : b.1 = i → F b.2) : F e0 := by cases h; exact K rfl
theorem zex2 {α0 : Type} {α1 : Type} {e0 : α0} {e1 : α1} {F : α0 → α1 → Prop} {b : α0 × α1} (h : some (e0, e1) = some b) (K : F b.1 b.2) : F e0 e1 := by cases h; exact K
theorem zexT2 {α0 : Type} {α1 : Type} {e0 : α0} {e1 : α1} {F : α0 → α1 → Prop} {i : Nat} {b : Nat × α0 × α1} (h : some (i, e0, e1) = some b) (K : b.1 = i → F b.2.1 b.2.2) : F e0 e1 := by cases h; exact K rfl
theorem zex3 {α0 : Type} {α1 : Type} {α2 : Type} {e0 : α0} {e1 : α1} {e2 : α2} {F : α0 → α1 → α2 → Prop} {b : α0 × α1 × α2} (h : some (e0, e1, e2) = some b) (K : F b.1 b.2.1 b.2.2) : F e0 e1 e2 := by cases h; exact K
theorem zexT3 {α0 : Type} {α1 : Type} {α2 : Type} {e0 : α0} {e1 : α1} {e2 : α2} {F : α0 → α1 → α2 → Prop} {i : Nat} {b : Nat × α0 × α1 × α2} (h : some (i, e0, e1, e2) = some b) (K : b.1 = i → F b.2.1 b.2.2.1 b.2.2.2) : F e0 e1 e2 := by cases h; exact K rfl
theorem zex4 {α0 : Type} {α1 : Type} {α2 : Type} {α3 : Type} {e0 : α0} {e1 : α1} {e2 : α2} {e3 : α3} {F : α0 → α1 → α2 → α3 → Prop} {b : α0 × α1 × α2 × α3} (h : some (e0, e1, e2, e3) = some b) (K : F b.1 b.2.1 b.2.2.1 b.2.2.2) : F e0 e1 e2 e3 := by cases h; exact K
theorem zexT4 {α0 : Type} {α1 : Type} {α2 : Type} {α3 : Type} {e0 : α0} {e1 : α1} {e2 : α2} {e3 : α3} {F : α0 → α1 → α2 → α3 → Prop} {i : Nat} {b : Nat × α0 × α1 × α2 × α3} (h : some (i, e0, e1, e2, e3) = some b) (K : b.1 = i → F b.2.1 b.2.2.1 b.2.2.2.1 b.2.2.2.2) : F e0 e1 e2 e3 := by cases h; exact K rfl
theorem zex5 {α0 : Type} {α1 : Type} {α2 : Type} {α3 : Type} {α4 : Type} {e0 : α0} {e1 : α1} {e2 : α2} {e3 : α3} {e4 : α4} {F : α0 → α1 → α2 → α3 → α4 → Prop} {b : α0 × α1 × α2 × α3 × α4} (h : some (e0, e1, e2, e3, e4) = some b) (K : F b.1 b.2.1 b.2.2.1 b.2.2.2.1 b.2.2.2.2) : F e0 e1 e2 e3 e4 := by cases h; exact K
theorem zexT5 {α0 : Type} {α1 : Type} {α2 : Type} {α3 : Type} {α4 : Type} {e0 : α0} {e1 : α1} {e2 : α2} {e3 : α3} {e4 : α4} {F : α0 → α1 → α2 → α3 → α4 → Prop} {i : Nat} {b : Nat × α0 × α1 × α2 × α3 × α4} (h : some (i, e0, e1, e2, e3, e4) = some b) (K : b.1 = i → F b.2.1 b.2.2.1 b.2.2.2.1 b.2.2.2.2.1 b.2.2.2.2.2) : F e0 e1 e2 e3 e4 := by cases h; exact K rfl
theorem zex6 {α0 : Type} {α1 : Type} {α2 : Type} {α3 : Type} {α4 : Type} {α5 : Type} {e0 : α0} {e1 : α1} {e2 : α2} {e3 : α3} {e4 : α4} {e5 : α5} {F : α0 → α1 → α2 → α3 → α4 → α5 → Prop} {b : α0 × α1 × α2 × α3 × α4 × α5} (h : some (e0, e1, e2, e3, e4, e5) = some b) (K : F b.1 b.2.1 b.2.2.1 b.2.2.2.1 b.2.2.2.2.1 b.2.2.2.2.2) : F e0 e1 e2 e3 e4 e5 := by cases h; exact K
theorem zexT6 {α0 : Type} {α1 : Type} {α2 : Type} {α3 : Type} {α4 : Type} {α5 : Type} {e0 : α0} {e1 : α1} {e2 : α2} {e3 : α3} {e4 : α4} {e5 : α5} {F : α0 → α1 → α2 → α3 → α4 → α5 → Prop} {i : Nat} {b : Nat × α0 × α1 × α2 × α3 × α4 × α5} (h : some (i, e0, e1, e2, e3, e4, e5) = some b) (K : b.1 = i → F b.2.1 b.2.2.1 b.2.2.2.1 b.2.2.2.2.1 b.2.2.2.2.2.1 b.2.2.2.2.2.2) : F e0 e1 e2 e3 e4 e5 := by cases h; exact K rfl
theorem zex7 {α0 : Type} {α1 : Type} {α2 : Type} {α3 : Type} {α4 : Type} {α5 : Type} {α6 : Type} {e0 : α0} {e1 : α1} {e2 : α2} {e3 : α3} {e4 : α4} {e5 : α5} {e6 : α6} {F : α0 → α1 → α2 → α3 → α4 → α5 → α6 → Prop} {b : α0 × α1 × α2 × α3 × α4 × α5 × α6} (h : some (e0, e1, e2, e3, e4, e5, e6) = some b) (K : F b.1 b.2.1 b.2.2.1 b.2.2.2.1 b.2.2.2.2.1 b.2.2.2.2.2.1 b.2.2.2.2.2.2) : F e0 e1 e2 e3 e4 e5 e6 := by cases h; exact K
theorem zexT7 {α0 : Type} {α1 : Type} {α2 : Type} {α3 : Type} {α4 : Type} {α5 : Type} {α6 : Type} {e0 : α0} {e1 : α1} {e2 : α2} {e3 : α3} {e4 : α4} {e5 : α5} {e6 : α6} {F : α0 → α1 → α2 → α3 → α4 → α5 → α6 → Prop} {i : Nat} {b : Nat × α0 × α1 × α2 × α3 × α4 × α5 × α6} (h : some (i, e0, e1, e2, e3, e4, e5, e6) = some b) (K : b.1 = i → F b.2.1 b.2.2.1 b.2.2.2.1 b.2.2.2.2.1 b.2.2.2.2.2.1 b.2.2.2.2.2.2.1 b.2.2.2.2.2.2.2) : F e0 e1 e2 e3 e4 e5 e6 := by cases h; exact K rfl
theorem zex8 {α0 : Type} {α1 : Type} {α2 : Type} {α3 : Type} {α4 : Type} {α5 : Type} {α6 : Type} {α7 : Type} {e0 : α0} {e1 : α1} {e2 : α2} {e3 : α3} {e4 : α4} {e5 : α5} {e6 : α6} {e7 : α7} {F : α0 → α1 → α2 → α3 → α4 → α5 → α6 → α7 → Prop} {b : α0 × α1 × α2 × α3 × α4 × α5 × α6 × α7} (h : some (e0, e1, e2, e3, e4, e5, e6, e7) = some b) (K : F b.1 b.2.1 b.2.2.1 b.2.2.2.1 b.2.2.2.2.1 b.2.2.2.2.2.1 b.2.2.2.2.2.2.1 b.2.2.2.2.2.2.2) : F e0 e1 e2 e3 e4 e5 e6 e7 := by cases h; exact K
theorem zexT8 {α0 : Type} {α1 : Type} {α2 : Type} {α3 : Type} {α4 : Type} {α5 : Type} {α6 : Type} {α7 : Type} {e0 : α0} {e1 : α1} {e2 : α2} {e3 : α3} {e4 : α4} {e5 : α5} {e6 : α6} {e7 : α7} {F : α0 → α1 → α2 → α3 → α4 → α5 → α6 → α7 → Prop} {i : Nat} {b : Nat × α0 × α1 × α2 × α3 × α4 × α5 × α6 × α7} (h : some (i, e0, e1, e2, e3, e4, e5, e6, e7) = some b) (K : b.1 = i → F b.2.1 b.2.2.1 b.2.2.2.1 b.2.2.2.2.1 b.2.2.2.2.2.1 b.2.2.2.2.2.2.1 b.2.2.2.2.2.2.2.1 b.2.2.2.2.2.2.2.2) : F e0 e1 e2 e3 e4 e5 e6 e7 := by cases h; exact K rfl
section ZH
theorem va_P.zkept {D : va_G} {cl : List vw_C} {w : va_W} {H H1 : Heap} (h : va_P D cl w H) (hk : ∀ q : Nat, q < H.size → H1[q]? = H[q]?) : va_P D cl w H1 := fun k q hq => (h k q hq).kept (hk q.1 (h k q hq).lt)
theorem zK.warm {D : va_G} {T : Nat → ClassId} {s U : State} (h : zK D T s) (hW : s.WarmedH U.vm) : zK D T U := by
  refine ⟨va_K.moved hW.alike h.1, fun x hx => ?_, (hW.alike.findClass _ _).trans h.2.2.1, (hW.alike.findClass _ _).trans h.2.2.2.1, (hW.alike.findClass _ _).trans h.2.2.2.2⟩
  have h1 := h.2.1 x hx
  simp only [znests, List.mem_cons, List.not_mem_nil, or_false] at hx
  rcases hx with rfl | rfl | rfl | rfl | rfl | rfl | rfl | rfl | rfl | rfl | rfl | rfl <;> exact va_Nw.warmM hW h1
theorem zK.calling {D : va_G} {T : Nat → ClassId} {U : State} (h : zK D T U) (g : JFrame) (mk : MethodId) (a : Array Value) : zK D T (U.calling g mk a) := by
  refine ⟨va_K.moved (u := U) (U := U.calling g mk a) (Vm.Alike.refl U.vm) h.1, fun x hx => ?_, h.2.2⟩
  have h1 := h.2.1 x hx
  simp only [znests, List.mem_cons, List.not_mem_nil, or_false] at hx
  rcases hx with rfl | rfl | rfl | rfl | rfl | rfl | rfl | rfl | rfl | rfl | rfl | rfl <;> exact va_Nw.same (u := U) rfl rfl h1
def zPre (D : va_G) (T : Nat → ClassId) (av : List Value) (w : va_W) : Array Value → State → Prop := va_Pc av (fun U => va_P D vwCl w U.heap ∧ zK D T U ∧ va_D (fun _ => True) w)
theorem zPre.blind {D : va_G} {T : Nat → ClassId} {av : List Value} {w : va_W} : FrameBlind (zPre D T av w) := fun a U g mk q => ⟨q.1, q.2.1, q.2.2.1.calling g mk a, q.2.2.2⟩
def zQI (v : Int32) : Array Value → State → Outcome → State → Prop := va_Qi (fun r (_ : Unit) => r = v) (fun _ _ => True) (fun _ => False)
def zQJ (D : va_G) (w : va_W) (v : Int32) (w' : va_W) : Array Value → State → Outcome → State → Prop := va_Qi (fun r (_ : Unit) => r = v) (fun _ t => va_P D vwCl w' t.heap) (zA w)
def zQV (D : va_G) (w : va_W) (w' : va_W) : Array Value → State → Outcome → State → Prop := va_Qv (fun (_ : Unit) => True) (fun _ t => va_P D vwCl w' t.heap) (zA w)
/-- a method that writes nothing and answers v -/
def zRI (l : Launch) (y : MethodName) (ws : List Cond) (rm : Room) (D : va_G) (T : Nat → ClassId) (av : List Value) (w : va_W) (v : Int32) : Prop := Met l y ws rm (zPre D T av w) (zQI v) 0 0 (fun _ => False)
/-- a method that leaves the world w' and answers v -/
def zWI (l : Launch) (y : MethodName) (ws : List Cond) (rm : Room) (D : va_G) (T : Nat → ClassId) (av : List Value) (w : va_W) (v : Int32) (w' : va_W) : Prop := Met l y ws rm (zPre D T av w) (zQJ D w v w') 0 0 (zA w)
/-- a method that leaves the world w' and answers nothing -/
def zWV (l : Launch) (y : MethodName) (ws : List Cond) (rm : Room) (D : va_G) (T : Nat → ClassId) (av : List Value) (w : va_W) (w' : va_W) : Prop := Met l y ws rm (zPre D T av w) (zQV D w w') 0 0 (zA w)
/-- behind a call: the caller's other cells, and the callee's world -/
theorem z_join {A0 : Nat → Prop} {D : va_G} {cl : List vw_C} {w wc wr w1 : va_W} {H H1 : Heap} (hP : va_P D cl w H) (hD : va_D A0 w) (isC isR : List Nat) (hC : isC.map (fun i => w[i]?) = wc.map some) (hR : isR.map (fun i => w[i]?) = wr.map some) (hdis : ∀ i ∈ isR, i ∉ isC)
    (hk : ∀ q : Nat, q < H.size → ¬ zA wc q → H1[q]? = H[q]?) (hP1 : va_P D cl w1 H1) : va_P D cl (wr ++ w1) H1 := by
  have pick : ∀ {is : List Nat} {u : va_W}, is.map (fun i => w[i]?) = u.map some → ∀ (k : Nat) (q : Nat × va_E), u[k]? = some q → ∃ i, i ∈ is ∧ w[i]? = some q := by
    intro is u hs k q hq
    have h1 : (is.map (fun i => w[i]?))[k]? = some (some q) := by rw [hs, List.getElem?_map, hq]; rfl
    rw [List.getElem?_map] at h1
    cases hi : is[k]? with
    | none => rw [hi] at h1; cases h1
    | some i => rw [hi] at h1; exact ⟨i, List.mem_of_getElem? hi, Option.some.inj h1⟩
  refine va_P.app (fun k q hq => ?_) hP1
  obtain ⟨i, h1, h2⟩ := pick hR k q hq
  refine (hP i q h2).kept (hk q.1 (hP i q h2).lt ?_)
  rintro ⟨k2, e2, h3⟩
  obtain ⟨j, h4, h5⟩ := pick hC k2 (q.1, e2) h3
  have hij := hD.1 i j q (q.1, e2) h2 h5 rfl
  subst hij
  exact hdis i h1 h4
theorem zA.sub {A0 : Nat → Prop} {w wc : va_W} (hD : va_D A0 w) (isC : List Nat) (hC : isC.map (fun i => w[i]?) = wc.map some) {q : Nat} (h : zA wc q) : A0 q := by
  obtain ⟨k, e, h⟩ := h
  have h1 : (isC.map (fun i => w[i]?))[k]? = some (some (q, e)) := by rw [hC, List.getElem?_map, h]; rfl
  rw [List.getElem?_map] at h1
  cases hi : isC[k]? with
  | none => rw [hi] at h1; cases h1
  | some i => rw [hi] at h1; exact hD.2 i _ (Option.some.inj h1)
theorem z_pickP {D : va_G} {w wc : va_W} {isC : List Nat} {H : Heap} (hP : va_P D vwCl w H) (hC : isC.map (fun i => w[i]?) = wc.map some) : va_P D vwCl wc H := by
  intro k q hq
  have h1 : (isC.map (fun i => w[i]?))[k]? = some (some q) := by rw [hC, List.getElem?_map, hq]; rfl
  rw [List.getElem?_map] at h1
  cases hi : isC[k]? with
  | none => rw [hi] at h1; cases h1
  | some i => rw [hi] at h1; exact hP i q (Option.some.inj h1)
end ZH
section ZM
variable {p : Program} {l : Launch} {e : Env} {R : Room} {s : State} {m : MethodId} {args : Array Value} {below : List Frame} {meth : Method} {c : Code} {cells slots : Nat} {Q : State → Prop}
variable {cc : ByteArray} {nL fr lc : Nat} {own : String} {Ts : List Cond} {A : Nat → Prop} {D : va_G} {T : Nat → ClassId}
variable {w : va_W} {lv : List (Nat × Value)} {pc : Nat} {st : List Value}
theorem z_get (C : zC p R s m args meth c cc nL own Ts D T fr lc cells slots) {ref Cn : String} {F : u_T} {N ci index a : Nat} {fs : List Value} {v : Value} (hin : ∀ x ∈ u_ws Cn F N, x ∈ Ts) (q0 : Nat) (he : w[q0]? = some (a, .inr (ci, fs))) (hc : vwCl[ci]? = some (Cn, F, N)) (k : Nat) (hk : k < N) (hl : Cond.fieldLink own index ref (F k).2.1 (F k).2.2.1 ∈ Ts) (hr : (F k).1 = ref) (hv : fs[k]? = some v) (hd : decode cc pc = .ok (.getfield index, 3)) (n : Nat) (hn : pc + 3 = n)
    (K : zt p l e R s m args below meth c nL A D cells slots Q w lv n (v :: st)) : zt p l e R s m args below meth c nL A D cells slots Q w lv pc (.ref a :: st) := by
  subst hn; subst hr
  exact fun H locs ls hP hS hl2 => va_get (D := D) C.1.1 C.1.2.1 C.1.2.2.2.2 hin C.1.2.2.2.1 C.2.1.1 hP q0 he hc k hk (C.1.2.2.2.2 _ hl) (fun _ h => h) hv hd (K H locs ls hP hS hl2)
theorem z_put (C : zC p R s m args meth c cc nL own Ts D T fr lc cells slots) {β : Type} {ex : β} {G : (Nat → Nat → Int32) → Option β} {ref Cn : String} {F : u_T} {N ci index a : Nat} {fs : List Value} {x : Int32} {ty : FieldType} (wf : (Nat → Nat → Int32) → va_W) (S : Nat → Nat → Int32) (hD : va_D A (wf S)) (hin : ∀ x ∈ u_ws Cn F N, x ∈ Ts) (ty0 : Nat → FieldType) (hty : ∀ k, k < N → parseFieldDescriptor (F k).2.2.1 = some (ty0 k)) (hnm : ∀ a, a < N → ∀ b, b < N → a ≠ b → (F a).2.1 ≠ (F b).2.1) (q0 : Nat) (he : (wf S)[q0]? = some (a, .inr (ci, fs))) (hc : vwCl[ci]? = some (Cn, F, N)) (k : Nat) (hk : k < N) (hl : Cond.fieldLink own index ref (F k).2.1 (F k).2.2.1 ∈ Ts) (hr : (F k).1 = ref) (hfin : (F k).2.2.2 = false) (hd0 : parseFieldDescriptor (F k).2.2.1 = some ty) (hnr : narrow ty (.int x) = .int x) (hfit : fits ty (.int x) = true) (hlen : k < fs.length)
    (hw : (wf S).set q0 (a, .inr (ci, fs.set k (.int x))) = wf (zst S k 0 x)) (hd : decode cc pc = .ok (.putfield index, 3)) (n : Nat) (hn : pc + 3 = n) (h : zlet (zst S k 0 x) G = some ex)
    (K : ∀ S1, G S1 = some ex → zt p l e R s m args below meth c nL A D cells slots Q (wf S1) lv n st) : zt p l e R s m args below meth c nL A D cells slots Q (wf S) lv pc (.int x :: .ref a :: st) := by
  subst hn; subst hr
  exact fun H locs ls hP hS hl2 => va_put (D := D) C.1.1 C.1.2.1 C.1.2.2.2.2 hin ty0 hty hnm C.1.2.2.2.1 C.2.1.1 hP hD hS q0 he hc k hk (C.1.2.2.2.2 _ hl) (fun _ h => h) hfin hd0 hnr hfit hlen hd (fun H1 locs1 hP1 _ hS1 => K _ h H1 locs1 ls (hw ▸ hP1) hS1 hl2)
theorem z_iald (C : zC p R s m args meth c cc nL own Ts D T fr lc cells slots) {β : Type} {ex : β} {G : Nat → Option β} {a N : Nat} {f : Nat → Int32} {cA : ClassId} {i : Int32} (q0 : Nat) (ha : w[q0]? = some (a, .inl (cA, N, .inl f))) (ht : (ztys T)[0]? = some (cA, .int)) (hd : decode cc pc = .ok (.iaload, 1)) (n : Nat) (hn : pc + 1 = n) (h : zix i N G = some ex)
    (K : G i.toNatClampNeg = some ex → zt p l e R s m args below meth c nL A D cells slots Q w lv n (.int (f i.toNatClampNeg) :: st)) : zt p l e R s m args below meth c nL A D cells slots Q w lv pc (.int i :: .ref a :: st) := by
  subst hn
  exact fun H locs ls hP hS hl => va_iald (D := D) C.1.1 C.1.2.1 C.2.1.1 hP q0 0 ha ht (zix_some h).1 hd (K (zix_some h).2 H locs ls hP hS hl)
theorem z_zald (C : zC p R s m args meth c cc nL own Ts D T fr lc cells slots) {β : Type} {ex : β} {G : Nat → Option β} {a N : Nat} {f : Nat → Int32} {cA : ClassId} {i : Int32} (q0 : Nat) (ha : w[q0]? = some (a, .inl (cA, N, .inl f))) (ht : (ztys T)[1]? = some (cA, .boolean)) (hd : decode cc pc = .ok (.baload, 1)) (n : Nat) (hn : pc + 1 = n) (h : zix i N G = some ex)
    (K : G i.toNatClampNeg = some ex → zt p l e R s m args below meth c nL A D cells slots Q w lv n (.int (f i.toNatClampNeg) :: st)) : zt p l e R s m args below meth c nL A D cells slots Q w lv pc (.int i :: .ref a :: st) := by
  subst hn
  exact fun H locs ls hP hS hl => va_zald (D := D) C.1.1 C.1.2.1 C.2.1.1 hP q0 1 ha ht (zix_some h).1 hd (K (zix_some h).2 H locs ls hP hS hl)
theorem z_bald (C : zC p R s m args meth c cc nL own Ts D T fr lc cells slots) {β : Type} {ex : β} {G : Nat → Option β} {a N : Nat} {f : Nat → Int32} {cA : ClassId} {i : Int32} (q0 : Nat) (ha : w[q0]? = some (a, .inl (cA, N, .inl f))) (ht : (ztys T)[2]? = some (cA, .byte)) (hd : decode cc pc = .ok (.baload, 1)) (n : Nat) (hn : pc + 1 = n) (h : zix i N G = some ex)
    (K : G i.toNatClampNeg = some ex → zt p l e R s m args below meth c nL A D cells slots Q w lv n (.int (f i.toNatClampNeg) :: st)) : zt p l e R s m args below meth c nL A D cells slots Q w lv pc (.int i :: .ref a :: st) := by
  subst hn
  exact fun H locs ls hP hS hl => va_bald (D := D) C.1.1 C.1.2.1 C.2.1.1 hP q0 2 ha ht (zix_some h).1 hd (K (zix_some h).2 H locs ls hP hS hl)
theorem z_iast (C : zC p R s m args meth c cc nL own Ts D T fr lc cells slots) {β : Type} {ex : β} {G : (Nat → Nat → Int32) → Option β} {a N : Nat} {f : Nat → Int32} {cA : ClassId} {i x : Int32} (wf : (Nat → Nat → Int32) → va_W) (S : Nat → Nat → Int32) (k : Nat) (hD : va_D A (wf S)) (q0 : Nat) (ha : (wf S)[q0]? = some (a, .inl (cA, N, .inl f))) (ht : (ztys T)[0]? = some (cA, .int)) (hw : ∀ j, (wf S).set q0 (a, .inl (cA, N, .inl (upd f j x))) = wf (zst S k j x)) (hd : decode cc pc = .ok (.iastore, 1)) (n : Nat) (hn : pc + 1 = n) (h : zix i N (fun j => zlet (zst S k j x) G) = some ex)
    (K : ∀ S1, G S1 = some ex → zt p l e R s m args below meth c nL A D cells slots Q (wf S1) lv n st) : zt p l e R s m args below meth c nL A D cells slots Q (wf S) lv pc (.int x :: .int i :: .ref a :: st) := by
  subst hn
  exact fun H locs ls hP hS hl => va_iast (D := D) C.1.1 C.1.2.1 C.2.1.1 hP hD hS q0 0 ha ht (zix_some h).1 hd (fun H1 locs1 hP1 _ hS1 => K _ (zix_some h).2 H1 locs1 ls ((hw _) ▸ hP1) hS1 hl)
theorem z_zast (C : zC p R s m args meth c cc nL own Ts D T fr lc cells slots) {β : Type} {ex : β} {G : (Nat → Nat → Int32) → Option β} {a N : Nat} {f : Nat → Int32} {cA : ClassId} {i x : Int32} (wf : (Nat → Nat → Int32) → va_W) (S : Nat → Nat → Int32) (k : Nat) (hD : va_D A (wf S)) (q0 : Nat) (ha : (wf S)[q0]? = some (a, .inl (cA, N, .inl f))) (ht : (ztys T)[1]? = some (cA, .boolean)) (hw : ∀ j, (wf S).set q0 (a, .inl (cA, N, .inl (upd f j x))) = wf (zst S k j x)) (hd : decode cc pc = .ok (.bastore, 1)) (n : Nat) (hn : pc + 1 = n) (h : zbo x (zix i N (fun j => zlet (zst S k j x) G)) = some ex)
    (K : ∀ S1, G S1 = some ex → zt p l e R s m args below meth c nL A D cells slots Q (wf S1) lv n st) : zt p l e R s m args below meth c nL A D cells slots Q (wf S) lv pc (.int x :: .int i :: .ref a :: st) := by
  subst hn
  obtain ⟨hx, h⟩ := zbo_some h
  have hv : vp_nar .boolean x = x := by rcases hx with rfl | rfl <;> rfl
  refine fun H locs ls hP hS hl => va_zast (D := D) C.1.1 C.1.2.1 C.2.1.1 hP hD hS q0 1 ha ht (zix_some h).1 hd (fun H1 locs1 hP1 _ hS1 => ?_)
  rw [hv] at hP1
  exact K _ (zix_some h).2 H1 locs1 ls ((hw _) ▸ hP1) hS1 hl
theorem z_bast (C : zC p R s m args meth c cc nL own Ts D T fr lc cells slots) {β : Type} {ex : β} {G : (Nat → Nat → Int32) → Option β} {a N : Nat} {f : Nat → Int32} {cA : ClassId} {i x : Int32} (wf : (Nat → Nat → Int32) → va_W) (S : Nat → Nat → Int32) (k : Nat) (hD : va_D A (wf S)) (q0 : Nat) (ha : (wf S)[q0]? = some (a, .inl (cA, N, .inl f))) (ht : (ztys T)[2]? = some (cA, .byte)) (hw : ∀ j, (wf S).set q0 (a, .inl (cA, N, .inl (upd f j (vp_nar .byte x)))) = wf (zst S k j (vp_nar .byte x))) (hd : decode cc pc = .ok (.bastore, 1)) (n : Nat) (hn : pc + 1 = n) (h : zix i N (fun j => zlet (zst S k j (vp_nar .byte x)) G) = some ex)
    (K : ∀ S1, G S1 = some ex → zt p l e R s m args below meth c nL A D cells slots Q (wf S1) lv n st) : zt p l e R s m args below meth c nL A D cells slots Q (wf S) lv pc (.int x :: .int i :: .ref a :: st) := by
  subst hn
  exact fun H locs ls hP hS hl => va_bast (D := D) C.1.1 C.1.2.1 C.2.1.1 hP hD hS q0 2 ha ht (zix_some h).1 hd (fun H1 locs1 hP1 _ hS1 => K _ (zix_some h).2 H1 locs1 ls ((hw _) ▸ hP1) hS1 hl)
theorem z_alen (C : zC p R s m args meth c cc nL own Ts D T fr lc cells slots) {a : Nat} {x : vp_A} {cA : ClassId} (v : Int32) (q0 : Nat) (ha : w[q0]? = some (a, .inl (cA, x))) (ht : (ztys T)[0]? = some (cA, .int)) (hv : Int32.ofNat x.1 = v) (hd : decode cc pc = .ok (.arraylength, 1)) (n : Nat) (hn : pc + 1 = n)
    (K : zt p l e R s m args below meth c nL A D cells slots Q w lv n (.int v :: st)) : zt p l e R s m args below meth c nL A D cells slots Q w lv pc (.ref a :: st) := by
  subst hn
  exact fun H locs ls hP hS hl => va_alen (D := D) C.1.1 C.1.2.1 C.2.1.1 hP q0 0 ha ht hv hd (K H locs ls hP hS hl)
/-! ends -/
theorem z_iretR {v v' : Int32} (C : zC p R s m args meth c cc nL own Ts D T fr lc 0 0) (hr : meth.sig.returnType = some .int) (hd : decode cc pc = .ok (.ireturn, 1)) (h : some v = some v') : zt p l e R s m args below meth c nL (fun _ => False) D 0 0 (MQ below (zQI v') args s 0 0 (fun _ => False)) w lv pc [.int v] :=
  fun H locs ls hP hS hl => W.iret (v := v) C.1.1 C.1.2.1 hr (fun t ht hW => ⟨⟨v, (), rfl, Option.some.inj h, trivial⟩, hS.F ht⟩) hS.2.2 hd C.2.2.1
theorem z_zretR {v v' : Int32} (C : zC p R s m args meth c cc nL own Ts D T fr lc 0 0) (hr : meth.sig.returnType = some .boolean) (hd : decode cc pc = .ok (.ireturn, 1)) (h : zbo v (some v) = some v') : zt p l e R s m args below meth c nL (fun _ => False) D 0 0 (MQ below (zQI v') args s 0 0 (fun _ => False)) w lv pc [.int v] :=
  fun H locs ls hP hS hl => W.zret (v := v) C.1.1 C.1.2.1 hr (zb_narrow (zbo_some h).1) (fun t ht hW => ⟨⟨v, (), rfl, Option.some.inj (zbo_some h).2, trivial⟩, hS.F ht⟩) hS.2.2 hd C.2.2.1
theorem z_iretW {w0 : va_W} {σ : Type} {v : Int32} {x : σ} {ex : Int32 × σ} (wf : σ → va_W) (C : zC p R s m args meth c cc nL own Ts D T fr lc 0 0) (hr : meth.sig.returnType = some .int) (hd : decode cc pc = .ok (.ireturn, 1)) (h : some (v, x) = some ex) (hw : wf x = w) : zt p l e R s m args below meth c nL (zA w0) D 0 0 (MQ below (zQJ D w0 ex.1 (wf ex.2)) args s 0 0 (zA w0)) w lv pc [.int v] := by
  cases h; subst hw
  exact fun H locs ls hP hS hl => W.iret (v := v) C.1.1 C.1.2.1 hr (fun t ht hW => ⟨⟨v, (), rfl, rfl, by subst ht; exact hP⟩, hS.F ht⟩) hS.2.2 hd C.2.2.1
theorem z_zretW {w0 : va_W} {σ : Type} {v : Int32} {x : σ} {ex : Int32 × σ} (wf : σ → va_W) (C : zC p R s m args meth c cc nL own Ts D T fr lc 0 0) (hr : meth.sig.returnType = some .boolean) (hd : decode cc pc = .ok (.ireturn, 1)) (h : zbo v (some (v, x)) = some ex) (hw : wf x = w) : zt p l e R s m args below meth c nL (zA w0) D 0 0 (MQ below (zQJ D w0 ex.1 (wf ex.2)) args s 0 0 (zA w0)) w lv pc [.int v] := by
  obtain ⟨hb, h⟩ := zbo_some h
  cases h; subst hw
  exact fun H locs ls hP hS hl => W.zret (v := v) C.1.1 C.1.2.1 hr (zb_narrow hb) (fun t ht hW => ⟨⟨v, (), rfl, rfl, by subst ht; exact hP⟩, hS.F ht⟩) hS.2.2 hd C.2.2.1
theorem z_vretW {w0 : va_W} {ρ : Type} {x ex : ρ} (wf : ρ → va_W) (C : zC p R s m args meth c cc nL own Ts D T fr lc 0 0) (hr : meth.sig.returnType = none) (hd : decode cc pc = .ok (.return_, 1)) (h : some x = some ex) (hw : wf x = w) : zt p l e R s m args below meth c nL (zA w0) D 0 0 (MQ below (zQV D w0 (wf ex)) args s 0 0 (zA w0)) w lv pc [] := by
  cases h; subst hw
  exact fun H locs ls hP hS hl => W.vret C.1.1 C.1.2.1 hr (fun t ht hW => ⟨⟨(), rfl, trivial, by subst ht; exact hP⟩, hS.F ht⟩) hS.2.2 hd C.2.2.1
theorem z_zastc {x : Int32} (hx : x = 0 ∨ x = 1) (C : zC p R s m args meth c cc nL own Ts D T fr lc cells slots) {β : Type} {ex : β} {G : (Nat → Nat → Int32) → Option β} {a N : Nat} {f : Nat → Int32} {cA : ClassId} {i : Int32} (wf : (Nat → Nat → Int32) → va_W) (S : Nat → Nat → Int32) (k : Nat) (hD : va_D A (wf S)) (q0 : Nat) (ha : (wf S)[q0]? = some (a, .inl (cA, N, .inl f))) (ht : (ztys T)[1]? = some (cA, .boolean)) (hw : ∀ j, (wf S).set q0 (a, .inl (cA, N, .inl (upd f j x))) = wf (zst S k j x)) (hd : decode cc pc = .ok (.bastore, 1)) (n : Nat) (hn : pc + 1 = n) (h : zix i N (fun j => zlet (zst S k j x) G) = some ex)
    (K : ∀ S1, G S1 = some ex → zt p l e R s m args below meth c nL A D cells slots Q (wf S1) lv n st) : zt p l e R s m args below meth c nL A D cells slots Q (wf S) lv pc (.int x :: .int i :: .ref a :: st) :=
  z_zast C wf S k hD q0 ha ht hw hd n hn (by unfold zbo; rw [if_pos hx]; exact h) K
theorem z_putZ (C : zC p R s m args meth c cc nL own Ts D T fr lc cells slots) {β : Type} {ex : β} {G : (Nat → Nat → Int32) → Option β} {ref Cn : String} {F : u_T} {N ci index a : Nat} {fs : List Value} {x : Int32} (wf : (Nat → Nat → Int32) → va_W) (S : Nat → Nat → Int32) (hD : va_D A (wf S)) (hin : ∀ x ∈ u_ws Cn F N, x ∈ Ts) (ty0 : Nat → FieldType) (hty : ∀ k, k < N → parseFieldDescriptor (F k).2.2.1 = some (ty0 k)) (hnm : ∀ a, a < N → ∀ b, b < N → a ≠ b → (F a).2.1 ≠ (F b).2.1) (q0 : Nat) (he : (wf S)[q0]? = some (a, .inr (ci, fs))) (hc : vwCl[ci]? = some (Cn, F, N)) (k : Nat) (hk : k < N) (hl : Cond.fieldLink own index ref (F k).2.1 (F k).2.2.1 ∈ Ts) (hr : (F k).1 = ref) (hfin : (F k).2.2.2 = false) (hd0 : parseFieldDescriptor (F k).2.2.1 = some .boolean) (hlen : k < fs.length)
    (hw : (wf S).set q0 (a, .inr (ci, fs.set k (.int x))) = wf (zst S k 0 x)) (hd : decode cc pc = .ok (.putfield index, 3)) (n : Nat) (hn : pc + 3 = n) (h : zbo x (zlet (zst S k 0 x) G) = some ex)
    (K : ∀ S1, G S1 = some ex → zt p l e R s m args below meth c nL A D cells slots Q (wf S1) lv n st) : zt p l e R s m args below meth c nL A D cells slots Q (wf S) lv pc (.int x :: .ref a :: st) :=
  z_put C wf S hD hin ty0 hty hnm q0 he hc k hk hl hr hfin hd0 (zb_narrow (zbo_some h).1) (zb_fits (zbo_some h).1) hlen hw hd n hn (zbo_some h).2 K
theorem z_zretRc {v v' : Int32} (C : zC p R s m args meth c cc nL own Ts D T fr lc 0 0) (hr : meth.sig.returnType = some .boolean) (hd : decode cc pc = .ok (.ireturn, 1)) (hb : v = 0 ∨ v = 1) (h : some v = some v') : zt p l e R s m args below meth c nL (fun _ => False) D 0 0 (MQ below (zQI v') args s 0 0 (fun _ => False)) w lv pc [.int v] :=
  fun H locs ls hP hS hl => W.zret (v := v) C.1.1 C.1.2.1 hr (zb_narrow hb) (fun t ht hW => ⟨⟨v, (), rfl, Option.some.inj h, trivial⟩, hS.F ht⟩) hS.2.2 hd C.2.2.1
theorem z_zretWc {w0 : va_W} {σ : Type} {v : Int32} {x : σ} {ex : Int32 × σ} (wf : σ → va_W) (C : zC p R s m args meth c cc nL own Ts D T fr lc 0 0) (hr : meth.sig.returnType = some .boolean) (hd : decode cc pc = .ok (.ireturn, 1)) (hb : v = 0 ∨ v = 1) (h : some (v, x) = some ex) (hw : wf x = w) : zt p l e R s m args below meth c nL (zA w0) D 0 0 (MQ below (zQJ D w0 ex.1 (wf ex.2)) args s 0 0 (zA w0)) w lv pc [.int v] := by
  cases h; subst hw
  exact fun H locs ls hP hS hl => W.zret (v := v) C.1.1 C.1.2.1 hr (zb_narrow hb) (fun t ht hW => ⟨⟨v, (), rfl, rfl, by subst ht; exact hP⟩, hS.F ht⟩) hS.2.2 hd C.2.2.1
/-! switches; Math.max, Math.min -/
theorem z_case {β : Type} {ex : β} {X Y : Option β} {x v : Int32} (h : (if x = v then X else Y) = some ex) (K1 : x = v → X = some ex → zt p l e R s m args below meth c nL A D cells slots Q w lv pc st) (K2 : ¬ x = v → Y = some ex → zt p l e R s m args below meth c nL A D cells slots Q w lv pc st) : zt p l e R s m args below meth c nL A D cells slots Q w lv pc st := by
  by_cases hx : x = v
  · exact K1 hx (z_pos hx h)
  · exact K2 hx (z_neg hx h)
theorem z_ne_toInt {x v : Int32} (h : ¬ x = v) : x.toInt ≠ v.toInt := fun e => h (Int32.toInt_inj.mp e)
theorem z_tableIn (C : zC p R s m args meth c cc nL own Ts D T fr lc cells slots) {dflt lo hi : Int} {offs : Array Int} {len : Nat} {x v : Int32} {off : Int} (tgt : Nat) (hd : decode cc pc = .ok (.tableswitch dflt lo hi offs, len)) (hx : x = v) (h1 : ¬ v.toInt < lo) (h2 : ¬ hi < v.toInt) (ho : offs[(v.toInt - lo).toNat]? = some off) (ht : (pc : Int) + off = (tgt : Int)) (K : zt p l e R s m args below meth c nL A D cells slots Q w lv tgt st) : zt p l e R s m args below meth c nL A D cells slots Q w lv pc (.int x :: st) := by
  subst hx
  exact fun H locs ls hP hS hl => lv_tableIn C.1.1 C.1.2.1 hd h1 h2 ho ht (K H locs ls hP hS hl)
theorem z_tableOut (C : zC p R s m args meth c cc nL own Ts D T fr lc cells slots) {dflt lo hi : Int} {offs : Array Int} {len : Nat} {x : Int32} (tgt : Nat) (hd : decode cc pc = .ok (.tableswitch dflt lo hi offs, len)) (h1 : x.toInt < lo ∨ hi < x.toInt) (ht : (pc : Int) + dflt = (tgt : Int)) (K : zt p l e R s m args below meth c nL A D cells slots Q w lv tgt st) : zt p l e R s m args below meth c nL A D cells slots Q w lv pc (.int x :: st) :=
  fun H locs ls hP hS hl => lv_tableOut C.1.1 C.1.2.1 hd h1 ht (K H locs ls hP hS hl)
theorem z_mmax (C : zC p R s m args meth c cc nL own Ts D T fr lc cells slots) {index : Nat} {x y : Int32} (h1 : Cond.methodLink own index Lib.Math.max.name ∈ Ts) (h2 : Cond.static Lib.Math.max.name ∈ Ts) (h3 : Cond.initialized "java/lang/Math" ∈ Ts) (h4 : Cond.code Lib.Math.max.name Lib.Math.max.code 2 (some .int) ∈ Ts) (hf : 1 ≤ fr) (hl0 : 21 ≤ lc) (hst : (st.map fun v => v.category).sum ≤ 8) (hd : decode cc pc = .ok (.invokestatic index, 3)) (n : Nat) (hn : pc + 3 = n) (K : zt p l e R s m args below meth c nL A D cells slots Q w lv n (.int (if x < y then y else x) :: st)) : zt p l e R s m args below meth c nL A D cells slots Q w lv pc (.int y :: .int x :: st) := by
  subst hn
  exact fun H locs ls hP hS hl => va_mmax C.1.1 C.1.2.1 (C.1.2.2.1.trans hl.1.symm) C.1.2.2.2.1 (C.1.2.2.2.2 _ h1) (C.1.2.2.2.2 _ h2) (C.1.2.2.2.2 _ h3) (C.1.2.2.2.2 _ h4) (Nat.le_trans hf C.2.2.2.1.1) (by have := C.2.2.2.1.2; omega) C.2.2.2.2.1 C.2.2.2.2.2 hd (K H locs ls hP hS hl)
theorem z_mmin (C : zC p R s m args meth c cc nL own Ts D T fr lc cells slots) {index : Nat} {x y : Int32} (h1 : Cond.methodLink own index Lib.Math.min.name ∈ Ts) (h2 : Cond.static Lib.Math.min.name ∈ Ts) (h3 : Cond.initialized "java/lang/Math" ∈ Ts) (h4 : Cond.code Lib.Math.min.name Lib.Math.min.code 2 (some .int) ∈ Ts) (hf : 1 ≤ fr) (hl0 : 21 ≤ lc) (hst : (st.map fun v => v.category).sum ≤ 8) (hd : decode cc pc = .ok (.invokestatic index, 3)) (n : Nat) (hn : pc + 3 = n) (K : zt p l e R s m args below meth c nL A D cells slots Q w lv n (.int (if y < x then y else x) :: st)) : zt p l e R s m args below meth c nL A D cells slots Q w lv pc (.int y :: .int x :: st) := by
  subst hn
  exact fun H locs ls hP hS hl => va_mmin C.1.1 C.1.2.1 (C.1.2.2.1.trans hl.1.symm) C.1.2.2.2.1 (C.1.2.2.2.2 _ h1) (C.1.2.2.2.2 _ h2) (C.1.2.2.2.2 _ h3) (C.1.2.2.2.2 _ h4) (Nat.le_trans hf C.2.2.2.1.1) (by have := C.2.2.2.1.2; omega) C.2.2.2.2.1 C.2.2.2.2.2 hd (K H locs ls hP hS hl)
/-! beginnings -/
theorem z_begin {y : MethodName} {ws ws' : List Cond} {rm : Room} {av : List Value} {Qc : Array Value → State → Outcome → State → Prop} {free : Nat → Prop} {ret : Option FieldType} (hy : plainName y.cls = true) (hw0 : ws = Cond.code y cc nL ret :: ws') (hav : (lg_sl av).length ≤ nL) (A : Nat → Prop) (hA : A = free) (lv0 : List (Nat × Value)) (hlv : lv_args 0 av = lv0) (hrm : rm.frames = fr ∧ rm.locals = lc) (hown : y.cls = own)
    (body : ∀ (p : Program) (e : Env) (s : State) (m : MethodId) (args : Array Value) (below : List Frame) (meth : Method) (c : Code), zC p rm s m args meth c cc nL own ws D T fr lc 0 0 → meth.sig.returnType = ret → va_D (fun _ => True) w → zt p l e rm s m args below meth c nL A D 0 0 (MQ below Qc args s 0 0 free) w lv0 0 []) : Met l y ws rm (zPre D T av w) Qc 0 0 free := by
  refine Met.ofW (cc := cc) (maxL := nL) (ret := ret) hy hw0 ?_
  intro p e s m args below meth c s₁ B hml hv
  obtain ⟨rfl, hP, hK, hD⟩ := hv
  have hts := atoms_spec (ws := ws) B.pre
  have hfc : s.vm.findClass own = some m.cls := hown ▸ findClass_of_methodNamed B.named
  have hl := lv_entry av (n := nL) hav
  rw [hlv] at hl
  rw [lg_entry_eq]
  exact body p e s m av.toArray below meth c ⟨⟨B.exec, B.bytes, hml, hfc, hts⟩, hK, B.notSynchronized, ⟨Nat.le_of_eq hrm.1.symm, Nat.le_of_eq hrm.2.symm⟩, Nat.zero_le _, Nat.zero_le _⟩ B.returns hD s.heap [] _ hP va_S.rf hl
/-! calls -/
section CALL
variable {y : MethodName} {bytes : ByteArray} {maxL index : Nat} {ret : Option FieldType} {ws ws' : List Cond} {rm : Room} {β ρ : Type} {ex : β} {g : Option ρ} {F : ρ → Option β} {Cn : String} {wc : va_W} {As : List Value} {st0 : List Value} {b : Nat} {A' : Nat → Prop}
/-- what a call's words say: a virtual call, a static one, a static one of a nest mate -/
def zCW (R : Room) (s : State) (args : Array Value) (own : String) (index : Nat) (y : MethodName) (bytes : ByteArray) (maxL : Nat) (ret : Option FieldType) (ws : List Cond) (rm : Room) (mc ms n : Nat) (kd : Nat) : Prop :=
  (kd = 0 ∧ CallW R s args own y.cls index y bytes maxL ret ws rm mc ms n) ∨ (kd = 1 ∧ CallB R s args own index y bytes maxL ret ws rm mc ms n ∧ (Cond.static y).before args s = true) ∨ (kd = 2 ∧ va_CN R s args own index y "StreamTree" bytes maxL ret ws rm mc ms n ∧ (Cond.static y).before args s = true ∧ True)
def zInv (kd index : Nat) : Instr := if kd = 0 then .invokevirtual index else .invokestatic index
theorem z_cwV (C : zC p R s m args meth c cc nL own Ts D T fr lc cells slots) (n : Nat) (hG : GoodIn Ts (wsV own index Cn y ws)) (hw : ws = Cond.code y bytes maxL ret :: ws') (hc : y.cls = Cn) (hd0 : Cn ≠ "java/lang/invoke/MethodHandle" ∧ Cn ≠ "java/lang/invoke/VarHandle" ∧ (parseMethodDescriptor y.desc).map (fun d => d.parameters.length) = some n) (hR : rm.frames + 1 ≤ fr ∧ 8 + (maxL + 11) + rm.locals ≤ lc) : zCW R s args own index y bytes maxL ret ws rm rm.cells rm.slots n 0 := by
  subst hc
  exact Or.inl ⟨rfl, cwV n C.1.2.2.2.2 hG hw rfl rfl ⟨rfl, hd0⟩ ⟨Nat.le_trans hR.1 C.2.2.2.1.1, Nat.le_trans hR.2 C.2.2.2.1.2⟩⟩
theorem z_cwS (C : zC p R s m args meth c cc nL own Ts D T fr lc cells slots) (n : Nat) (hG : GoodIn Ts (va_wsS own index y ws)) (hw : ws = Cond.code y bytes maxL ret :: ws') (hd0 : y.cls ≠ "java/lang/invoke/MethodHandle" ∧ y.cls ≠ "java/lang/invoke/VarHandle" ∧ (parseMethodDescriptor y.desc).map (fun d => d.parameters.length) = some n) (hR : rm.frames + 1 ≤ fr ∧ 8 + (maxL + 11) + rm.locals ≤ lc) : zCW R s args own index y bytes maxL ret ws rm rm.cells rm.slots n 1 :=
  Or.inr (Or.inl ⟨rfl, va_cwS n C.1.2.2.2.2 hG hw rfl rfl hd0 ⟨Nat.le_trans hR.1 C.2.2.2.1.1, Nat.le_trans hR.2 C.2.2.2.1.2⟩⟩)
theorem z_cwN (C : zC p R s m args meth c cc nL own Ts D T fr lc cells slots) (n : Nat) (hG : GoodIn Ts ws) (hw : ws = Cond.code y bytes maxL ret :: ws') (hnest : Cond.methodLinkNest own index y "StreamTree" ∈ znests) (hst : Cond.static y ∈ Ts) (hini : Cond.initialized y.cls ∈ Ts) (hd0 : y.cls ≠ "java/lang/invoke/MethodHandle" ∧ y.cls ≠ "java/lang/invoke/VarHandle" ∧ (parseMethodDescriptor y.desc).map (fun d => d.parameters.length) = some n) (hR : rm.frames + 1 ≤ fr ∧ 8 + (maxL + 11) + rm.locals ≤ lc) : zCW R s args own index y bytes maxL ret ws rm rm.cells rm.slots n 2 :=
  Or.inr (Or.inr ⟨rfl, va_cnB n C.1.2.2.2.2 hG hw rfl rfl (C.2.1.2.1 _ hnest) (C.1.2.2.2.2 _ hini) hd0 ⟨Nat.le_trans hR.1 C.2.2.2.1.1, Nat.le_trans hR.2 C.2.2.2.1.2⟩, C.1.2.2.2.2 _ hst, trivial⟩)
/-- the call itself, of any of the three kinds: av are the callee's locals, the receiver first -/
theorem z_run {Pc : Array Value → State → Prop} {Qc : Array Value → State → Outcome → State → Prop} {free : Addr → Prop} {H : Heap} {locs : List Loc} {ls : Array Slot} {mc ms n kd : Nat} {av : List Value} (C : zC p R s m args meth c cc nL own Ts D T fr lc cells slots) (hM : Met l y ws rm Pc Qc mc ms free) (cw : zCW R s args own index y bytes maxL ret ws rm mc ms n kd) (hbl : FrameBlind Pc) (hrecv : kd = 0 → ∃ (b : Nat) (As : List Value), av = .ref b :: As ∧ As.length = n ∧ ∃ cellB : Cell, H[b]? = some cellB ∧ cellB.vm.isStatics = false ∧ s.vm.findClass y.cls = some cellB.cls) (hn1 : kd ≠ 0 → av.length = n) (hPc : ∀ U : State, U.heap = H → s.WarmedH U.vm → Pc av.toArray U) (hsz : ls.size = nL) (hst0 : st0 = av.reverse ++ st) (hst : (st.map fun v => v.category).sum ≤ 8) (hd : decode cc pc = .ok (zInv kd index, 3)) (hf : cells + mc ≤ R.cells ∧ slots + ms ≤ R.slots) :
    va_Run p l e R s m args below meth c H locs cells slots mc ms (F0 m pc ls st0) st (Qc av.toArray) free := by
  subst hst0
  rcases cw with ⟨rfl, cw⟩ | ⟨rfl, cw⟩ | ⟨rfl, cw⟩
  · obtain ⟨b, As, rfl, hA, hB⟩ := hrecv rfl
    exact va_runV (As := As) (b := b) (rest := st) C.1 hM cw ⟨hbl, hB, hPc⟩ rfl hA hsz (by simp [F0]) (lv_room hst) hd hf
  · exact va_runS (As := av) (rest := st) C.1 hM cw ⟨hbl, hPc⟩ rfl (hn1 (by decide)) hsz rfl (lv_room hst) hd hf
  · exact va_runSN (As := av) (rest := st) C.1 hM cw ⟨hbl, hPc⟩ rfl (hn1 (by decide)) hsz rfl (lv_room hst) hd hf
/-- a call of a method that writes nothing -/
theorem z_callR {g : Option Int32} {F : Int32 → Option β} {n kd : Nat} {av : List Value} (C : zC p R s m args meth c cc nL own Ts D T fr lc cells slots) (wc : va_W) (hM : ∀ v, g = some v → zRI l y ws rm D T av wc v) (hrm : rm.cells = 0 ∧ rm.slots = 0) (cw : zCW R s args own index y bytes maxL ret ws rm rm.cells rm.slots n kd) (hD : va_D A' w) (isC : List Nat) (hnd : va_nd isC = true) (hC : isC.map (fun i => w[i]?) = wc.map some) (hrecv : kd = 0 → ∃ (b : Nat) (As : List Value) (ci q0 : Nat) (q : vw_C) (fs : List Value), av = .ref b :: As ∧ As.length = n ∧ vwCl[ci]? = some q ∧ wc[q0]? = some (b, .inr (ci, fs)) ∧ q.1 = y.cls) (hn1 : kd ≠ 0 → av.length = n) (hst0 : st0 = av.reverse ++ st) (hst : (st.map fun v => v.category).sum ≤ 8) (hd : decode cc pc = .ok (zInv kd index, 3)) (n2 : Nat) (hn : pc + 3 = n2) (h : g.bind F = some ex)
    (K : ∀ r, F r = some ex → zt p l e R s m args below meth c nL A D cells slots Q w lv n2 (.int r :: st)) : zt p l e R s m args below meth c nL A D cells slots Q w lv pc st0 := by
  subst hn
  intro H locs ls hP hS hl
  obtain ⟨v, hv, h⟩ := Option.bind_eq_some_iff.mp h
  rw [hrm.1, hrm.2] at cw
  have hPc : va_P D vwCl wc H := z_pickP hP hC
  have hDc : va_D (fun _ => True) wc := (hD.sub isC hnd hC).weaken (fun _ _ _ _ => trivial)
  refine va_calli (A1 := fun _ => False) (z_run (n := n) (kd := kd) (av := av) C (hM v hv) cw zPre.blind (fun hk => ?_) hn1 (fun U hU hW => ⟨rfl, by rw [hU]; exact hPc, C.2.1.warm hW, hDc⟩) hl.1 hst0 hst hd ⟨C.2.2.2.2.1, C.2.2.2.2.2⟩) hS (fun q _ h => h.elim) (fun q h => h.elim) (fun r u t H1 locs1 ht hvm hw hB hz1 hk1 hS1 => ?_)
  · obtain ⟨b, As, ci, q0, q, fs, h1, h2, h3, h4, h5⟩ := hrecv hk
    exact ⟨b, As, h1, h2, h5 ▸ va_recv C.2.1.1 hPc h3 h4⟩
  · have hw : r = v := hw
    subst hw
    exact K r h H1 locs1 ls (hP.zkept (fun q hq => hk1 q hq (fun f => f.elim))) hS1 hl
/-- a call of a method that changes its world and answers a number -/
theorem z_callW {n kd : Nat} {av : List Value} (C : zC p R s m args meth c cc nL own Ts D T fr lc cells slots) (wc wr : va_W) (rv : ρ → Int32) (w1 wn : ρ → va_W) (hM : ∀ x, g = some x → zWI l y ws rm D T av wc (rv x) (w1 x)) (hrm : rm.cells = 0 ∧ rm.slots = 0) (cw : zCW R s args own index y bytes maxL ret ws rm rm.cells rm.slots n kd) (hD : va_D A w) (isC isR pm : List Nat) (hnd : va_nd isC = true) (hC : isC.map (fun i => w[i]?) = wc.map some) (hR : isR.map (fun i => w[i]?) = wr.map some) (hdis : ∀ i ∈ isR, i ∉ isC) (hN : ∀ x, pm.filterMap (fun i => (wr ++ w1 x)[i]?) = wn x) (hrecv : kd = 0 → ∃ (b : Nat) (As : List Value) (ci q0 : Nat) (q : vw_C) (fs : List Value), av = .ref b :: As ∧ As.length = n ∧ vwCl[ci]? = some q ∧ wc[q0]? = some (b, .inr (ci, fs)) ∧ q.1 = y.cls) (hn1 : kd ≠ 0 → av.length = n) (hst0 : st0 = av.reverse ++ st) (hst : (st.map fun v => v.category).sum ≤ 8) (hd : decode cc pc = .ok (zInv kd index, 3)) (n2 : Nat) (hn : pc + 3 = n2) (h : g.bind F = some ex)
    (K : ∀ x, F x = some ex → zt p l e R s m args below meth c nL A D cells slots Q (wn x) lv n2 (.int (rv x) :: st)) : zt p l e R s m args below meth c nL A D cells slots Q w lv pc st0 := by
  subst hn
  intro H locs ls hP hS hl
  obtain ⟨v, hv, h⟩ := Option.bind_eq_some_iff.mp h
  rw [hrm.1, hrm.2] at cw
  have hPc : va_P D vwCl wc H := z_pickP hP hC
  have hDc : va_D (fun _ => True) wc := (hD.sub isC hnd hC).weaken (fun _ _ _ _ => trivial)
  refine va_calli (A1 := zA wc) (z_run (n := n) (kd := kd) (av := av) C (hM v hv) cw zPre.blind (fun hk => ?_) hn1 (fun U hU hW => ⟨rfl, by rw [hU]; exact hPc, C.2.1.warm hW, hDc⟩) hl.1 hst0 hst hd ⟨C.2.2.2.2.1, C.2.2.2.2.2⟩) hS (fun q _ h => zA.sub hD isC hC h) (fun q h => zA.sub hD isC hC h) (fun r u t H1 locs1 ht hvm hw hB hz1 hk1 hS1 => ?_)
  · obtain ⟨b, As, ci, q0, q, fs, h1, h2, h3, h4, h5⟩ := hrecv hk
    exact ⟨b, As, h1, h2, h5 ▸ va_recv C.2.1.1 hPc h3 h4⟩
  · have hw : r = rv v := hw
    subst hw
    have hB : va_P D vwCl (w1 v) t.heap := hB
    rw [ht] at hB
    exact K v h H1 locs1 ls ((z_join hP hD isC isR hC hR hdis hk1 hB).sub pm (hN v)) hS1 hl
/-- the same, of a method that answers nothing -/
theorem z_callV {n kd : Nat} {av : List Value} (C : zC p R s m args meth c cc nL own Ts D T fr lc cells slots) (wc wr : va_W) (w1 wn : ρ → va_W) (hM : ∀ x, g = some x → zWV l y ws rm D T av wc (w1 x)) (hrm : rm.cells = 0 ∧ rm.slots = 0) (cw : zCW R s args own index y bytes maxL ret ws rm rm.cells rm.slots n kd) (hD : va_D A w) (isC isR pm : List Nat) (hnd : va_nd isC = true) (hC : isC.map (fun i => w[i]?) = wc.map some) (hR : isR.map (fun i => w[i]?) = wr.map some) (hdis : ∀ i ∈ isR, i ∉ isC) (hN : ∀ x, pm.filterMap (fun i => (wr ++ w1 x)[i]?) = wn x) (hrecv : kd = 0 → ∃ (b : Nat) (As : List Value) (ci q0 : Nat) (q : vw_C) (fs : List Value), av = .ref b :: As ∧ As.length = n ∧ vwCl[ci]? = some q ∧ wc[q0]? = some (b, .inr (ci, fs)) ∧ q.1 = y.cls) (hn1 : kd ≠ 0 → av.length = n) (hst0 : st0 = av.reverse ++ st) (hst : (st.map fun v => v.category).sum ≤ 8) (hd : decode cc pc = .ok (zInv kd index, 3)) (n2 : Nat) (hn : pc + 3 = n2) (h : g.bind F = some ex)
    (K : ∀ x, F x = some ex → zt p l e R s m args below meth c nL A D cells slots Q (wn x) lv n2 st) : zt p l e R s m args below meth c nL A D cells slots Q w lv pc st0 := by
  subst hn
  intro H locs ls hP hS hl
  obtain ⟨v, hv, h⟩ := Option.bind_eq_some_iff.mp h
  rw [hrm.1, hrm.2] at cw
  have hPc : va_P D vwCl wc H := z_pickP hP hC
  have hDc : va_D (fun _ => True) wc := (hD.sub isC hnd hC).weaken (fun _ _ _ _ => trivial)
  refine va_callv (A1 := zA wc) (z_run (n := n) (kd := kd) (av := av) C (hM v hv) cw zPre.blind (fun hk => ?_) hn1 (fun U hU hW => ⟨rfl, by rw [hU]; exact hPc, C.2.1.warm hW, hDc⟩) hl.1 hst0 hst hd ⟨C.2.2.2.2.1, C.2.2.2.2.2⟩) hS (fun q _ h => zA.sub hD isC hC h) (fun q h => zA.sub hD isC hC h) (fun u t H1 locs1 ht hvm hw hB hz1 hk1 hS1 => ?_)
  · obtain ⟨b, As, ci, q0, q, fs, h1, h2, h3, h4, h5⟩ := hrecv hk
    exact ⟨b, As, h1, h2, h5 ▸ va_recv C.2.1.1 hPc h3 h4⟩
  · have hB : va_P D vwCl (w1 v) t.heap := hB
    rw [ht] at hB
    exact K v h H1 locs1 ls ((z_join hP hD isC isR hC hR hdis hk1 hB).sub pm (hN v)) hS1 hl
end CALL
end ZM
