/-! the words of a text: String constants, their length() and charAt(k) -/
section ZS
def zlen : List Nat := [5, 5, 5, 4, 4, 5]
def zbyt : List (List Int32) := [[99, 104, 97, 114, 116], [112, 108, 97, 99, 101], [114, 111, 99, 107, 115], [98, 97, 115, 101], [98, 101, 110, 100], [114, 101, 97, 99, 104]]
def zchr (i : Nat) (k : Int32) : Int32 := (zbyt.getD i []).getD k.toNatClampNeg 0
/-- what is known of the constants, and of two statics of the JDK: none of their cells is in A -/
def zE (adK adV : Nat → Nat) (A : Nat → Prop) (U : State) (H : Heap) : Prop := vk_S 6 zlen zbyt adK adV A U H ∧ va_Z "java/lang/String" "COMPACT_STRINGS" "Z" (.int 1) A U H ∧ va_Zq "jdk/internal/util/Preconditions" "SIOOBE_FORMATTER" "Ljava/util/function/BiFunction;" A U H
theorem zE.moved {adK adV : Nat → Nat} {A : Nat → Prop} {u U : State} {H : Heap} (hvm : u.vm.Alike U.vm) (h : zE adK adV A u H) : zE adK adV A U H := ⟨h.1.moved hvm, h.2.1.moved hvm, h.2.2.moved hvm⟩
theorem zE.kept {adK adV : Nat → Nat} {A : Nat → Prop} {U : State} {H H1 : Heap} (h : zE adK adV A U H) (hq : ∀ a : Nat, a < H.size → ¬ A a → H1[a]? = H[a]?) : zE adK adV A U H1 := ⟨h.1.kept hq, h.2.1.kept hq, h.2.2.kept hq⟩
theorem zE.narrow {adK adV : Nat → Nat} {A B : Nat → Prop} {U : State} {H : Heap} (h : zE adK adV A U H) (hAB : ∀ q, B q → A q) : zE adK adV B U H := ⟨h.1.narrow hAB, h.2.1.narrow hAB, h.2.2.narrow hAB⟩
def zPreS (D : va_G) (T : Nat → ClassId) (adK adV : Nat → Nat) (av : List Value) : Array Value → State → Prop := va_Pc av (fun U => zK D T U ∧ zE adK adV (fun _ => False) U U.heap)
theorem zPreS.blind {D : va_G} {T : Nat → ClassId} {adK adV : Nat → Nat} {av : List Value} : FrameBlind (zPreS D T adK adV av) := fun a U g mk q => ⟨q.1, q.2.1.calling g mk a, zE.moved (u := U) (U := U.calling g mk a) (Vm.Alike.refl U.vm) q.2.2⟩
def zQ0 : Array Value → State → Outcome → State → Prop := va_Qv (fun (_ : Unit) => True) (fun _ _ => True) (fun _ => False)
variable {p : Program} {l : Launch} {e : Env} {R : Room} {s : State} {m : MethodId} {args : Array Value} {below : List Frame} {meth : Method} {c : Code} {cells slots : Nat} {Q : State → Prop}
variable {cc : ByteArray} {nL fr lc : Nat} {own : String} {Ts : List Cond} {A : Nat → Prop} {D : va_G} {T : Nat → ClassId}
variable {w : va_W} {lv : List (Nat × Value)} {pc : Nat} {st : List Value} {adK adV : Nat → Nat}
theorem ze_get (C : zC p R s m args meth c cc nL own Ts D T fr lc cells slots) {o nm d ref : String} {index q : Nat} {v : Value} (hE : va_OF o nm d v q A s s.heap) (hl : Cond.fieldLink own index ref nm d ∈ Ts) (hr : o = ref) (hd : decode cc pc = .ok (.getfield index, 3)) (n : Nat) (hn : pc + 3 = n) (K : zt p l e R s m args below meth c nL A D cells slots Q w lv n (v :: st)) : zt p l e R s m args below meth c nL A D cells slots Q w lv pc (.ref q :: st) := by
  subst hn; subst hr
  exact fun H locs ls hP hS hl2 => vk_getf C.1.1 C.1.2.1 hE hS C.1.2.2.2.1 (C.1.2.2.2.2 _ hl) (fun _ h => h) hd (K H locs ls hP hS hl2)
theorem ze_gets (C : zC p R s m args meth c cc nL own Ts D T fr lc cells slots) {o nm d ref : String} {index : Nat} {v : Value} (hE : va_Z o nm d v A s s.heap) (hl : Cond.fieldLink own index ref nm d ∈ Ts) (hr : o = ref) (hd : decode cc pc = .ok (.getstatic index, 3)) (n : Nat) (hn : pc + 3 = n) (K : zt p l e R s m args below meth c nL A D cells slots Q w lv n (v :: st)) : zt p l e R s m args below meth c nL A D cells slots Q w lv pc st := by
  subst hn; subst hr
  exact fun H locs ls hP hS hl2 => va_gets C.1.1 C.1.2.1 hE hS C.1.2.2.2.1 (C.1.2.2.2.2 _ hl) (fun _ h => h) hd (K H locs ls hP hS hl2)
theorem ze_len (C : zC p R s m args meth c cc nL own Ts D T fr lc cells slots) {ty : FieldType} {t N : Nat} {f : Nat → Value} (hT : va_T ty t N f A s s.heap) (hd : decode cc pc = .ok (.arraylength, 1)) (n : Nat) (hn : pc + 1 = n) (K : zt p l e R s m args below meth c nL A D cells slots Q w lv n (.int (nI N) :: st)) : zt p l e R s m args below meth c nL A D cells slots Q w lv pc (.ref t :: st) := by
  subst hn
  exact fun H locs ls hP hS hl2 => va_tlen C.1.1 C.1.2.1 hT hS rfl hd (K H locs ls hP hS hl2)
theorem ze_bld (C : zC p R s m args meth c cc nL own Ts D T fr lc cells slots) {t N : Nat} {f : Nat → Value} {i : Int32} (v : Value) (hT : va_T .byte t N f A s s.heap) (hin : vp_in i N) (hv : f i.toNatClampNeg = v) (hd : decode cc pc = .ok (.baload, 1)) (n : Nat) (hn : pc + 1 = n) (K : zt p l e R s m args below meth c nL A D cells slots Q w lv n (v :: st)) : zt p l e R s m args below meth c nL A D cells slots Q w lv pc (.int i :: .ref t :: st) := by
  subst hn
  exact fun H locs ls hP hS hl2 => va_tb C.1.1 C.1.2.1 hT hS hin hv hd (K H locs ls hP hS hl2)
theorem z_i2c (C : zC p R s m args meth c cc nL own Ts D T fr lc cells slots) {x : Int32} (hd : decode cc pc = .ok (.i2c, 1)) (n : Nat) (hn : pc + 1 = n) (K : zt p l e R s m args below meth c nL A D cells slots Q w lv n (.int (x.toUInt32 % 65536).toInt32 :: st)) : zt p l e R s m args below meth c nL A D cells slots Q w lv pc (.int x :: st) := by
  subst hn; exact fun H locs ls hP hS hl => lv_i2c C.1.1 C.1.2.1 hd rfl (K H locs ls hP hS hl)
theorem z_xretR {v v' : Int32} {ty : FieldType} (C : zC p R s m args meth c cc nL own Ts D T fr lc 0 0) (hr : meth.sig.returnType = some ty) (hnw : narrow ty (.int v) = .int v) (hd : decode cc pc = .ok (.ireturn, 1)) (h : v = v') : zt p l e R s m args below meth c nL (fun _ => False) D 0 0 (MQ below (zQI v') args s 0 0 (fun _ => False)) w lv pc [.int v] :=
  fun H locs ls hP hS hl => W.zret (v := v) C.1.1 C.1.2.1 hr hnw (fun t ht hW => ⟨⟨v, (), rfl, h, trivial⟩, hS.F ht⟩) hS.2.2 hd C.2.2.1
theorem z_vret0 (C : zC p R s m args meth c cc nL own Ts D T fr lc 0 0) (hr : meth.sig.returnType = none) (hd : decode cc pc = .ok (.return_, 1)) : zt p l e R s m args below meth c nL (fun _ => False) D 0 0 (MQ below zQ0 args s 0 0 (fun _ => False)) w lv pc [] :=
  fun H locs ls hP hS hl => W.vret C.1.1 C.1.2.1 hr (fun t ht hW => ⟨⟨(), rfl, trivial, trivial⟩, hS.F ht⟩) hS.2.2 hd C.2.2.1
theorem z_beginS {y : MethodName} {ws ws' : List Cond} {rm : Room} {av : List Value} {Qc : Array Value → State → Outcome → State → Prop} {ret : Option FieldType} (hy : plainName y.cls = true) (hw0 : ws = Cond.code y cc nL ret :: ws') (hav : (lg_sl av).length ≤ nL) (lv0 : List (Nat × Value)) (hlv : lv_args 0 av = lv0) (hrm : rm.frames = fr ∧ rm.locals = lc) (hown : y.cls = own)
    (body : ∀ (p : Program) (e : Env) (s : State) (m : MethodId) (args : Array Value) (below : List Frame) (meth : Method) (c : Code), zC p rm s m args meth c cc nL own ws D T fr lc 0 0 → meth.sig.returnType = ret → zE adK adV (fun _ => False) s s.heap → zt p l e rm s m args below meth c nL (fun _ => False) D 0 0 (MQ below Qc args s 0 0 (fun _ => False)) [] lv0 0 []) : Met l y ws rm (zPreS D T adK adV av) Qc 0 0 (fun _ => False) := by
  refine Met.ofW (cc := cc) (maxL := nL) (ret := ret) hy hw0 ?_
  intro p e s m args below meth c s₁ B hml hv
  obtain ⟨rfl, hK, hE⟩ := hv
  have hts := atoms_spec (ws := ws) B.pre
  have hfc : s.vm.findClass own = some m.cls := hown ▸ findClass_of_methodNamed B.named
  have hl := lv_entry av (n := nL) hav
  rw [hlv] at hl
  rw [lg_entry_eq]
  exact body p e s m av.toArray below meth c ⟨⟨B.exec, B.bytes, hml, hfc, hts⟩, hK, B.notSynchronized, ⟨Nat.le_of_eq hrm.1.symm, Nat.le_of_eq hrm.2.symm⟩, Nat.zero_le _, Nat.zero_le _⟩ B.returns hE s.heap [] _ (fun k q h => by simp at h) va_S.rf hl
section CALLS
variable {y : MethodName} {bytes : ByteArray} {maxL index : Nat} {ret : Option FieldType} {ws ws' : List Cond} {rm : Room} {st0 : List Value}
theorem z_callS {v : Int32} {n kd : Nat} {av : List Value} (C : zC p R s m args meth c cc nL own Ts D T fr lc cells slots) (hM : Met l y ws rm (zPreS D T adK adV av) (zQI v) 0 0 (fun _ => False)) (hrm : rm.cells = 0 ∧ rm.slots = 0) (cw : zCW R s args own index y bytes maxL ret ws rm rm.cells rm.slots n kd) (E : zE adK adV A s s.heap) (hrecv : kd = 0 → ∃ (i : Nat) (As : List Value), av = .ref (adK i) :: As ∧ As.length = n ∧ i < 6 ∧ "java/lang/String" = y.cls) (hn1 : kd ≠ 0 → av.length = n) (hst0 : st0 = av.reverse ++ st) (hst : (st.map fun v => v.category).sum ≤ 8) (hd : decode cc pc = .ok (zInv kd index, 3)) (n2 : Nat) (hn : pc + 3 = n2)
    (K : zt p l e R s m args below meth c nL A D cells slots Q w lv n2 (.int v :: st)) : zt p l e R s m args below meth c nL A D cells slots Q w lv pc st0 := by
  subst hn
  intro H locs ls hP hS hl
  rw [hrm.1, hrm.2] at cw
  refine va_calli (A1 := fun _ => False) (z_run (n := n) (kd := kd) (av := av) C hM cw zPreS.blind (fun hk => ?_) hn1 (fun U hU hW => ⟨rfl, C.2.1.warm hW, by rw [hU]; exact ((E.kept hS.2.1).narrow (fun _ h => h.elim)).moved hW.alike⟩) hl.1 hst0 hst hd ⟨C.2.2.2.2.1, C.2.2.2.2.2⟩) hS (fun q _ h => h.elim) (fun q h => h.elim) (fun r u t H1 locs1 ht hvm hw hB hz1 hk1 hS1 => ?_)
  · obtain ⟨i, As, h1, h2, h3, h4⟩ := hrecv hk
    exact ⟨adK i, As, h1, h2, h4 ▸ vk_recv E.1 h3 hS⟩
  · have hw : r = v := hw
    subst hw
    exact K H1 locs1 ls (hP.zkept (fun q hq => hk1 q hq (fun f => f.elim))) hS1 hl
theorem z_callS0 {n kd : Nat} {av : List Value} (C : zC p R s m args meth c cc nL own Ts D T fr lc cells slots) (hM : Met l y ws rm (zPreS D T adK adV av) zQ0 0 0 (fun _ => False)) (hrm : rm.cells = 0 ∧ rm.slots = 0) (cw : zCW R s args own index y bytes maxL ret ws rm rm.cells rm.slots n kd) (E : zE adK adV A s s.heap) (hkd : kd ≠ 0) (hn1 : av.length = n) (hst0 : st0 = av.reverse ++ st) (hst : (st.map fun v => v.category).sum ≤ 8) (hd : decode cc pc = .ok (zInv kd index, 3)) (n2 : Nat) (hn : pc + 3 = n2)
    (K : zt p l e R s m args below meth c nL A D cells slots Q w lv n2 st) : zt p l e R s m args below meth c nL A D cells slots Q w lv pc st0 := by
  subst hn
  intro H locs ls hP hS hl
  rw [hrm.1, hrm.2] at cw
  refine va_callv (A1 := fun _ => False) (z_run (n := n) (kd := kd) (av := av) C hM cw zPreS.blind (fun hk => absurd hk hkd) (fun _ => hn1) (fun U hU hW => ⟨rfl, C.2.1.warm hW, by rw [hU]; exact ((E.kept hS.2.1).narrow (fun _ h => h.elim)).moved hW.alike⟩) hl.1 hst0 hst hd ⟨C.2.2.2.2.1, C.2.2.2.2.2⟩) hS (fun q _ h => h.elim) (fun q h => h.elim) (fun u t H1 locs1 ht hvm hw hB hz1 hk1 hS1 => ?_)
  exact K H1 locs1 ls (hP.zkept (fun q hq => hk1 q hq (fun f => f.elim))) hS1 hl
end CALLS
theorem c_J0_coder (l : Launch) (D : va_G) (T : Nat → ClassId) (adK adV : Nat → Nat) {i : Nat} (hi : i < 6) : Met l yJ0_coder_7d493 wsJ0_coder_7d493 ({ frames := 0, cells := 0, slots := 0, locals := 0 } : Room) (zPreS D T adK adV [.ref (adK i)]) (zQI 0) 0 0 (fun _ => False) := by
  refine z_beginS (cc := cJ0_coder_7d493) (nL := 1) (own := RJ0) (fr := 0) (lc := 0) (ret := some .byte) (by decide) rfl (Nat.le_of_ble_eq_true rfl) [(0, .ref (adK i))] rfl ⟨rfl, rfl⟩ rfl ?_
  intro p e s m args below meth c C hr E
  refine ze_gets C E.2.1 (List.mem_of_getElem? (i := 1) rfl) rfl dJ0_coder_7d493_0 3 rfl ?_
  refine z_if_eq (X := none) (Y := some ()) (ex := ()) C 13 dJ0_coder_7d493_3 (by decide) 6 rfl (by decide) (fun h => by cases h) (fun _ => ?_)
  refine z_aload_n C dJ0_coder_7d493_6 rfl 0 rfl 7 rfl ?_
  refine ze_get C (E.1.1 i hi).2.1 (List.mem_of_getElem? (i := 2) rfl) rfl dJ0_coder_7d493_7 10 rfl ?_
  refine z_goto C 14 dJ0_coder_7d493_10 (by decide) ?_
  exact z_xretR C hr rfl dJ0_coder_7d493_14 rfl
theorem c_J0_isLatin1 (l : Launch) (D : va_G) (T : Nat → ClassId) (adK adV : Nat → Nat) {i : Nat} (hi : i < 6) : Met l yJ0_isLatin1_aae02 wsJ0_isLatin1_aae02 ({ frames := 0, cells := 0, slots := 0, locals := 0 } : Room) (zPreS D T adK adV [.ref (adK i)]) (zQI 1) 0 0 (fun _ => False) := by
  refine z_beginS (cc := cJ0_isLatin1_aae02) (nL := 1) (own := RJ0) (fr := 0) (lc := 0) (ret := some .boolean) (by decide) rfl (Nat.le_of_ble_eq_true rfl) [(0, .ref (adK i))] rfl ⟨rfl, rfl⟩ rfl ?_
  intro p e s m args below meth c C hr E
  refine ze_gets C E.2.1 (List.mem_of_getElem? (i := 1) rfl) rfl dJ0_isLatin1_aae02_0 3 rfl ?_
  refine z_if_eq (X := none) (Y := some ()) (ex := ()) C 17 dJ0_isLatin1_aae02_3 (by decide) 6 rfl (by decide) (fun h => by cases h) (fun _ => ?_)
  refine z_aload_n C dJ0_isLatin1_aae02_6 rfl 0 rfl 7 rfl ?_
  refine ze_get C (E.1.1 i hi).2.1 (List.mem_of_getElem? (i := 2) rfl) rfl dJ0_isLatin1_aae02_7 10 rfl ?_
  refine z_if_ne (X := none) (Y := some ()) (ex := ()) C 17 dJ0_isLatin1_aae02_10 (by decide) 13 rfl (by decide) (fun h => by cases h) (fun _ => ?_)
  refine z_iconst C 1 dJ0_isLatin1_aae02_13 (by decide) 14 rfl ?_
  refine z_goto C 18 dJ0_isLatin1_aae02_14 (by decide) ?_
  exact z_xretR C hr rfl dJ0_isLatin1_aae02_18 rfl
theorem dd_J0_coder : RJ0 ≠ "java/lang/invoke/MethodHandle" ∧ RJ0 ≠ "java/lang/invoke/VarHandle" ∧ (parseMethodDescriptor yJ0_coder_7d493.desc).map (fun d => d.parameters.length) = some 0 := by decide +kernel
theorem dd_J0_isLatin1 : RJ0 ≠ "java/lang/invoke/MethodHandle" ∧ RJ0 ≠ "java/lang/invoke/VarHandle" ∧ (parseMethodDescriptor yJ0_isLatin1_aae02.desc).map (fun d => d.parameters.length) = some 0 := by decide +kernel
theorem dd_J0_length : RJ0 ≠ "java/lang/invoke/MethodHandle" ∧ RJ0 ≠ "java/lang/invoke/VarHandle" ∧ (parseMethodDescriptor yJ0_length_8abf5.desc).map (fun d => d.parameters.length) = some 0 := by decide +kernel
theorem dd_J0_charAt : RJ0 ≠ "java/lang/invoke/MethodHandle" ∧ RJ0 ≠ "java/lang/invoke/VarHandle" ∧ (parseMethodDescriptor yJ0_charAt_5068e.desc).map (fun d => d.parameters.length) = some 1 := by decide +kernel
theorem dd_J1_charAt : RJ1 ≠ "java/lang/invoke/MethodHandle" ∧ RJ1 ≠ "java/lang/invoke/VarHandle" ∧ (parseMethodDescriptor yJ1_charAt_3b067.desc).map (fun d => d.parameters.length) = some 2 := by decide +kernel
theorem dd_J0_checkIndex : RJ0 ≠ "java/lang/invoke/MethodHandle" ∧ RJ0 ≠ "java/lang/invoke/VarHandle" ∧ (parseMethodDescriptor yJ0_checkIndex_df160.desc).map (fun d => d.parameters.length) = some 2 := by decide +kernel
theorem dd_J3_checkIndex : RJ3 ≠ "java/lang/invoke/MethodHandle" ∧ RJ3 ≠ "java/lang/invoke/VarHandle" ∧ (parseMethodDescriptor yJ3_checkIndex_8e157.desc).map (fun d => d.parameters.length) = some 3 := by decide +kernel
theorem zlen_small : ∀ i, i < 6 → zlen.getD i 0 < 6 := by decide
theorem c_J0_length (l : Launch) (D : va_G) (T : Nat → ClassId) (adK adV : Nat → Nat) {i : Nat} (hi : i < 6) : Met l yJ0_length_8abf5 wsJ0_length_8abf5 ({ frames := 1, cells := 0, slots := 0, locals := 20 } : Room) (zPreS D T adK adV [.ref (adK i)]) (zQI (nI (zlen.getD i 0))) 0 0 (fun _ => False) := by
  refine z_beginS (cc := cJ0_length_8abf5) (nL := 1) (own := RJ0) (fr := 1) (lc := 20) (ret := some .int) (by decide) rfl (Nat.le_of_ble_eq_true rfl) [(0, .ref (adK i))] rfl ⟨rfl, rfl⟩ rfl ?_
  intro p e s m args below meth c C hr E
  refine z_aload_n C dJ0_length_8abf5_0 rfl 0 rfl 1 rfl ?_
  refine ze_get C (E.1.1 i hi).2.2.1 (List.mem_of_getElem? (i := 1) rfl) rfl dJ0_length_8abf5_1 4 rfl ?_
  refine ze_len C (E.1.1 i hi).2.2.2 dJ0_length_8abf5_4 5 rfl ?_
  refine z_aload_n C dJ0_length_8abf5_5 rfl 0 rfl 6 rfl ?_
  refine z_callS (av := [.ref (adK i)]) C (c_J0_coder l D T adK adV hi) ⟨rfl, rfl⟩ (z_cwV C 0 gJ0_length_8abf5_J0_coder_7d493 rfl rfl dd_J0_coder ⟨Nat.le_of_ble_eq_true rfl, Nat.le_of_ble_eq_true rfl⟩) E (fun _ => ⟨i, [], rfl, rfl, hi, rfl⟩) (fun h => absurd rfl h) rfl (Nat.le_of_ble_eq_true rfl) dJ0_length_8abf5_6 9 rfl ?_
  refine z_ishr C dJ0_length_8abf5_9 10 rfl ?_
  exact z_xretR C hr rfl dJ0_length_8abf5_10 (sc_shr0 (by have := zlen_small i hi; omega))
theorem c_J3_checkIndex (l : Launch) (D : va_G) (T : Nat → ClassId) (adK adV : Nat → Nat) {x n : Int32} {vb : Value} (hvb : vb = .null ∨ ∃ t, vb = .ref t) (h0 : ¬ x < 0) (h1 : x < n) : Met l yJ3_checkIndex_8e157 wsJ3_checkIndex_8e157 ({ frames := 0, cells := 0, slots := 0, locals := 0 } : Room) (zPreS D T adK adV [.int x, .int n, vb]) (zQI x) 0 0 (fun _ => False) := by
  have hcat : vb.category = 1 := by rcases hvb with rfl | ⟨t, rfl⟩ <;> rfl
  refine z_beginS (cc := cJ3_checkIndex_8e157) (nL := 3) (own := RJ3) (fr := 0) (lc := 0) (ret := some .int) (by decide) rfl (by rcases hvb with rfl | ⟨t, rfl⟩ <;> exact Nat.le_of_ble_eq_true rfl) [(0, .int x), (1, .int n), (2, vb)] rfl ⟨rfl, rfl⟩ rfl ?_
  intro p e s m args below meth c C hr E
  refine z_iload_n C dJ3_checkIndex_8e157_0 rfl 0 rfl 1 rfl ?_
  refine z_if_lt (X := none) (Y := some ()) (ex := ()) C 9 dJ3_checkIndex_8e157_1 (by decide) 4 rfl (if_neg h0) (fun h => by cases h) (fun _ => ?_)
  refine z_iload_n C dJ3_checkIndex_8e157_4 rfl 0 rfl 5 rfl ?_
  refine z_iload_n C dJ3_checkIndex_8e157_5 rfl 1 rfl 6 rfl ?_
  refine z_icmp_lt (X := some ()) (Y := none) (ex := ()) C 16 dJ3_checkIndex_8e157_6 (by decide) 9 rfl (if_pos h1) (fun _ => ?_) (fun h => by cases h)
  refine z_iload_n C dJ3_checkIndex_8e157_16 rfl 0 rfl 17 rfl ?_
  exact z_xretR C hr rfl dJ3_checkIndex_8e157_17 rfl
theorem c_J0_checkIndex (l : Launch) (D : va_G) (T : Nat → ClassId) (adK adV : Nat → Nat) {x n : Int32} (h0 : ¬ x < 0) (h1 : x < n) : Met l yJ0_checkIndex_df160 wsJ0_checkIndex_df160 ({ frames := 1, cells := 0, slots := 0, locals := 22 } : Room) (zPreS D T adK adV [.int x, .int n]) zQ0 0 0 (fun _ => False) := by
  refine z_beginS (cc := cJ0_checkIndex_df160) (nL := 2) (own := RJ0) (fr := 1) (lc := 22) (ret := none) (by decide) rfl (Nat.le_of_ble_eq_true rfl) [(0, .int x), (1, .int n)] rfl ⟨rfl, rfl⟩ rfl ?_
  intro p e s m args below meth c C hr E
  refine z_iload_n C dJ0_checkIndex_df160_0 rfl 0 rfl 1 rfl ?_
  refine z_iload_n C dJ0_checkIndex_df160_1 rfl 1 rfl 2 rfl ?_
  obtain ⟨vb, hvb, hZ⟩ : ∃ vb : Value, (vb = .null ∨ ∃ t, vb = .ref t) ∧ va_Z "jdk/internal/util/Preconditions" "SIOOBE_FORMATTER" "Ljava/util/function/BiFunction;" vb (fun _ => False) s s.heap := by
    rcases E.2.2 with h | ⟨t, h⟩
    · exact ⟨.null, Or.inl rfl, h⟩
    · exact ⟨.ref t, Or.inr ⟨t, rfl⟩, h⟩
  refine ze_gets C hZ (List.mem_of_getElem? (i := 1) rfl) rfl dJ0_checkIndex_df160_2 5 rfl ?_
  refine z_callS (av := [.int x, .int n, vb]) C (c_J3_checkIndex l D T adK adV hvb h0 h1) ⟨rfl, rfl⟩ (z_cwS C 3 gJ0_checkIndex_df160_J3_checkIndex_8e157 rfl dd_J3_checkIndex ⟨Nat.le_of_ble_eq_true rfl, Nat.le_of_ble_eq_true rfl⟩) E (fun h => absurd h (by decide)) (fun _ => rfl) rfl (Nat.le_of_ble_eq_true rfl) dJ0_checkIndex_df160_5 8 rfl ?_
  refine z_pop C dJ0_checkIndex_df160_8 rfl 9 rfl ?_
  exact z_vret0 C hr dJ0_checkIndex_df160_9
theorem zchr_ok : ∀ i, i < 6 → ∀ k, k < 6 → ((((zbyt.getD i []).getD k 0 &&& 255).toUInt32 % 65536).toInt32 = (zbyt.getD i []).getD k 0 ∧ narrow .char (.int ((zbyt.getD i []).getD k 0)) = .int ((zbyt.getD i []).getD k 0)) := by decide +kernel
theorem c_J1_charAt (l : Launch) (D : va_G) (T : Nat → ClassId) (adK adV : Nat → Nat) {i k : Nat} (hi : i < 6) (hk : k < zlen.getD i 0) : Met l yJ1_charAt_3b067 wsJ1_charAt_3b067 ({ frames := 2, cells := 0, slots := 0, locals := 43 } : Room) (zPreS D T adK adV [.ref (adV i), .int (nI k)]) (zQI ((zbyt.getD i []).getD k 0)) 0 0 (fun _ => False) := by
  have hs := zlen_small i hi
  refine z_beginS (cc := cJ1_charAt_3b067) (nL := 2) (own := RJ1) (fr := 2) (lc := 43) (ret := some .char) (by decide) rfl (Nat.le_of_ble_eq_true rfl) [(0, .ref (adV i)), (1, .int (nI k))] rfl ⟨rfl, rfl⟩ rfl ?_
  intro p e s m args below meth c C hr E
  refine z_iload_n C dJ1_charAt_3b067_0 rfl 1 rfl 1 rfl ?_
  refine z_aload_n C dJ1_charAt_3b067_1 rfl 0 rfl 2 rfl ?_
  refine ze_len C (E.1.1 i hi).2.2.2 dJ1_charAt_3b067_2 3 rfl ?_
  refine z_callS0 (kd := 1) (av := [.int (nI k), .int (nI (zlen.getD i 0))]) C (c_J0_checkIndex l D T adK adV (nI_pos (by omega)) (nI_lt hk (by omega))) ⟨rfl, rfl⟩ (z_cwS C 2 gJ1_charAt_3b067_J0_checkIndex_df160 rfl dd_J0_checkIndex ⟨Nat.le_of_ble_eq_true rfl, Nat.le_of_ble_eq_true rfl⟩) E (by decide) rfl rfl (Nat.le_of_ble_eq_true rfl) dJ1_charAt_3b067_3 6 rfl ?_
  refine z_aload_n C dJ1_charAt_3b067_6 rfl 0 rfl 7 rfl ?_
  refine z_iload_n C dJ1_charAt_3b067_7 rfl 1 rfl 8 rfl ?_
  refine ze_bld C (.int ((zbyt.getD i []).getD k 0)) (E.1.1 i hi).2.2.2 (vp_in_nI hk (by omega)) (by rw [nI_clamp (by omega)]) dJ1_charAt_3b067_8 9 rfl ?_
  refine z_sipush C 255 dJ1_charAt_3b067_9 (by decide) 12 rfl ?_
  refine z_iand C dJ1_charAt_3b067_12 13 rfl ?_
  refine z_i2c C dJ1_charAt_3b067_13 14 rfl ?_
  have hc := zchr_ok i hi k (by omega)
  rw [hc.1]
  exact z_xretR C hr hc.2 dJ1_charAt_3b067_14 rfl
theorem c_J0_charAt (l : Launch) (D : va_G) (T : Nat → ClassId) (adK adV : Nat → Nat) {i k : Nat} (hi : i < 6) (hk : k < zlen.getD i 0) : Met l yJ0_charAt_5068e wsJ0_charAt_5068e ({ frames := 3, cells := 0, slots := 0, locals := 64 } : Room) (zPreS D T adK adV [.ref (adK i), .int (nI k)]) (zQI ((zbyt.getD i []).getD k 0)) 0 0 (fun _ => False) := by
  have hs := zlen_small i hi
  refine z_beginS (cc := cJ0_charAt_5068e) (nL := 2) (own := RJ0) (fr := 3) (lc := 64) (ret := some .char) (by decide) rfl (Nat.le_of_ble_eq_true rfl) [(0, .ref (adK i)), (1, .int (nI k))] rfl ⟨rfl, rfl⟩ rfl ?_
  intro p e s m args below meth c C hr E
  refine z_aload_n C dJ0_charAt_5068e_0 rfl 0 rfl 1 rfl ?_
  refine z_callS (av := [.ref (adK i)]) C (c_J0_isLatin1 l D T adK adV hi) ⟨rfl, rfl⟩ (z_cwV C 0 gJ0_charAt_5068e_J0_isLatin1_aae02 rfl rfl dd_J0_isLatin1 ⟨Nat.le_of_ble_eq_true rfl, Nat.le_of_ble_eq_true rfl⟩) E (fun _ => ⟨i, [], rfl, rfl, hi, rfl⟩) (fun h => absurd rfl h) rfl (Nat.le_of_ble_eq_true rfl) dJ0_charAt_5068e_1 4 rfl ?_
  refine z_if_eq (X := none) (Y := some ()) (ex := ()) C 16 dJ0_charAt_5068e_4 (by decide) 7 rfl (by decide) (fun h => by cases h) (fun _ => ?_)
  refine z_aload_n C dJ0_charAt_5068e_7 rfl 0 rfl 8 rfl ?_
  refine ze_get C (E.1.1 i hi).2.2.1 (List.mem_of_getElem? (i := 1) rfl) rfl dJ0_charAt_5068e_8 11 rfl ?_
  refine z_iload_n C dJ0_charAt_5068e_11 rfl 1 rfl 12 rfl ?_
  refine z_callS (av := [.ref (adV i), .int (nI k)]) C (c_J1_charAt l D T adK adV hi hk) ⟨rfl, rfl⟩ (z_cwS C 2 gJ0_charAt_5068e_J1_charAt_3b067 rfl dd_J1_charAt ⟨Nat.le_of_ble_eq_true rfl, Nat.le_of_ble_eq_true rfl⟩) E (fun h => absurd h (by decide)) (fun _ => rfl) rfl (Nat.le_of_ble_eq_true rfl) dJ0_charAt_5068e_12 15 rfl ?_
  have hc := zchr_ok i hi k (by omega)
  exact z_xretR C hr hc.2 dJ0_charAt_5068e_15 rfl
end ZS
