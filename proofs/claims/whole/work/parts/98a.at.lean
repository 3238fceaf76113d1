/-! StreamTree.at answers or throws; the law's own at catches -/
section ATX
def wsX6_at2 : List Cond := .code yX6_at cX6_at 3 (some .int) :: ([.classLink RX6 121 "java/util/NoSuchElementException", .initialized "java/util/NoSuchElementException", .fieldLink RX6 19 "StreamTree" "now" "LStreamTree$Chart;", .fieldLink RX6 128 "StreamTree$Chart" "placeRing" "[I", .fieldLink RX6 131 "StreamTree$Chart" "placeTurn" "[I", .fieldLink RX6 104 "StreamTree$Chart" "placeAmount" "[I", .methodLink RX6 117 yX6_hasPlace, .instanceMethod yX6_hasPlace, .selects RX6 yX6_hasPlace yX6_hasPlace, .initialized RX6, .code yX6_hasPlace cX6_hasPlace 2 (some .boolean), .fieldLink RX6 71 "StreamTree$Chart" "places" "I", .methodLink RX6 74 yX6_isWithin, .static yX6_isWithin, .code yX6_isWithin cX6_isWithin 3 (some .boolean)] ++ wsX60 ++ wsX10)
def xWs : List Cond := (xtW RX6 125 "java/util/NoSuchElementException" 13 prog_25_method_4_code "java/lang/RuntimeException" ["java/lang/Exception"]).filter vx_no
theorem xWs_tab : xWs.all (fun w => w.onTables && w.keepsFace) = true := by decide +kernel
theorem xWs_ot : (Cond.classLink RX6 121 "java/util/NoSuchElementException" :: Cond.initialized "java/util/NoSuchElementException" :: xWs).all vx_ot = true := by decide +kernel
theorem xWs_cast : Cond.castable "java/util/NoSuchElementException" "java/util/NoSuchElementException" ∈ xWs := by decide +kernel
theorem xW_tab {w : Cond} (hw : w ∈ xWs) : w.onTables = true ∧ w.keepsFace = true := by
  have h := List.all_eq_true.mp xWs_tab w hw
  simpa only [Bool.and_eq_true] using h
/-- what a throw wants -/
def zXw (sa : Nat) (A : Nat → Prop) (U : State) (H : Heap) : Prop := vk_R RX6 123 "no such place, or nothing such of it" sa U ∧ (∀ w ∈ xWs, w.before #[] U = true) ∧ vx_Zq Bundle.tN "UNASSIGNED_STACK" Bundle.steD A U H ∧ vx_Zq Bundle.tN "SUPPRESSED_SENTINEL" Bundle.listD A U H
theorem zXw.warm {sa : Nat} {A : Nat → Prop} {s U : State} {H : Heap} (h : zXw sa A s H) (hW : s.WarmedH U.vm) : zXw sa A U H :=
  ⟨h.1.warm hW, fun w hw => va_tabs (xW_tab hw).1 (rfl : (s.setVm U.vm).vm = U.vm) (Cond.before_shiftedFace (State.Shifted.of_warmed hW) w (xW_tab hw).2 (h.2.1 w hw)), vx_Zq.moved hW.alike h.2.2.1, vx_Zq.moved hW.alike h.2.2.2⟩
theorem zXw.calling {sa : Nat} {A : Nat → Prop} {U : State} {H : Heap} (h : zXw sa A U H) (g : JFrame) (mk : MethodId) (a : Array Value) : zXw sa A (U.calling g mk a) H :=
  ⟨vk_R.same (u := U) rfl h.1, fun w hw => va_tabs (xW_tab hw).1 (show U.vm = (U.calling g mk a).vm from rfl) (h.2.1 w hw), vx_Zq.moved (u := U) (U := U.calling g mk a) (Vm.Alike.refl U.vm) h.2.2.1, vx_Zq.moved (u := U) (U := U.calling g mk a) (Vm.Alike.refl U.vm) h.2.2.2⟩
theorem zXw.kept {sa : Nat} {A : Nat → Prop} {U : State} {H H1 : Heap} (h : zXw sa A U H) (hq : ∀ a : Nat, a < H.size → ¬ A a → H1[a]? = H[a]?) : zXw sa A U H1 := ⟨h.1, h.2.1, h.2.2.1.kept hq, h.2.2.2.kept hq⟩
theorem zXw.narrow {sa : Nat} {A B : Nat → Prop} {U : State} {H : Heap} (h : zXw sa A U H) (hAB : ∀ q, B q → A q) : zXw sa B U H := ⟨h.1, h.2.1, h.2.2.1.narrow hAB, h.2.2.2.narrow hAB⟩
def zPreX (D : va_G) (T : Nat → ClassId) (sa : Nat) (av : List Value) (w : va_W) : Array Value → State → Prop := va_Pc av (fun U => va_P D vwCl w U.heap ∧ zK D T U ∧ va_D (fun _ => True) w ∧ zXw sa (fun _ => False) U U.heap)
theorem zPreX.blind {D : va_G} {T : Nat → ClassId} {sa : Nat} {av : List Value} {w : va_W} : FrameBlind (zPreX D T sa av w) := fun a U g mk q => ⟨q.1, q.2.1, q.2.2.1.calling g mk a, q.2.2.2.1, zXw.calling q.2.2.2.2 g mk a⟩
def zQX (ex : Option Int32) : Array Value → State → Outcome → State → Prop := va_Qi (fun r (_ : Unit) => ex = some r) (fun _ _ => True) (fun _ => False)
def zXX (ex : Option Int32) : String → State → State → Prop := vx_X (fun (_ : Unit) => ex = none) (fun E _ _ => E = "java/util/NoSuchElementException") (fun _ => False)
def rmX : Room := { frames := 6, cells := 1, slots := 6, locals := 82 }
theorem in_X6_at_X1 : ∀ w ∈ u_ws RX1 TX1 10, w ∈ wsX6_at2 := fun _ h => (List.mem_cons_of_mem _ (List.mem_append_right _ h))
set_option maxRecDepth 20000 in
theorem ggX6_at2_X6_hasPlace : GoodIn wsX6_at2 wsX6_hasPlace := goodIn_r _ [11, 3, 12, 16, 17, 18, 19, 20, 21, 22, 23, 24, 25, 26, 27, 28, 29, 30, 31, 32, 33, 34] (by decide +kernel) (by decide +kernel)
theorem gX6_at2_X6_hasPlace : GoodIn wsX6_at2 (wsV RX6 117 RX6 yX6_hasPlace wsX6_hasPlace) := goodIn_app (goodIn_of _ (by decide +kernel)) ggX6_at2_X6_hasPlace
theorem ggX6_at2_X6_isWithin : GoodIn wsX6_at2 wsX6_isWithin := goodIn_r _ [15] (by decide +kernel) (by decide +kernel)
theorem gX6_at2_X6_isWithin : GoodIn wsX6_at2 (va_wsS RX6 74 yX6_isWithin wsX6_isWithin) := goodIn_app (goodIn_of _ (by decide +kernel)) ggX6_at2_X6_isWithin
theorem xR0 : decode prog_25_method_4_code 0 = .ok (.aload_n 0, 1) := by decide +kernel
theorem xR1 : decode prog_25_method_4_code 1 = .ok (.aload_n 1, 1) := by decide +kernel
theorem xR2 : decode prog_25_method_4_code 2 = .ok (.invokespecial 13, 3) := by decide +kernel
theorem xR5 : decode prog_25_method_4_code 5 = .ok (.return_, 1) := by decide +kernel
theorem in_X6_at_X6 : ∀ w ∈ u_ws RX6 TX6 9, w ∈ wsX6_at2 := fun _ h => (List.mem_cons_of_mem _ (List.mem_append_left _ (List.mem_append_right _ h)))
theorem dd_X6_at : RX6 ≠ "java/lang/invoke/MethodHandle" ∧ RX6 ≠ "java/lang/invoke/VarHandle" ∧ (parseMethodDescriptor yX6_at.desc).map (fun d => d.parameters.length) = some 2 := by decide +kernel
theorem dd_L_at : RL ≠ "java/lang/invoke/MethodHandle" ∧ RL ≠ "java/lang/invoke/VarHandle" ∧ (parseMethodDescriptor yL_at.desc).map (fun d => d.parameters.length) = some 4 := by decide +kernel
section
variable {p : Program} {l : Launch} {e : Env} {R : Room} {s : State} {m : MethodId} {args : Array Value} {below : List Frame} {meth : Method} {c : Code}
variable {D : va_G} {T : Nat → ClassId} {w : va_W} {lv : List (Nat × Value)} {pc : Nat}
theorem z_iretX {v : Int32} {ex : Option Int32} {cc : ByteArray} {nL fr lc : Nat} {own : String} {Ts : List Cond} (C : zC p R s m args meth c cc nL own Ts D T fr lc 0 0) (hr : meth.sig.returnType = some .int) (hd : decode cc pc = .ok (.ireturn, 1)) (h : some (some v) = some ex) : zt p l e R s m args below meth c nL (fun _ => False) D 0 0 (vx_MQ below (zQX ex) (zXX ex) args s 1 6 (fun _ => False)) w lv pc [.int v] :=
  fun H locs ls hP hS hl => vx_ret (W.widen (k := 1) (n := 6) (Nat.zero_le _) (Nat.zero_le _) (W.iret (v := v) C.1.1 C.1.2.1 hr (fun t ht hW => ⟨⟨v, (), rfl, (Option.some.inj h).symm, trivial⟩, hS.F ht⟩) hS.2.2 hd C.2.2.1))
theorem z_throwX {ex : Option Int32} {sa : Nat} (hl0 : l.stackTraces = false) (C : zC p rmX s m args meth c cX6_at 3 RX6 wsX6_at2 D T 6 82 0 0) (hX : zXw sa (fun _ => False) s s.heap) (ht : ∀ x ∈ c.exceptionTable.toList, False) (h : some none = some ex) : zt p l e rmX s m args below meth c 3 (fun _ => False) D 0 0 (vx_MQ below (zQX ex) (zXX ex) args s 1 6 (fun _ => False)) w lv 17 [] := by
  intro H locs ls hP hS hl
  refine xt_throw (cc := cX6_at) (rx := prog_25_method_4_code) (own := RX6) (cls := "java/util/NoSuchElementException") (Y9 := "java/lang/RuntimeException") (text := "no such place, or nothing such of it") (names := ["java/lang/Exception"]) (ik := 121) (is := 123) (ic := 125) (sa := sa) (A := fun _ => False) C.1.1 C.1.2.1 hl0 xR0 xR1 xR2 xR5 C.1.2.2.2.1 (by decide +kernel) (by decide +kernel) (by decide +kernel) (C.1.2.2.2.2 _ (List.mem_of_getElem? (i := 1) rfl)) (C.1.2.2.2.2 _ (List.mem_of_getElem? (i := 2) rfl)) hX.1 (fun w hw => va_tabs (xW_tab hw).1 rfl (hX.2.1 w hw)) (fun w hw => List.all_eq_true.mp xWs_ot w hw) hX.2.2.1 hX.2.2.2 hS (hl.1.trans C.1.2.2.1.symm) dX6_at_17 dX6_at_20 dX6_at_21 dX6_at_23 dX6_at_26 (fun x hx => (ht x hx).elim) (Nat.le_of_ble_eq_true rfl) (Nat.le_of_ble_eq_true rfl) (Nat.le_of_ble_eq_true rfl) (Nat.le_of_ble_eq_true rfl) C.2.2.1 (fun t _ hz hk => ?_) hS.2.2 (Nat.le_of_ble_eq_true rfl) (Nat.le_of_ble_eq_true rfl)
  exact ⟨(), (Option.some.inj h).symm, rfl, Nat.le_trans hS.1 hz, fun q h1 h2 => (hk q (Nat.lt_of_lt_of_le h1 hS.1)).trans (hS.2.1 q h1 h2)⟩
theorem z_beginX {sa : Nat} {y : MethodName} {ws ws' : List Cond} {rm : Room} {av : List Value} {Qc : Array Value → State → Outcome → State → Prop} {XC : String → State → State → Prop} {mc ms : Nat} {ret : Option FieldType} {cc : ByteArray} {nL fr lc : Nat} {own : String} (hy : plainName y.cls = true) (hw0 : ws = Cond.code y cc nL ret :: ws') (hav : (lg_sl av).length ≤ nL) (lv0 : List (Nat × Value)) (hlv : lv_args 0 av = lv0) (hrm : rm.frames = fr ∧ rm.locals = lc) (hown : y.cls = own)
    (body : ∀ (p : Program) (e : Env) (s : State) (m : MethodId) (args : Array Value) (below : List Frame) (meth : Method) (c : Code), zC p rm s m args meth c cc nL own ws D T fr lc 0 0 → zXw sa (fun _ => False) s s.heap → (∀ x ∈ c.exceptionTable.toList, False) → meth.sig.returnType = ret → va_D (fun _ => True) w → zt p l e rm s m args below meth c nL (fun _ => False) D 0 0 (vx_MQ below Qc XC args s mc ms (fun _ => False)) w lv0 0 []) : vx_Met l y ws rm (zPreX D T sa av w) Qc XC mc ms (fun _ => False) := by
  refine vx_ofW (cc := cc) (maxL := nL) (ret := ret) hy hw0 ?_
  intro p e s m args below meth c s₁ B hml ht hv
  obtain ⟨rfl, hP, hK, hD, hX⟩ := hv
  have hts := atoms_spec (ws := ws) B.pre
  have hfc : s.vm.findClass own = some m.cls := hown ▸ findClass_of_methodNamed B.named
  have hl := lv_entry av (n := nL) hav
  rw [hlv] at hl
  rw [lg_entry_eq]
  exact body p e s m av.toArray below meth c ⟨⟨B.exec, B.bytes, hml, hfc, hts⟩, hK, B.notSynchronized, ⟨Nat.le_of_eq hrm.1.symm, Nat.le_of_eq hrm.2.symm⟩, Nat.zero_le _, Nat.zero_le _⟩ hX ht B.returns hD s.heap [] _ hP va_S.rf hl
end
def f_X6_at (S1 S2 S3 S4 S5 S6 S7 S8 S9 : Nat → Nat → Int32) (v1 v2 : Int32) : Option (Option Int32) := (f_X6_hasPlace S1 S2 S3 S4 S5 S6 S7 S8 S9 v1).bind fun r_1 => if r_1 = 0 then (some none) else ((f_X6_isWithin v2 0 2).bind fun r_2 => if r_2 = 0 then (some none) else (if v2 = 0 then (zix v1 7 fun j => some (some (S2 6 j))) else (if v2 = 1 then (zix v1 7 fun j => some (some (S2 7 j))) else (zix v1 7 fun j => some (some (S2 8 j))))))
set_option maxHeartbeats 4000000 in
set_option maxRecDepth 100000 in
theorem c_X6_at (l : Launch) (hl0 : l.stackTraces = false) (D : va_G) (T : Nat → ClassId) (sa : Nat) (a0 a1 a2 a3 a4 a5 a6 a7 a8 a9 : Nat → Nat) (S1 S2 S3 S4 S5 S6 S7 S8 S9 : Nat → Nat → Int32) (v1 v2 : Int32) (ex : Option Int32) (h : f_X6_at S1 S2 S3 S4 S5 S6 S7 S8 S9 v1 v2 = some ex) : vx_Met l yX6_at wsX6_at2 rmX (zPreX D T sa [.ref (a0 99), .int v1, .int v2] (wX6 a0 a1 a2 a3 a4 a5 a6 a7 a8 a9 ++ (wX4 T a1 S1 ++ (wX1 T a2 S2 ++ (wX1 T a3 S3 ++ (wX0 T a4 S4 ++ (wX5 T a5 S5 ++ (wX5 T a6 S6 ++ (wX5 T a7 S7 ++ (wX5 T a8 S8 ++ wX3 T a9 S9)))))))))) (zQX ex) (zXX ex) 1 6 (fun _ => False) := by
  refine z_beginX (cc := cX6_at) (nL := 3) (own := RX6) (fr := 6) (lc := 82) (ret := some .int) (by decide) rfl (Nat.le_of_ble_eq_true rfl) [(0, .ref (a0 99)), (1, .int v1), (2, .int v2)] rfl ⟨rfl, rfl⟩ rfl ?_
  intro p e s m args below meth c C hX ht hr hD
  unfold f_X6_at at h
  refine z_aload_n C dX6_at_0 rfl 0 rfl 1 rfl ?_
  refine z_iload_n C dX6_at_1 rfl 1 rfl 2 rfl ?_
  refine z_callR C (wX6 a0 a1 a2 a3 a4 a5 a6 a7 a8 a9 ++ (wX4 T a1 S1 ++ (wX1 T a2 S2 ++ (wX1 T a3 S3 ++ (wX0 T a4 S4 ++ (wX5 T a5 S5 ++ (wX5 T a6 S6 ++ (wX5 T a7 S7 ++ (wX5 T a8 S8 ++ wX3 T a9 S9))))))))) (fun v h => c_X6_hasPlace l D T a0 a1 a2 a3 a4 a5 a6 a7 a8 a9 S1 S2 S3 S4 S5 S6 S7 S8 S9 v1 v h) ⟨rfl, rfl⟩ (z_cwV C 1 gX6_at2_X6_hasPlace rfl rfl dd_X6_hasPlace ⟨(Nat.le_of_ble_eq_true rfl), (Nat.le_of_ble_eq_true rfl)⟩) (hD.zaddr rfl) [0, 1, 2, 3, 4, 5, 6, 7, 8, 9, 10, 11, 12, 13, 14, 15, 16, 17, 18, 19, 20, 21, 22, 23, 24, 25, 26, 27, 28, 29, 30, 31, 32, 33] rfl rfl (fun _ => ⟨a0 99, [.int v1], 5, 0, _, _, rfl, rfl, rfl, rfl, rfl⟩) (fun h => absurd rfl h) rfl (Nat.le_of_ble_eq_true rfl) dX6_at_2 5 rfl h (fun r_1 h => ?_)
  refine z_if_eq C 17 dX6_at_5 (by decide) 8 rfl h (fun h => ?_) (fun h => ?_)
  · exact z_throwX hl0 C hX ht h
  refine z_iload_n C dX6_at_8 rfl 2 rfl 9 rfl ?_
  refine z_iconst C 0 dX6_at_9 (by decide) 10 rfl ?_
  refine z_iconst C 2 dX6_at_10 (by decide) 11 rfl ?_
  refine z_callR C ([]) (fun v h => c_X6_isWithin l D T v2 0 2 v h) ⟨rfl, rfl⟩ (z_cwS C 3 gX6_at2_X6_isWithin rfl dd_X6_isWithin ⟨(Nat.le_of_ble_eq_true rfl), (Nat.le_of_ble_eq_true rfl)⟩) (hD.zaddr rfl) [] rfl rfl (fun h => absurd h (by decide)) (fun _ => rfl) rfl (Nat.le_of_ble_eq_true rfl) dX6_at_11 14 rfl h (fun r_2 h => ?_)
  refine z_if_ne C 27 dX6_at_14 (by decide) 17 rfl h (fun h => ?_) (fun h => ?_)
  · refine z_iload_n C dX6_at_27 rfl 2 rfl 28 rfl ?_
    refine z_if_ne C 41 dX6_at_28 (by decide) 31 rfl h (fun h => ?_) (fun h => ?_)
    · refine z_iload_n C dX6_at_41 rfl 2 rfl 42 rfl ?_
      refine z_iconst C 1 dX6_at_42 (by decide) 43 rfl ?_
      refine z_icmp_ne C 58 dX6_at_43 (by decide) 46 rfl h (fun h => ?_) (fun h => ?_)
      · refine z_aload_n C dX6_at_58 rfl 0 rfl 59 rfl ?_
        refine z_get C (in_X6_at_X6) 0 rfl rfl 1 (by decide) (List.mem_of_getElem? (i := 3) rfl) rfl rfl dX6_at_59 62 rfl ?_
        refine z_get C (in_X6_at_X1) 3 rfl rfl 8 (by decide) (List.mem_of_getElem? (i := 6) rfl) rfl rfl dX6_at_62 65 rfl ?_
        refine z_iload_n C dX6_at_65 rfl 1 rfl 66 rfl ?_
        refine z_iald C 6 rfl rfl dX6_at_66 67 rfl h (fun h => ?_)
        exact z_iretX C hr dX6_at_67 h
      · refine z_aload_n C dX6_at_46 rfl 0 rfl 47 rfl ?_
        refine z_get C (in_X6_at_X6) 0 rfl rfl 1 (by decide) (List.mem_of_getElem? (i := 3) rfl) rfl rfl dX6_at_47 50 rfl ?_
        refine z_get C (in_X6_at_X1) 3 rfl rfl 7 (by decide) (List.mem_of_getElem? (i := 5) rfl) rfl rfl dX6_at_50 53 rfl ?_
        refine z_iload_n C dX6_at_53 rfl 1 rfl 54 rfl ?_
        refine z_iald C 5 rfl rfl dX6_at_54 55 rfl h (fun h => ?_)
        refine z_goto C 67 dX6_at_55 (by decide) ?_
        exact z_iretX C hr dX6_at_67 h
    · refine z_aload_n C dX6_at_31 rfl 0 rfl 32 rfl ?_
      refine z_get C (in_X6_at_X6) 0 rfl rfl 1 (by decide) (List.mem_of_getElem? (i := 3) rfl) rfl rfl dX6_at_32 35 rfl ?_
      refine z_get C (in_X6_at_X1) 3 rfl rfl 6 (by decide) (List.mem_of_getElem? (i := 4) rfl) rfl rfl dX6_at_35 38 rfl ?_
      refine z_iload_n C dX6_at_38 rfl 1 rfl 39 rfl ?_
      refine z_iald C 4 rfl rfl dX6_at_39 40 rfl h (fun h => ?_)
      exact z_iretX C hr dX6_at_40 h
  · exact z_throwX hl0 C hX ht h
end ATX
