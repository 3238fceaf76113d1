/-! the law's at -/
section ATL
def wsL_at2 : List Cond := .codeWith yL_at cL_at 5 (some .int) [(0, 10, 13, 13)] :: ([.classLink RL 13 "java/util/NoSuchElementException", .methodLink RL 7 yX6_at, .instanceMethod yX6_at, .selects RX6 yX6_at yX6_at, .initialized RX6, .code yX6_at cX6_at 3 (some .int), .classLink RX6 121 "java/util/NoSuchElementException", .initialized "java/util/NoSuchElementException", .fieldLink RX6 19 "StreamTree" "now" "LStreamTree$Chart;", .fieldLink RX6 128 "StreamTree$Chart" "placeRing" "[I", .fieldLink RX6 131 "StreamTree$Chart" "placeTurn" "[I", .fieldLink RX6 104 "StreamTree$Chart" "placeAmount" "[I", .methodLink RX6 117 yX6_hasPlace, .instanceMethod yX6_hasPlace, .selects RX6 yX6_hasPlace yX6_hasPlace, .code yX6_hasPlace cX6_hasPlace 2 (some .boolean), .fieldLink RX6 71 "StreamTree$Chart" "places" "I", .methodLink RX6 74 yX6_isWithin, .static yX6_isWithin, .code yX6_isWithin cX6_isWithin 3 (some .boolean)] ++ wsX60 ++ wsX10)
def wJ (cJ : ClassId) (q : Nat) (f : Nat → Int64) : va_W := [(q, .inl (cJ, 1, .inr (.inl f)))]
def zPreY (D : va_G) (T : Nat → ClassId) (sa : Nat) (cJ : ClassId) (av : List Value) (w : va_W) : Array Value → State → Prop := va_Pc av (fun U => va_P D vwCl w U.heap ∧ zK D T U ∧ va_D (fun _ => True) w ∧ zXw sa (zA w) U U.heap ∧ va_K D vwCl [(cJ, .long)] U)
theorem zPreY.blind {D : va_G} {T : Nat → ClassId} {sa : Nat} {cJ : ClassId} {av : List Value} {w : va_W} : FrameBlind (zPreY D T sa cJ av w) := fun a U g mk q => ⟨q.1, q.2.1, q.2.2.1.calling g mk a, q.2.2.2.1, zXw.calling q.2.2.2.2.1 g mk a, va_K.moved (u := U) (U := U.calling g mk a) (Vm.Alike.refl U.vm) q.2.2.2.2.2⟩
def zQY (D : va_G) (ex : Option Int32) (wf : (Nat → Int64) → va_W) (w : va_W) : Array Value → State → Outcome → State → Prop := va_Qi (fun r (f' : Nat → Int64) => (∃ v, ex = some v ∧ r = 0 ∧ f' 0 = v.toInt64) ∨ (ex = none ∧ r = 1)) (fun f' t => va_P D vwCl (wf f') t.heap) (zA w)
def zXY : String → State → State → Prop := vx_X (fun (_ : Unit) => False) (fun _ _ _ => True) (fun _ => False)
def rmY : Room := { frames := 7, cells := 1, slots := 6, locals := 104 }
set_option maxRecDepth 20000 in
theorem ggL_at_X6_at : GoodIn wsL_at2 wsX6_at2 := goodIn_r _ [6, 7, 8, 9, 10, 11, 12, 13, 14, 15, 5, 16, 17, 18, 19, 20, 21, 22, 23, 24, 25, 26, 27, 28, 29, 30, 31, 32, 33, 34, 35, 36, 37, 38, 39] (by decide +kernel) (by decide +kernel)
set_option maxRecDepth 20000 in
theorem gL_at_X6_at : GoodIn wsL_at2 (wsV RL 7 RX6 yX6_at wsX6_at2) := goodIn_app (goodIn_of _ (by decide +kernel)) ggL_at_X6_at
theorem dL_at_0 : decode cL_at 0 = .ok (.aload_n 3, 1) := by decide +kernel
theorem dL_at_1 : decode cL_at 1 = .ok (.iconst 0, 1) := by decide +kernel
theorem dL_at_2 : decode cL_at 2 = .ok (.aload_n 0, 1) := by decide +kernel
theorem dL_at_3 : decode cL_at 3 = .ok (.iload_n 1, 1) := by decide +kernel
theorem dL_at_4 : decode cL_at 4 = .ok (.iload_n 2, 1) := by decide +kernel
theorem dL_at_5 : decode cL_at 5 = .ok (.invokevirtual 7, 3) := by decide +kernel
theorem dL_at_8 : decode cL_at 8 = .ok (.i2l, 1) := by decide +kernel
theorem dL_at_9 : decode cL_at 9 = .ok (.lastore, 1) := by decide +kernel
theorem dL_at_10 : decode cL_at 10 = .ok (.goto 7, 3) := by decide +kernel
theorem dL_at_13 : decode cL_at 13 = .ok (.astore 4, 2) := by decide +kernel
theorem dL_at_15 : decode cL_at 15 = .ok (.iconst 1, 1) := by decide +kernel
theorem dL_at_16 : decode cL_at 16 = .ok (.ireturn, 1) := by decide +kernel
theorem dL_at_17 : decode cL_at 17 = .ok (.iconst 0, 1) := by decide +kernel
theorem dL_at_18 : decode cL_at 18 = .ok (.ireturn, 1) := by decide +kernel
set_option maxHeartbeats 4000000 in
set_option maxRecDepth 100000 in
theorem c_L_at (l : Launch) (hl0 : l.stackTraces = false) (D : va_G) (T : Nat → ClassId) (sa : Nat) (cJ : ClassId) (q : Nat) (f : Nat → Int64) (a0 a1 a2 a3 a4 a5 a6 a7 a8 a9 : Nat → Nat) (S1 S2 S3 S4 S5 S6 S7 S8 S9 : Nat → Nat → Int32) (v1 v2 : Int32) (ex : Option Int32) (h : f_X6_at S1 S2 S3 S4 S5 S6 S7 S8 S9 v1 v2 = some ex) : vx_Met l yL_at wsL_at2 rmY (zPreY D T sa cJ [.ref (a0 99), .int v1, .int v2, .ref q] (wX6 a0 a1 a2 a3 a4 a5 a6 a7 a8 a9 ++ (wX4 T a1 S1 ++ (wX1 T a2 S2 ++ (wX1 T a3 S3 ++ (wX0 T a4 S4 ++ (wX5 T a5 S5 ++ (wX5 T a6 S6 ++ (wX5 T a7 S7 ++ (wX5 T a8 S8 ++ (wX3 T a9 S9 ++ wJ cJ q f))))))))))) (zQY D ex (fun f' => wX6 a0 a1 a2 a3 a4 a5 a6 a7 a8 a9 ++ (wX4 T a1 S1 ++ (wX1 T a2 S2 ++ (wX1 T a3 S3 ++ (wX0 T a4 S4 ++ (wX5 T a5 S5 ++ (wX5 T a6 S6 ++ (wX5 T a7 S7 ++ (wX5 T a8 S8 ++ (wX3 T a9 S9 ++ wJ cJ q f')))))))))) (wX6 a0 a1 a2 a3 a4 a5 a6 a7 a8 a9 ++ (wX4 T a1 S1 ++ (wX1 T a2 S2 ++ (wX1 T a3 S3 ++ (wX0 T a4 S4 ++ (wX5 T a5 S5 ++ (wX5 T a6 S6 ++ (wX5 T a7 S7 ++ (wX5 T a8 S8 ++ (wX3 T a9 S9 ++ wJ cJ q f))))))))))) zXY 1 6 (zA (wX6 a0 a1 a2 a3 a4 a5 a6 a7 a8 a9 ++ (wX4 T a1 S1 ++ (wX1 T a2 S2 ++ (wX1 T a3 S3 ++ (wX0 T a4 S4 ++ (wX5 T a5 S5 ++ (wX5 T a6 S6 ++ (wX5 T a7 S7 ++ (wX5 T a8 S8 ++ (wX3 T a9 S9 ++ wJ cJ q f))))))))))) := by
  refine vx_ofWH (cc := cL_at) (maxL := 5) (ret := some .int) (hh := [(0, 10, 13, 13)]) (by decide) rfl ?_
  intro p e s m args below meth c s₁ B hml hv
  obtain ⟨rfl, hP, hK, hD, hX, hKJ⟩ := hv
  have hts := atoms_spec (ws := wsL_at2) B.pre
  have hfc : s.vm.findClass RL = some m.cls := findClass_of_methodNamed B.named
  have htb : c.exceptionTable.toList = [⟨0, 10, 13, 13⟩] := vx_table (x := yL_at) B (hts _ List.mem_cons_self)
  have hl := lv_entry [Value.ref (a0 99), Value.int v1, Value.int v2, Value.ref q] (n := 5) (Nat.le_of_ble_eq_true rfl)
  rw [lg_entry_eq]
  have C : zC p rmY s m [Value.ref (a0 99), Value.int v1, Value.int v2, Value.ref q].toArray meth c cL_at 5 RL wsL_at2 D T 7 104 0 0 := ⟨⟨B.exec, B.bytes, hml, hfc, hts⟩, hK, B.notSynchronized, ⟨Nat.le_refl _, Nat.le_refl _⟩, Nat.zero_le _, Nat.zero_le _⟩
  have hr := B.returns
  have hD9 := hD.zself
  have hlk := B.notSynchronized
  generalize (lg_sl [Value.ref (a0 99), Value.int v1, Value.int v2, Value.ref q] ++ List.replicate (5 - (lg_sl [Value.ref (a0 99), Value.int v1, Value.int v2, Value.ref q]).length) Slot.unset).toArray = ls at hl ⊢
  have hl : lv_has ls 5 [(0, .ref (a0 99)), (1, .int v1), (2, .int v2), (3, .ref q)] := hl
  have hS : va_S (zA (wX6 a0 a1 a2 a3 a4 a5 a6 a7 a8 a9 ++ (wX4 T a1 S1 ++ (wX1 T a2 S2 ++ (wX1 T a3 S3 ++ (wX0 T a4 S4 ++ (wX5 T a5 S5 ++ (wX5 T a6 S6 ++ (wX5 T a7 S7 ++ (wX5 T a8 S8 ++ (wX3 T a9 S9 ++ wJ cJ q f))))))))))) s.heap s.heap [] := va_S.rf
  have hx := B.exec
  have hb : c.code = cL_at := B.bytes
  refine lv_aload_n hx hb dL_at_0 rfl (lv_at hl 3 rfl) ?_
  refine lv_iconst (v := 0) hx hb dL_at_1 (by decide) ?_
  refine lv_aload_n hx hb dL_at_2 rfl (lv_at hl 0 rfl) ?_
  refine lv_iload_n hx hb dL_at_3 rfl (lv_at hl 1 rfl) ?_
  refine lv_iload_n hx hb dL_at_4 rfl (lv_at hl 2 rfl) ?_
  have hPc : va_P D vwCl (wX6 a0 a1 a2 a3 a4 a5 a6 a7 a8 a9 ++ (wX4 T a1 S1 ++ (wX1 T a2 S2 ++ (wX1 T a3 S3 ++ (wX0 T a4 S4 ++ (wX5 T a5 S5 ++ (wX5 T a6 S6 ++ (wX5 T a7 S7 ++ (wX5 T a8 S8 ++ wX3 T a9 S9))))))))) s.heap := z_pickP (isC := [0, 1, 2, 3, 4, 5, 6, 7, 8, 9, 10, 11, 12, 13, 14, 15, 16, 17, 18, 19, 20, 21, 22, 23, 24, 25, 26, 27, 28, 29, 30, 31, 32, 33]) hP rfl
  have hDc : va_D (fun _ => True) (wX6 a0 a1 a2 a3 a4 a5 a6 a7 a8 a9 ++ (wX4 T a1 S1 ++ (wX1 T a2 S2 ++ (wX1 T a3 S3 ++ (wX0 T a4 S4 ++ (wX5 T a5 S5 ++ (wX5 T a6 S6 ++ (wX5 T a7 S7 ++ (wX5 T a8 S8 ++ wX3 T a9 S9))))))))) := (hD.sub [0, 1, 2, 3, 4, 5, 6, 7, 8, 9, 10, 11, 12, 13, 14, 15, 16, 17, 18, 19, 20, 21, 22, 23, 24, 25, 26, 27, 28, 29, 30, 31, 32, 33] rfl rfl)
  refine vx_calli (A1 := fun _ => False) (vx_runV (C := RX6) (b := a0 99) (As := [.int v1, .int v2]) (rest := [.int 0, .ref q]) C.1 (c_X6_at l hl0 D T sa a0 a1 a2 a3 a4 a5 a6 a7 a8 a9 S1 S2 S3 S4 S5 S6 S7 S8 S9 v1 v2 ex h) (cwV 2 hts gL_at_X6_at rfl rfl rfl ⟨rfl, dd_X6_at⟩ ⟨Nat.le_of_ble_eq_true rfl, Nat.le_of_ble_eq_true rfl⟩) ⟨zPreX.blind, va_recv (q0 := 0) (ci := 5) hK.1 hPc rfl rfl, fun U hU hW => ⟨rfl, by rw [hU]; exact hPc, hK.warm hW, hDc, by rw [hU]; exact (hX.narrow (fun _ h => h.elim)).warm hW⟩⟩ rfl rfl hl.1 rfl (lv_room (Nat.le_of_ble_eq_true rfl)) dL_at_5 ⟨Nat.le_of_ble_eq_true rfl, Nat.le_of_ble_eq_true rfl⟩) hS (fun q _ h => h.elim) (fun q h => h.elim) (fun q _ h => h.elim) (fun E ce q9 u t H1 locs1 ht hvm hpx hBx hz1 hk1 hS1 hce hcv hcl => ?_) (fun r u t H1 locs1 ht hvm hpo hB hz1 hk1 hS1 => ?_)
  · subst hBx
    refine vx_catch (own := RL) (name := "java/util/NoSuchElementException") hfc [] ⟨0, 10, 13, 13⟩ [] htb (fun z hz => absurd hz List.not_mem_nil) (by decide) (by decide) (hts _ (List.mem_of_getElem? (i := 1) rfl)) (va_tabs (xW_tab xWs_cast).1 rfl (hX.2.1 _ xWs_cast)) hce hcv hcl ?_
    have hP1 := hP.zkept (fun q hq => hk1 q hq (fun f => f.elim))
    refine lv_astore (lv' := [(4, .ref q9), (0, .ref (a0 99)), (1, .int v1), (2, .int v2), (3, .ref q)]) hx hb dL_at_13 hl (by decide) rfl (fun ls hl => ?_)
    refine lv_iconst (v := 1) hx hb dL_at_15 (by decide) ?_
    exact vx_ret (W.iret (v := 1) hx hb hr (fun t ht hW => ⟨⟨1, f, rfl, Or.inr ⟨hpx, rfl⟩, by subst ht; exact hP1⟩, hS1.F ht⟩) hS1.2.2 dL_at_16 hlk)
  · have hP1 := hP.zkept (fun q hq => hk1 q hq (fun f => f.elim))
    refine lv_i2l hx hb dL_at_8 rfl ?_
    refine va_last (D := D) hx hb hKJ hP1 hD9 hS1 34 0 rfl rfl (vp_in_nI (n := 0) (by decide) (by decide)) dL_at_9 (fun H2 locs2 hP2 _ hS2 => ?_)
    refine lv_goto (tgt := 17) hx hb dL_at_10 (by decide) ?_
    refine lv_iconst (v := 0) hx hb dL_at_17 (by decide) ?_
    exact vx_ret (W.iret (v := 0) hx hb hr (fun t ht hW => ⟨⟨0, vp_updL f 0 r.toInt64, rfl, Or.inl ⟨r, hpo, rfl, rfl⟩, by subst ht; exact hP2⟩, hS2.F ht⟩) hS2.2.2 dL_at_18 hlk)
end ATL
