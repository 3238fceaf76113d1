/-! StreamTree$Tape.isWord (Ljava/lang/String;)Z -/
section
variable {p : Program} {l : Launch} {e : Env} {R : Room} {s : State} {m : MethodId} {args : Array Value} {below : List Frame} {meth : Method} {c : Code} {Q : State → Prop} {A : Nat → Prop} {D : va_G} {T : Nat → ClassId} {a0 : Nat → Nat} {adK adV : Nat → Nat} {wi : Nat}
theorem in_X4_isWord_X4 : ∀ w ∈ u_ws RX4 TX4 8, w ∈ wsX4_isWord := fun _ h => (List.mem_cons_of_mem _ (List.mem_append_right _ h))
def f_X4_isWord_L28b (wi : Nat) (S0 : Nat → Nat → Int32)  (rec : Int32 → Option (Nat)) (a : Int32) : Option (Nat) := if (nI (zlen.getD wi 0)) ≤ a then (some 1) else (zix ((S0 5 0) + a) 500 fun _ => zix a (zlen.getD wi 0) fun _ => if (S0 1 (Int32.toNatClampNeg ((S0 5 0) + a))) = (zchr wi a) then (rec (a + 1)) else (some 0))
def f_X4_isWord_L28 (wi : Nat) (S0 : Nat → Nat → Int32)  : Nat → Int32 → Option (Nat) := zloop (fun rec a => f_X4_isWord_L28b wi S0 rec a)
set_option maxHeartbeats 4000000 in
set_option maxRecDepth 100000 in
theorem p_X4_isWord_L28 (C : zC p R s m args meth c cX4_isWord 3 RX4 wsX4_isWord D T 4 85 0 0) (E : zE adK adV A s s.heap ∧ zR adK s) (hwi : wi < 6) (S0 : Nat → Nat → Int32)  (hD : va_D (fun _ => True) (wX4 T a0 S0)) : ∀ (n : Nat) (c0 : Int32) (b : Nat), f_X4_isWord_L28 wi S0 n c0 = some b → ((b = 0 → zt p l e R s m args below meth c 3 A D 0 0 Q (wX4 T a0 S0) [] 55 []) ∧ (b = 1 → zt p l e R s m args below meth c 3 A D 0 0 Q (wX4 T a0 S0) [] 63 [])) → zt p l e R s m args below meth c 3 A D 0 0 Q (wX4 T a0 S0) [(0, .ref (a0 99)), (1, .ref (adK wi)), (2, .int c0)] 28 [] := by
  intro n c0 b h K
  refine zloop_ind (P := fun a b => ((b = 0 → zt p l e R s m args below meth c 3 A D 0 0 Q (wX4 T a0 S0) [] 55 []) ∧ (b = 1 → zt p l e R s m args below meth c 3 A D 0 0 Q (wX4 T a0 S0) [] 63 [])) → zt p l e R s m args below meth c 3 A D 0 0 Q (wX4 T a0 S0) [(0, .ref (a0 99)), (1, .ref (adK wi)), (2, .int a)] 28 []) ?_ n c0 b h K
  clear h K b c0
  intro rec hrec a b h K
  have hrec : ∀ (c0 : Int32) (b : Nat), rec c0 = some b → ((b = 0 → zt p l e R s m args below meth c 3 A D 0 0 Q (wX4 T a0 S0) [] 55 []) ∧ (b = 1 → zt p l e R s m args below meth c 3 A D 0 0 Q (wX4 T a0 S0) [] 63 [])) → zt p l e R s m args below meth c 3 A D 0 0 Q (wX4 T a0 S0) [(0, .ref (a0 99)), (1, .ref (adK wi)), (2, .int c0)] 28 [] := fun c0 b h K => hrec c0 b h K
  unfold f_X4_isWord_L28b at h
  refine z_iload_n C dX4_isWord_28 rfl 2 rfl 29 rfl ?_
  refine z_aload_n C dX4_isWord_29 rfl 1 rfl 30 rfl ?_
  refine z_callS (kd := 0) (av := [.ref (adK wi)]) C (c_J0_length l D T adK adV hwi) ⟨rfl, rfl⟩ (z_cwV C 0 gX4_isWord_J0_length_8abf5 rfl rfl dd_J0_length ⟨(Nat.le_of_ble_eq_true rfl), (Nat.le_of_ble_eq_true rfl)⟩) E.1 (fun _ => ⟨wi, [], rfl, rfl, hwi, rfl⟩) (fun h => absurd rfl h) rfl (Nat.le_of_ble_eq_true rfl) dX4_isWord_30 33 rfl ?_
  refine z_icmp_ge C 63 dX4_isWord_33 (by decide) 36 rfl h (fun h => ?_) (fun h => ?_)
  · refine z_locals (ks := []) (lv' := []) rfl ?_
    exact zexT0 (F := (zt p l e R s m args below meth c 3 A D 0 0 Q (wX4 T a0 S0) [] 63 [])) h K.2
  · refine z_aload_n C dX4_isWord_36 rfl 0 rfl 37 rfl ?_
    refine z_get C (in_X4_isWord_X4) 0 rfl rfl 1 (by decide) (List.mem_of_getElem? (i := 4) rfl) rfl rfl dX4_isWord_37 40 rfl ?_
    refine z_aload_n C dX4_isWord_40 rfl 0 rfl 41 rfl ?_
    refine z_get C (in_X4_isWord_X4) 0 rfl rfl 5 (by decide) (List.mem_of_getElem? (i := 3) rfl) rfl rfl dX4_isWord_41 44 rfl ?_
    refine z_iload_n C dX4_isWord_44 rfl 2 rfl 45 rfl ?_
    refine z_iadd C dX4_isWord_45 46 rfl ?_
    refine z_iald C 1 rfl rfl dX4_isWord_46 47 rfl h (fun h => ?_)
    refine z_aload_n C dX4_isWord_47 rfl 1 rfl 48 rfl ?_
    refine z_iload_n C dX4_isWord_48 rfl 2 rfl 49 rfl ?_
    refine z_charAt C E hwi (z_cwV (rm := ({ frames := 3, cells := 0, slots := 0, locals := 64 } : Room)) C 1 gX4_isWord_J0_charAt_5068e rfl rfl dd_J0_charAt ⟨(Nat.le_of_ble_eq_true rfl), (Nat.le_of_ble_eq_true rfl)⟩) (Nat.le_of_ble_eq_true rfl) dX4_isWord_49 52 rfl h (fun h => ?_)
    refine z_icmp_eq C 57 dX4_isWord_52 (by decide) 55 rfl h (fun h => ?_) (fun h => ?_)
    · refine z_iinc C (a + 1) [(0, .ref (a0 99)), (1, .ref (adK wi)), (2, .int (a + 1))] dX4_isWord_57 2 rfl rfl (Nat.le_of_ble_eq_true rfl) [1, 2, 0] rfl 60 rfl ?_
      refine z_goto C 28 dX4_isWord_60 (by decide) ?_
      exact z_locals (ks := [0, 1, 2]) rfl (hrec _ _ h K)
    · refine z_locals (ks := []) (lv' := []) rfl ?_
      exact zexT0 (F := (zt p l e R s m args below meth c 3 A D 0 0 Q (wX4 T a0 S0) [] 55 [])) h K.1

def f_X4_isWord (wi : Nat) (S0 : Nat → Nat → Int32)  : Option (Int32) := if (S0 4 0) = 1 then (if ((S0 3 0) - (S0 5 0)) = (nI (zlen.getD wi 0)) then ((f_X4_isWord_L28 wi S0 zfuel 0).bind fun y_1 => if y_1 = 0 then (some 0) else (some 1)) else (some 0)) else (some 0)
theorem dd_X4_isWord : RX4 ≠ "java/lang/invoke/MethodHandle" ∧ RX4 ≠ "java/lang/invoke/VarHandle" ∧ (parseMethodDescriptor yX4_isWord.desc).map (fun d => d.parameters.length) = some 1 := by decide +kernel
set_option maxHeartbeats 4000000 in
set_option maxRecDepth 100000 in
theorem c_X4_isWord (l : Launch) (D : va_G) (T : Nat → ClassId) (adK adV : Nat → Nat) (a0 : Nat → Nat) (wi : Nat) (hwi : wi < 6) (S0 : Nat → Nat → Int32)  (ex : Int32) (h : f_X4_isWord wi S0 = some ex) : zRE l yX4_isWord wsX4_isWord ({ frames := 4, cells := 0, slots := 0, locals := 85 } : Room) D T adK adV [.ref (a0 99), .ref (adK wi)] (wX4 T a0 S0) ex := by
  refine z_beginE (A := (fun _ => False)) (cc := cX4_isWord) (nL := 3) (own := RX4) (fr := 4) (lc := 85) (ret := some .boolean) (by decide) rfl (Nat.le_of_ble_eq_true rfl) [(0, .ref (a0 99)), (1, .ref (adK wi))] rfl ⟨rfl, rfl⟩ rfl ?_
  intro p e s m args below meth c C E hr hD
  unfold f_X4_isWord at h
  refine z_aload_n C dX4_isWord_0 rfl 0 rfl 1 rfl ?_
  refine z_get C (in_X4_isWord_X4) 0 rfl rfl 4 (by decide) (List.mem_of_getElem? (i := 1) rfl) rfl rfl dX4_isWord_1 4 rfl ?_
  refine z_iconst C 1 dX4_isWord_4 (by decide) 5 rfl ?_
  refine z_icmp_ne C 24 dX4_isWord_5 (by decide) 8 rfl h (fun h => ?_) (fun h => ?_)
  · refine z_iconst C 0 dX4_isWord_24 (by decide) 25 rfl ?_
    exact z_zretRc C hr dX4_isWord_25 (Or.inl rfl) h
  · refine z_aload_n C dX4_isWord_8 rfl 0 rfl 9 rfl ?_
    refine z_get C (in_X4_isWord_X4) 0 rfl rfl 3 (by decide) (List.mem_of_getElem? (i := 2) rfl) rfl rfl dX4_isWord_9 12 rfl ?_
    refine z_aload_n C dX4_isWord_12 rfl 0 rfl 13 rfl ?_
    refine z_get C (in_X4_isWord_X4) 0 rfl rfl 5 (by decide) (List.mem_of_getElem? (i := 3) rfl) rfl rfl dX4_isWord_13 16 rfl ?_
    refine z_isub C dX4_isWord_16 17 rfl ?_
    refine z_aload_n C dX4_isWord_17 rfl 1 rfl 18 rfl ?_
    refine z_callS (kd := 0) (av := [.ref (adK wi)]) C (c_J0_length l D T adK adV hwi) ⟨rfl, rfl⟩ (z_cwV C 0 gX4_isWord_J0_length_8abf5 rfl rfl dd_J0_length ⟨(Nat.le_of_ble_eq_true rfl), (Nat.le_of_ble_eq_true rfl)⟩) E.1 (fun _ => ⟨wi, [], rfl, rfl, hwi, rfl⟩) (fun h => absurd rfl h) rfl (Nat.le_of_ble_eq_true rfl) dX4_isWord_18 21 rfl ?_
    refine z_icmp_eq C 26 dX4_isWord_21 (by decide) 24 rfl h (fun h => ?_) (fun h => ?_)
    · refine z_iconst C 0 dX4_isWord_26 (by decide) 27 rfl ?_
      refine z_istore_n C [(0, .ref (a0 99)), (1, .ref (adK wi)), (2, .int 0)] dX4_isWord_27 rfl (Nat.le_of_ble_eq_true rfl) [1, 2, 0] rfl 28 rfl ?_
      obtain ⟨y_1, hl_y_1, h⟩ := Option.bind_eq_some_iff.mp h
      refine z_locals (ks := [0, 1, 2]) rfl (p_X4_isWord_L28 C E hwi S0  (hD.zaddr rfl) _ _ _ hl_y_1 ⟨fun ht => ?_, fun ht => ?_⟩)
      · replace h := z_pos ht h
        refine z_iconst C 0 dX4_isWord_55 (by decide) 56 rfl ?_
        exact z_zretRc C hr dX4_isWord_56 (Or.inl rfl) h
      · replace h := z_neg (by rw [ht]; decide) h
        refine z_iconst C 1 dX4_isWord_63 (by decide) 64 rfl ?_
        exact z_zretRc C hr dX4_isWord_64 (Or.inr rfl) h
    · refine z_iconst C 0 dX4_isWord_24 (by decide) 25 rfl ?_
      exact z_zretRc C hr dX4_isWord_25 (Or.inl rfl) h

end
/-! StreamTree$Tape.readHead (LStreamTree$Chart;)V -/
section
variable {p : Program} {l : Launch} {e : Env} {R : Room} {s : State} {m : MethodId} {args : Array Value} {below : List Frame} {meth : Method} {c : Code} {Q : State → Prop} {A : Nat → Prop} {D : va_G} {T : Nat → ClassId} {a0 : Nat → Nat} {a1 : Nat → Nat} {adK adV : Nat → Nat}
theorem in_X4_readHead_X4 : ∀ w ∈ u_ws RX4 TX4 8, w ∈ wsX4_readHead := fun _ h => (List.mem_cons_of_mem _ (List.mem_append_left _ (List.mem_append_right _ h)))
def f_X4_readHead_J18 (S0 : Nat → Nat → Int32) (S1 : Nat → Nat → Int32)   : Option ((Nat → Nat → Int32) × (Nat → Nat → Int32)) := (f_X4_readNumber S0 2 9).bind fun r_3 => (f_X4_readNumber r_3.2 6 24).bind fun r_4 => if (r_4.2 7 0) = 0 then ((f_X1_beginAnew S1 r_3.1 r_4.1).bind fun r_5 => some (r_4.2, r_5)) else (some (r_4.2, S1))
set_option maxHeartbeats 4000000 in
set_option maxRecDepth 100000 in
theorem p_X4_readHead_J18 {w0 : va_W} (C : zC p R s m args meth c cX4_readHead 4 RX4 wsX4_readHead D T 5 107 0 0) (E : zE adK adV (zA w0) s s.heap ∧ zR adK s) (hr : meth.sig.returnType = none) (S0 : Nat → Nat → Int32) (S1 : Nat → Nat → Int32)   (hD : va_D (zA w0) (wX4 T a0 S0 ++ wX1 T a1 S1)) {ex : (Nat → Nat → Int32) × (Nat → Nat → Int32)} (h : f_X4_readHead_J18 S0 S1 = some ex) : zt p l e R s m args below meth c 4 (zA w0) D 0 0 (MQ below (zQV D w0 (wX4 T a0 ex.1 ++ wX1 T a1 ex.2)) args s 0 0 (zA w0)) (wX4 T a0 S0 ++ wX1 T a1 S1) [(0, .ref (a0 99)), (1, .ref (a1 99))] 18 [] := by
  unfold f_X4_readHead_J18 at h
  refine z_aload_n C dX4_readHead_18 rfl 0 rfl 19 rfl ?_
  refine z_iconst C 2 dX4_readHead_19 (by decide) 20 rfl ?_
  refine z_bipush C 9 dX4_readHead_20 (by decide) 22 rfl ?_
  refine z_callW C (wX4 T a0 S0) (wX1 T a1 S1) (fun z => z.1) (fun z => wX4 T a0 z.2) (fun z => wX4 T a0 z.2 ++ wX1 T a1 S1) (fun z h => c_X4_readNumber l D T a0  S0 2 9 z h) ⟨rfl, rfl⟩ (z_cwV C 2 gX4_readHead_X4_readNumber rfl rfl dd_X4_readNumber ⟨(Nat.le_of_ble_eq_true rfl), (Nat.le_of_ble_eq_true rfl)⟩) (hD.zaddr rfl) [0, 1] [2, 3, 4, 5, 6] [5, 6, 0, 1, 2, 3, 4] rfl rfl rfl (by decide) (fun _ => rfl) (fun _ => ⟨a0 99, [.int 2, .int 9], 3, 0, _, _, rfl, rfl, rfl, rfl, rfl⟩) (fun h => absurd rfl h) rfl (Nat.le_of_ble_eq_true rfl) dX4_readHead_22 25 rfl h (fun r_3 h => ?_)
  refine z_istore_n C [(0, .ref (a0 99)), (1, .ref (a1 99)), (2, .int r_3.1)] dX4_readHead_25 rfl (Nat.le_of_ble_eq_true rfl) [1, 2, 0] rfl 26 rfl ?_
  refine z_aload_n C dX4_readHead_26 rfl 0 rfl 27 rfl ?_
  refine z_bipush C 6 dX4_readHead_27 (by decide) 29 rfl ?_
  refine z_bipush C 24 dX4_readHead_29 (by decide) 31 rfl ?_
  refine z_callW C (wX4 T a0 r_3.2) (wX1 T a1 S1) (fun z => z.1) (fun z => wX4 T a0 z.2) (fun z => wX4 T a0 z.2 ++ wX1 T a1 S1) (fun z h => c_X4_readNumber l D T a0  r_3.2 6 24 z h) ⟨rfl, rfl⟩ (z_cwV C 2 gX4_readHead_X4_readNumber rfl rfl dd_X4_readNumber ⟨(Nat.le_of_ble_eq_true rfl), (Nat.le_of_ble_eq_true rfl)⟩) (hD.zaddr rfl) [0, 1] [2, 3, 4, 5, 6] [5, 6, 0, 1, 2, 3, 4] rfl rfl rfl (by decide) (fun _ => rfl) (fun _ => ⟨a0 99, [.int 6, .int 24], 3, 0, _, _, rfl, rfl, rfl, rfl, rfl⟩) (fun h => absurd rfl h) rfl (Nat.le_of_ble_eq_true rfl) dX4_readHead_31 34 rfl h (fun r_4 h => ?_)
  refine z_istore_n C [(0, .ref (a0 99)), (1, .ref (a1 99)), (2, .int r_3.1), (3, .int r_4.1)] dX4_readHead_34 rfl (Nat.le_of_ble_eq_true rfl) [1, 2, 3, 0] rfl 35 rfl ?_
  refine z_aload_n C dX4_readHead_35 rfl 0 rfl 36 rfl ?_
  refine z_get C (in_X4_readHead_X4) 0 rfl rfl 7 (by decide) (List.mem_of_getElem? (i := 1) rfl) rfl rfl dX4_readHead_36 39 rfl ?_
  refine z_if_ne C 48 dX4_readHead_39 (by decide) 42 rfl h (fun h => ?_) (fun h => ?_)
  · exact z_vretW (x := (r_4.2, S1)) (ex := ex) (fun z => wX4 T a0 z.1 ++ wX1 T a1 z.2) C hr dX4_readHead_48 h rfl
  · refine z_aload_n C dX4_readHead_42 rfl 1 rfl 43 rfl ?_
    refine z_iload_n C dX4_readHead_43 rfl 2 rfl 44 rfl ?_
    refine z_iload_n C dX4_readHead_44 rfl 3 rfl 45 rfl ?_
    refine z_callV C (wX1 T a1 S1) (wX4 T a0 r_4.2) (fun z => wX1 T a1 z) (fun z => wX4 T a0 r_4.2 ++ wX1 T a1 z) (fun z h => c_X1_beginAnew l D T a1  S1 r_3.1 r_4.1 z h) ⟨rfl, rfl⟩ (z_cwV C 2 gX4_readHead_X1_beginAnew rfl rfl dd_X1_beginAnew ⟨(Nat.le_of_ble_eq_true rfl), (Nat.le_of_ble_eq_true rfl)⟩) (hD.zaddr rfl) [2, 3, 4, 5, 6] [0, 1] [0, 1, 2, 3, 4, 5, 6] rfl rfl rfl (by decide) (fun _ => rfl) (fun _ => ⟨a1 99, [.int r_3.1, .int r_4.1], 1, 0, _, _, rfl, rfl, rfl, rfl, rfl⟩) (fun h => absurd rfl h) rfl (Nat.le_of_ble_eq_true rfl) dX4_readHead_45 48 rfl h (fun r_5 h => ?_)
    exact z_vretW (x := (r_4.2, r_5)) (ex := ex) (fun z => wX4 T a0 z.1 ++ wX1 T a1 z.2) C hr dX4_readHead_48 h rfl

def f_X4_readHead (S0 : Nat → Nat → Int32) (S1 : Nat → Nat → Int32)  : Option ((Nat → Nat → Int32) × (Nat → Nat → Int32)) := (f_X4_readToken S0).bind fun r_1 => (f_X4_isWord 0 r_1).bind fun r_2 => if r_2 = 0 then ((f_X4_fail r_1 1).bind fun r_6 => f_X4_readHead_J18 r_6 S1) else (f_X4_readHead_J18 r_1 S1)
theorem dd_X4_readHead : RX4 ≠ "java/lang/invoke/MethodHandle" ∧ RX4 ≠ "java/lang/invoke/VarHandle" ∧ (parseMethodDescriptor yX4_readHead.desc).map (fun d => d.parameters.length) = some 1 := by decide +kernel
set_option maxHeartbeats 4000000 in
set_option maxRecDepth 100000 in
theorem c_X4_readHead (l : Launch) (D : va_G) (T : Nat → ClassId) (adK adV : Nat → Nat) (a0 : Nat → Nat) (a1 : Nat → Nat) (S0 : Nat → Nat → Int32) (S1 : Nat → Nat → Int32)  (ex : (Nat → Nat → Int32) × (Nat → Nat → Int32)) (h : f_X4_readHead S0 S1 = some ex) : zWVE l yX4_readHead wsX4_readHead ({ frames := 5, cells := 0, slots := 0, locals := 107 } : Room) D T adK adV [.ref (a0 99), .ref (a1 99)] (wX4 T a0 S0 ++ wX1 T a1 S1) (wX4 T a0 ex.1 ++ wX1 T a1 ex.2) := by
  refine z_beginE (A := (zA (wX4 T a0 S0 ++ wX1 T a1 S1))) (cc := cX4_readHead) (nL := 4) (own := RX4) (fr := 5) (lc := 107) (ret := none) (by decide) rfl (Nat.le_of_ble_eq_true rfl) [(0, .ref (a0 99)), (1, .ref (a1 99))] rfl ⟨rfl, rfl⟩ rfl ?_
  intro p e s m args below meth c C E hr hD
  have hD := hD.zself
  unfold f_X4_readHead at h
  refine z_aload_n C dX4_readHead_0 rfl 0 rfl 1 rfl ?_
  refine z_callV C (wX4 T a0 S0) (wX1 T a1 S1) (fun z => wX4 T a0 z) (fun z => wX4 T a0 z ++ wX1 T a1 S1) (fun z h => c_X4_readToken l D T a0  S0  z h) ⟨rfl, rfl⟩ (z_cwV C 0 gX4_readHead_X4_readToken rfl rfl dd_X4_readToken ⟨(Nat.le_of_ble_eq_true rfl), (Nat.le_of_ble_eq_true rfl)⟩) (hD.zaddr rfl) [0, 1] [2, 3, 4, 5, 6] [5, 6, 0, 1, 2, 3, 4] rfl rfl rfl (by decide) (fun _ => rfl) (fun _ => ⟨a0 99, [], 3, 0, _, _, rfl, rfl, rfl, rfl, rfl⟩) (fun h => absurd rfl h) rfl (Nat.le_of_ble_eq_true rfl) dX4_readHead_1 4 rfl h (fun r_1 h => ?_)
  refine z_aload_n C dX4_readHead_4 rfl 0 rfl 5 rfl ?_
  refine ze_ldc C E 0 (by decide) 51 rfl dX4_readHead_5 7 rfl ?_
  refine z_callRE C E (wX4 T a0 r_1) (fun v h => c_X4_isWord l D T adK adV a0 0 (by decide) r_1  v h) ⟨rfl, rfl⟩ (z_cwV C 1 gX4_readHead_X4_isWord rfl rfl dd_X4_isWord ⟨(Nat.le_of_ble_eq_true rfl), (Nat.le_of_ble_eq_true rfl)⟩) (hD.zaddr rfl) [0, 1] rfl rfl ⟨a0 99, [.ref (adK 0)], 3, 0, _, _, rfl, rfl, rfl, rfl, rfl⟩ rfl (Nat.le_of_ble_eq_true rfl) dX4_readHead_7 10 rfl h (fun r_2 h => ?_)
  refine z_if_ne C 18 dX4_readHead_10 (by decide) 13 rfl h (fun h => ?_) (fun h => ?_)
  · exact z_locals (ks := [0, 1]) rfl (p_X4_readHead_J18 C E hr r_1 S1 (hD.zaddr rfl) h)
  · refine z_aload_n C dX4_readHead_13 rfl 0 rfl 14 rfl ?_
    refine z_iconst C 1 dX4_readHead_14 (by decide) 15 rfl ?_
    refine z_callV C (wX4 T a0 r_1) (wX1 T a1 S1) (fun z => wX4 T a0 z) (fun z => wX4 T a0 z ++ wX1 T a1 S1) (fun z h => c_X4_fail l D T a0  r_1 1 z h) ⟨rfl, rfl⟩ (z_cwV C 1 gX4_readHead_X4_fail rfl rfl dd_X4_fail ⟨(Nat.le_of_ble_eq_true rfl), (Nat.le_of_ble_eq_true rfl)⟩) (hD.zaddr rfl) [0, 1] [2, 3, 4, 5, 6] [5, 6, 0, 1, 2, 3, 4] rfl rfl rfl (by decide) (fun _ => rfl) (fun _ => ⟨a0 99, [.int 1], 3, 0, _, _, rfl, rfl, rfl, rfl, rfl⟩) (fun h => absurd rfl h) rfl (Nat.le_of_ble_eq_true rfl) dX4_readHead_15 18 rfl h (fun r_6 h => ?_)
    exact z_locals (ks := [0, 1]) rfl (p_X4_readHead_J18 C E hr r_6 S1 (hD.zaddr rfl) h)

end
/-! StreamTree$Tape.readLine (LStreamTree$Chart;)V -/
section
variable {p : Program} {l : Launch} {e : Env} {R : Room} {s : State} {m : MethodId} {args : Array Value} {below : List Frame} {meth : Method} {c : Code} {Q : State → Prop} {A : Nat → Prop} {D : va_G} {T : Nat → ClassId} {a0 : Nat → Nat} {a1 : Nat → Nat} {adK adV : Nat → Nat}
theorem in_X4_readLine_X1 : ∀ w ∈ u_ws RX1 TX1 10, w ∈ wsX4_readLine := fun _ h => (List.mem_cons_of_mem _ (List.mem_append_left _ (List.mem_append_right _ h)))
def f_X4_readLine (S0 : Nat → Nat → Int32) (S1 : Nat → Nat → Int32)  : Option ((Nat → Nat → Int32) × (Nat → Nat → Int32)) := (f_X4_readToken S0).bind fun r_1 => (f_X4_isWord 1 r_1).bind fun r_2 => if r_2 = 0 then ((f_X4_isWord 2 r_1).bind fun r_3 => if r_3 = 0 then ((f_X4_isWord 3 r_1).bind fun r_4 => if r_4 = 0 then ((f_X4_isWord 4 r_1).bind fun r_5 => if r_5 = 0 then ((f_X4_isWord 5 r_1).bind fun r_6 => if r_6 = 0 then ((f_X4_fail r_1 1).bind fun r_7 => some (r_7, S1)) else ((f_X4_readNumber r_1 0 6).bind fun r_8 => zlet (zst S1 4 0 r_8.1) fun S1_9 => some (r_8.2, S1_9))) else ((f_X4_readNumber r_1 0 40).bind fun r_10 => zlet (zst S1 3 0 r_10.1) fun S1_11 => some (r_10.2, S1_11))) else ((f_X4_readNumber r_1 1 99).bind fun r_12 => zlet (zst S1 2 0 r_12.1) fun S1_13 => some (r_12.2, S1_13))) else ((f_X4_readRocks r_1 S1).bind fun r_14 => some (r_14.1, r_14.2))) else ((f_X4_readPlace r_1 S1).bind fun r_15 => some (r_15.1, r_15.2))
theorem dd_X4_readLine : RX4 ≠ "java/lang/invoke/MethodHandle" ∧ RX4 ≠ "java/lang/invoke/VarHandle" ∧ (parseMethodDescriptor yX4_readLine.desc).map (fun d => d.parameters.length) = some 1 := by decide +kernel
set_option maxHeartbeats 4000000 in
set_option maxRecDepth 100000 in
theorem c_X4_readLine (l : Launch) (D : va_G) (T : Nat → ClassId) (adK adV : Nat → Nat) (a0 : Nat → Nat) (a1 : Nat → Nat) (S0 : Nat → Nat → Int32) (S1 : Nat → Nat → Int32)  (ex : (Nat → Nat → Int32) × (Nat → Nat → Int32)) (h : f_X4_readLine S0 S1 = some ex) : zWVE l yX4_readLine wsX4_readLine ({ frames := 5, cells := 0, slots := 0, locals := 107 } : Room) D T adK adV [.ref (a0 99), .ref (a1 99)] (wX4 T a0 S0 ++ wX1 T a1 S1) (wX4 T a0 ex.1 ++ wX1 T a1 ex.2) := by
  refine z_beginE (A := (zA (wX4 T a0 S0 ++ wX1 T a1 S1))) (cc := cX4_readLine) (nL := 2) (own := RX4) (fr := 5) (lc := 107) (ret := none) (by decide) rfl (Nat.le_of_ble_eq_true rfl) [(0, .ref (a0 99)), (1, .ref (a1 99))] rfl ⟨rfl, rfl⟩ rfl ?_
  intro p e s m args below meth c C E hr hD
  have hD := hD.zself
  unfold f_X4_readLine at h
  refine z_aload_n C dX4_readLine_0 rfl 0 rfl 1 rfl ?_
  refine z_callV C (wX4 T a0 S0) (wX1 T a1 S1) (fun z => wX4 T a0 z) (fun z => wX4 T a0 z ++ wX1 T a1 S1) (fun z h => c_X4_readToken l D T a0  S0  z h) ⟨rfl, rfl⟩ (z_cwV C 0 gX4_readLine_X4_readToken rfl rfl dd_X4_readToken ⟨(Nat.le_of_ble_eq_true rfl), (Nat.le_of_ble_eq_true rfl)⟩) (hD.zaddr rfl) [0, 1] [2, 3, 4, 5, 6] [5, 6, 0, 1, 2, 3, 4] rfl rfl rfl (by decide) (fun _ => rfl) (fun _ => ⟨a0 99, [], 3, 0, _, _, rfl, rfl, rfl, rfl, rfl⟩) (fun h => absurd rfl h) rfl (Nat.le_of_ble_eq_true rfl) dX4_readLine_1 4 rfl h (fun r_1 h => ?_)
  refine z_aload_n C dX4_readLine_4 rfl 0 rfl 5 rfl ?_
  refine ze_ldc C E 1 (by decide) 66 rfl dX4_readLine_5 7 rfl ?_
  refine z_callRE C E (wX4 T a0 r_1) (fun v h => c_X4_isWord l D T adK adV a0 1 (by decide) r_1  v h) ⟨rfl, rfl⟩ (z_cwV C 1 gX4_readLine_X4_isWord rfl rfl dd_X4_isWord ⟨(Nat.le_of_ble_eq_true rfl), (Nat.le_of_ble_eq_true rfl)⟩) (hD.zaddr rfl) [0, 1] rfl rfl ⟨a0 99, [.ref (adK 1)], 3, 0, _, _, rfl, rfl, rfl, rfl, rfl⟩ rfl (Nat.le_of_ble_eq_true rfl) dX4_readLine_7 10 rfl h (fun r_2 h => ?_)
  refine z_if_eq C 21 dX4_readLine_10 (by decide) 13 rfl h (fun h => ?_) (fun h => ?_)
  · refine z_aload_n C dX4_readLine_21 rfl 0 rfl 22 rfl ?_
    refine ze_ldc C E 2 (by decide) 71 rfl dX4_readLine_22 24 rfl ?_
    refine z_callRE C E (wX4 T a0 r_1) (fun v h => c_X4_isWord l D T adK adV a0 2 (by decide) r_1  v h) ⟨rfl, rfl⟩ (z_cwV C 1 gX4_readLine_X4_isWord rfl rfl dd_X4_isWord ⟨(Nat.le_of_ble_eq_true rfl), (Nat.le_of_ble_eq_true rfl)⟩) (hD.zaddr rfl) [0, 1] rfl rfl ⟨a0 99, [.ref (adK 2)], 3, 0, _, _, rfl, rfl, rfl, rfl, rfl⟩ rfl (Nat.le_of_ble_eq_true rfl) dX4_readLine_24 27 rfl h (fun r_3 h => ?_)
    refine z_if_eq C 38 dX4_readLine_27 (by decide) 30 rfl h (fun h => ?_) (fun h => ?_)
    · refine z_aload_n C dX4_readLine_38 rfl 0 rfl 39 rfl ?_
      refine ze_ldc C E 3 (by decide) 76 rfl dX4_readLine_39 41 rfl ?_
      refine z_callRE C E (wX4 T a0 r_1) (fun v h => c_X4_isWord l D T adK adV a0 3 (by decide) r_1  v h) ⟨rfl, rfl⟩ (z_cwV C 1 gX4_readLine_X4_isWord rfl rfl dd_X4_isWord ⟨(Nat.le_of_ble_eq_true rfl), (Nat.le_of_ble_eq_true rfl)⟩) (hD.zaddr rfl) [0, 1] rfl rfl ⟨a0 99, [.ref (adK 3)], 3, 0, _, _, rfl, rfl, rfl, rfl, rfl⟩ rfl (Nat.le_of_ble_eq_true rfl) dX4_readLine_41 44 rfl h (fun r_4 h => ?_)
      refine z_if_eq C 61 dX4_readLine_44 (by decide) 47 rfl h (fun h => ?_) (fun h => ?_)
      · refine z_aload_n C dX4_readLine_61 rfl 0 rfl 62 rfl ?_
        refine ze_ldc C E 4 (by decide) 80 rfl dX4_readLine_62 64 rfl ?_
        refine z_callRE C E (wX4 T a0 r_1) (fun v h => c_X4_isWord l D T adK adV a0 4 (by decide) r_1  v h) ⟨rfl, rfl⟩ (z_cwV C 1 gX4_readLine_X4_isWord rfl rfl dd_X4_isWord ⟨(Nat.le_of_ble_eq_true rfl), (Nat.le_of_ble_eq_true rfl)⟩) (hD.zaddr rfl) [0, 1] rfl rfl ⟨a0 99, [.ref (adK 4)], 3, 0, _, _, rfl, rfl, rfl, rfl, rfl⟩ rfl (Nat.le_of_ble_eq_true rfl) dX4_readLine_64 67 rfl h (fun r_5 h => ?_)
        refine z_if_eq C 84 dX4_readLine_67 (by decide) 70 rfl h (fun h => ?_) (fun h => ?_)
        · refine z_aload_n C dX4_readLine_84 rfl 0 rfl 85 rfl ?_
          refine ze_ldc C E 5 (by decide) 84 rfl dX4_readLine_85 87 rfl ?_
          refine z_callRE C E (wX4 T a0 r_1) (fun v h => c_X4_isWord l D T adK adV a0 5 (by decide) r_1  v h) ⟨rfl, rfl⟩ (z_cwV C 1 gX4_readLine_X4_isWord rfl rfl dd_X4_isWord ⟨(Nat.le_of_ble_eq_true rfl), (Nat.le_of_ble_eq_true rfl)⟩) (hD.zaddr rfl) [0, 1] rfl rfl ⟨a0 99, [.ref (adK 5)], 3, 0, _, _, rfl, rfl, rfl, rfl, rfl⟩ rfl (Nat.le_of_ble_eq_true rfl) dX4_readLine_87 90 rfl h (fun r_6 h => ?_)
          refine z_if_eq C 107 dX4_readLine_90 (by decide) 93 rfl h (fun h => ?_) (fun h => ?_)
          · refine z_aload_n C dX4_readLine_107 rfl 0 rfl 108 rfl ?_
            refine z_iconst C 1 dX4_readLine_108 (by decide) 109 rfl ?_
            refine z_callV C (wX4 T a0 r_1) (wX1 T a1 S1) (fun z => wX4 T a0 z) (fun z => wX4 T a0 z ++ wX1 T a1 S1) (fun z h => c_X4_fail l D T a0  r_1 1 z h) ⟨rfl, rfl⟩ (z_cwV C 1 gX4_readLine_X4_fail rfl rfl dd_X4_fail ⟨(Nat.le_of_ble_eq_true rfl), (Nat.le_of_ble_eq_true rfl)⟩) (hD.zaddr rfl) [0, 1] [2, 3, 4, 5, 6] [5, 6, 0, 1, 2, 3, 4] rfl rfl rfl (by decide) (fun _ => rfl) (fun _ => ⟨a0 99, [.int 1], 3, 0, _, _, rfl, rfl, rfl, rfl, rfl⟩) (fun h => absurd rfl h) rfl (Nat.le_of_ble_eq_true rfl) dX4_readLine_109 112 rfl h (fun r_7 h => ?_)
            exact z_vretW (x := (r_7, S1)) (ex := ex) (fun z => wX4 T a0 z.1 ++ wX1 T a1 z.2) C hr dX4_readLine_112 h rfl
          · refine z_aload_n C dX4_readLine_93 rfl 1 rfl 94 rfl ?_
            refine z_aload_n C dX4_readLine_94 rfl 0 rfl 95 rfl ?_
            refine z_iconst C 0 dX4_readLine_95 (by decide) 96 rfl ?_
            refine z_bipush C 6 dX4_readLine_96 (by decide) 98 rfl ?_
            refine z_callW C (wX4 T a0 r_1) (wX1 T a1 S1) (fun z => z.1) (fun z => wX4 T a0 z.2) (fun z => wX4 T a0 z.2 ++ wX1 T a1 S1) (fun z h => c_X4_readNumber l D T a0  r_1 0 6 z h) ⟨rfl, rfl⟩ (z_cwV C 2 gX4_readLine_X4_readNumber rfl rfl dd_X4_readNumber ⟨(Nat.le_of_ble_eq_true rfl), (Nat.le_of_ble_eq_true rfl)⟩) (hD.zaddr rfl) [0, 1] [2, 3, 4, 5, 6] [5, 6, 0, 1, 2, 3, 4] rfl rfl rfl (by decide) (fun _ => rfl) (fun _ => ⟨a0 99, [.int 0, .int 6], 3, 0, _, _, rfl, rfl, rfl, rfl, rfl⟩) (fun h => absurd rfl h) rfl (Nat.le_of_ble_eq_true rfl) dX4_readLine_98 101 rfl h (fun r_8 h => ?_)
            refine z_put (ty := .int) C (fun z => wX4 T a0 r_8.2 ++ wX1 T a1 z) S1 (hD.zaddr rfl) (in_X4_readLine_X1) tyX1 tyX1_ok nmX1 2 rfl rfl 4 (by decide) (List.mem_of_getElem? (i := 3) rfl) rfl rfl (by decide +kernel) rfl rfl (Nat.le_of_ble_eq_true rfl) rfl dX4_readLine_101 104 rfl h (fun S1_9 h => ?_)
            refine z_goto C 112 dX4_readLine_104 (by decide) ?_
            exact z_vretW (x := (r_8.2, S1_9)) (ex := ex) (fun z => wX4 T a0 z.1 ++ wX1 T a1 z.2) C hr dX4_readLine_112 h rfl
        · refine z_aload_n C dX4_readLine_70 rfl 1 rfl 71 rfl ?_
          refine z_aload_n C dX4_readLine_71 rfl 0 rfl 72 rfl ?_
          refine z_iconst C 0 dX4_readLine_72 (by decide) 73 rfl ?_
          refine z_bipush C 40 dX4_readLine_73 (by decide) 75 rfl ?_
          refine z_callW C (wX4 T a0 r_1) (wX1 T a1 S1) (fun z => z.1) (fun z => wX4 T a0 z.2) (fun z => wX4 T a0 z.2 ++ wX1 T a1 S1) (fun z h => c_X4_readNumber l D T a0  r_1 0 40 z h) ⟨rfl, rfl⟩ (z_cwV C 2 gX4_readLine_X4_readNumber rfl rfl dd_X4_readNumber ⟨(Nat.le_of_ble_eq_true rfl), (Nat.le_of_ble_eq_true rfl)⟩) (hD.zaddr rfl) [0, 1] [2, 3, 4, 5, 6] [5, 6, 0, 1, 2, 3, 4] rfl rfl rfl (by decide) (fun _ => rfl) (fun _ => ⟨a0 99, [.int 0, .int 40], 3, 0, _, _, rfl, rfl, rfl, rfl, rfl⟩) (fun h => absurd rfl h) rfl (Nat.le_of_ble_eq_true rfl) dX4_readLine_75 78 rfl h (fun r_10 h => ?_)
          refine z_put (ty := .int) C (fun z => wX4 T a0 r_10.2 ++ wX1 T a1 z) S1 (hD.zaddr rfl) (in_X4_readLine_X1) tyX1 tyX1_ok nmX1 2 rfl rfl 3 (by decide) (List.mem_of_getElem? (i := 2) rfl) rfl rfl (by decide +kernel) rfl rfl (Nat.le_of_ble_eq_true rfl) rfl dX4_readLine_78 81 rfl h (fun S1_11 h => ?_)
          refine z_goto C 112 dX4_readLine_81 (by decide) ?_
          exact z_vretW (x := (r_10.2, S1_11)) (ex := ex) (fun z => wX4 T a0 z.1 ++ wX1 T a1 z.2) C hr dX4_readLine_112 h rfl
      · refine z_aload_n C dX4_readLine_47 rfl 1 rfl 48 rfl ?_
        refine z_aload_n C dX4_readLine_48 rfl 0 rfl 49 rfl ?_
        refine z_iconst C 1 dX4_readLine_49 (by decide) 50 rfl ?_
        refine z_bipush C 99 dX4_readLine_50 (by decide) 52 rfl ?_
        refine z_callW C (wX4 T a0 r_1) (wX1 T a1 S1) (fun z => z.1) (fun z => wX4 T a0 z.2) (fun z => wX4 T a0 z.2 ++ wX1 T a1 S1) (fun z h => c_X4_readNumber l D T a0  r_1 1 99 z h) ⟨rfl, rfl⟩ (z_cwV C 2 gX4_readLine_X4_readNumber rfl rfl dd_X4_readNumber ⟨(Nat.le_of_ble_eq_true rfl), (Nat.le_of_ble_eq_true rfl)⟩) (hD.zaddr rfl) [0, 1] [2, 3, 4, 5, 6] [5, 6, 0, 1, 2, 3, 4] rfl rfl rfl (by decide) (fun _ => rfl) (fun _ => ⟨a0 99, [.int 1, .int 99], 3, 0, _, _, rfl, rfl, rfl, rfl, rfl⟩) (fun h => absurd rfl h) rfl (Nat.le_of_ble_eq_true rfl) dX4_readLine_52 55 rfl h (fun r_12 h => ?_)
        refine z_put (ty := .int) C (fun z => wX4 T a0 r_12.2 ++ wX1 T a1 z) S1 (hD.zaddr rfl) (in_X4_readLine_X1) tyX1 tyX1_ok nmX1 2 rfl rfl 2 (by decide) (List.mem_of_getElem? (i := 1) rfl) rfl rfl (by decide +kernel) rfl rfl (Nat.le_of_ble_eq_true rfl) rfl dX4_readLine_55 58 rfl h (fun S1_13 h => ?_)
        refine z_goto C 112 dX4_readLine_58 (by decide) ?_
        exact z_vretW (x := (r_12.2, S1_13)) (ex := ex) (fun z => wX4 T a0 z.1 ++ wX1 T a1 z.2) C hr dX4_readLine_112 h rfl
    · refine z_aload_n C dX4_readLine_30 rfl 0 rfl 31 rfl ?_
      refine z_aload_n C dX4_readLine_31 rfl 1 rfl 32 rfl ?_
      refine z_callV C (wX4 T a0 r_1 ++ wX1 T a1 S1) (([] : va_W)) (fun z => wX4 T a0 z.1 ++ wX1 T a1 z.2) (fun z => wX4 T a0 z.1 ++ wX1 T a1 z.2) (fun z h => c_X4_readRocks l D T a0 a1  r_1 S1  z h) ⟨rfl, rfl⟩ (z_cwV C 1 gX4_readLine_X4_readRocks rfl rfl dd_X4_readRocks ⟨(Nat.le_of_ble_eq_true rfl), (Nat.le_of_ble_eq_true rfl)⟩) (hD.zaddr rfl) [0, 1, 2, 3, 4, 5, 6] [] [0, 1, 2, 3, 4, 5, 6] rfl rfl rfl (by decide) (fun _ => rfl) (fun _ => ⟨a0 99, [.ref (a1 99)], 3, 0, _, _, rfl, rfl, rfl, rfl, rfl⟩) (fun h => absurd rfl h) rfl (Nat.le_of_ble_eq_true rfl) dX4_readLine_32 35 rfl h (fun r_14 h => ?_)
      refine z_goto C 112 dX4_readLine_35 (by decide) ?_
      exact z_vretW (x := (r_14.1, r_14.2)) (ex := ex) (fun z => wX4 T a0 z.1 ++ wX1 T a1 z.2) C hr dX4_readLine_112 h rfl
  · refine z_aload_n C dX4_readLine_13 rfl 0 rfl 14 rfl ?_
    refine z_aload_n C dX4_readLine_14 rfl 1 rfl 15 rfl ?_
    refine z_callV C (wX4 T a0 r_1 ++ wX1 T a1 S1) (([] : va_W)) (fun z => wX4 T a0 z.1 ++ wX1 T a1 z.2) (fun z => wX4 T a0 z.1 ++ wX1 T a1 z.2) (fun z h => c_X4_readPlace l D T a0 a1  r_1 S1  z h) ⟨rfl, rfl⟩ (z_cwV C 1 gX4_readLine_X4_readPlace rfl rfl dd_X4_readPlace ⟨(Nat.le_of_ble_eq_true rfl), (Nat.le_of_ble_eq_true rfl)⟩) (hD.zaddr rfl) [0, 1, 2, 3, 4, 5, 6] [] [0, 1, 2, 3, 4, 5, 6] rfl rfl rfl (by decide) (fun _ => rfl) (fun _ => ⟨a0 99, [.ref (a1 99)], 3, 0, _, _, rfl, rfl, rfl, rfl, rfl⟩) (fun h => absurd rfl h) rfl (Nat.le_of_ble_eq_true rfl) dX4_readLine_15 18 rfl h (fun r_15 h => ?_)
    refine z_goto C 112 dX4_readLine_18 (by decide) ?_
    exact z_vretW (x := (r_15.1, r_15.2)) (ex := ex) (fun z => wX4 T a0 z.1 ++ wX1 T a1 z.2) C hr dX4_readLine_112 h rfl

end
/-! StreamTree$Tape.readText (ILStreamTree$Chart;)I -/
section
variable {p : Program} {l : Launch} {e : Env} {R : Room} {s : State} {m : MethodId} {args : Array Value} {below : List Frame} {meth : Method} {c : Code} {Q : State → Prop} {A : Nat → Prop} {D : va_G} {T : Nat → ClassId} {a0 : Nat → Nat} {a1 : Nat → Nat} {adK adV : Nat → Nat}
theorem in_X4_readText_X4 : ∀ w ∈ u_ws RX4 TX4 8, w ∈ wsX4_readText := fun _ h => (List.mem_cons_of_mem _ (List.mem_append_left _ (List.mem_append_right _ h)))
def f_X4_readText_J79 (rec : (Int32 × (Nat → Nat → Int32) × (Nat → Nat → Int32)) → Option (Nat × (Nat → Nat → Int32) × (Nat → Nat → Int32))) (S0 : Nat → Nat → Int32) (S1 : Nat → Nat → Int32) (x3 : Int32)  : Option (Nat × (Nat → Nat → Int32) × (Nat → Nat → Int32)) := rec ((x3 + 1), S0, S1)
set_option maxHeartbeats 4000000 in
set_option maxRecDepth 100000 in
theorem p_X4_readText_J79 (C : zC p R s m args meth c cX4_readText 4 RX4 wsX4_readText D T 6 130 0 0) (E : zE adK adV A s s.heap ∧ zR adK s) (S0 : Nat → Nat → Int32) (S1 : Nat → Nat → Int32)  (x3 : Int32)  (hD : va_D A (wX4 T a0 S0 ++ wX1 T a1 S1)) {rec : (Int32 × (Nat → Nat → Int32) × (Nat → Nat → Int32)) → Option (Nat × (Nat → Nat → Int32) × (Nat → Nat → Int32))} (hrec : ∀ (c0 : Int32) (c1 : Nat → Nat → Int32) (c2 : Nat → Nat → Int32) (b : Nat × (Nat → Nat → Int32) × (Nat → Nat → Int32)), rec (c0, c1, c2) = some b → ((b.1 = 0 → zt p l e R s m args below meth c 4 A D 0 0 Q (wX4 T a0 b.2.1 ++ wX1 T a1 b.2.2) [(0, .ref (a0 99))] 55 []) ∧ (b.1 = 1 → zt p l e R s m args below meth c 4 A D 0 0 Q (wX4 T a0 b.2.1 ++ wX1 T a1 b.2.2) [(0, .ref (a0 99))] 85 [])) → zt p l e R s m args below meth c 4 A D 0 0 Q (wX4 T a0 c1 ++ wX1 T a1 c2) [(0, .ref (a0 99)), (2, .ref (a1 99)), (3, .int c0)] 29 []) {b : Nat × (Nat → Nat → Int32) × (Nat → Nat → Int32)} (K : (b.1 = 0 → zt p l e R s m args below meth c 4 A D 0 0 Q (wX4 T a0 b.2.1 ++ wX1 T a1 b.2.2) [(0, .ref (a0 99))] 55 []) ∧ (b.1 = 1 → zt p l e R s m args below meth c 4 A D 0 0 Q (wX4 T a0 b.2.1 ++ wX1 T a1 b.2.2) [(0, .ref (a0 99))] 85 [])) (h : f_X4_readText_J79 rec S0 S1 x3 = some b) : zt p l e R s m args below meth c 4 A D 0 0 Q (wX4 T a0 S0 ++ wX1 T a1 S1) [(0, .ref (a0 99)), (2, .ref (a1 99)), (3, .int x3)] 79 [] := by
  unfold f_X4_readText_J79 at h
  refine z_iinc C (x3 + 1) [(0, .ref (a0 99)), (2, .ref (a1 99)), (3, .int (x3 + 1))] dX4_readText_79 2 rfl rfl (Nat.le_of_ble_eq_true rfl) [1, 2, 0] rfl 82 rfl ?_
  refine z_goto C 29 dX4_readText_82 (by decide) ?_
  exact z_locals (ks := [0, 1, 2]) rfl (hrec _ _ _ _ h K)

def f_X4_readText_L29b   (rec : (Int32 × (Nat → Nat → Int32) × (Nat → Nat → Int32)) → Option (Nat × (Nat → Nat → Int32) × (Nat → Nat → Int32))) (a : Int32 × (Nat → Nat → Int32) × (Nat → Nat → Int32)) : Option (Nat × (Nat → Nat → Int32) × (Nat → Nat → Int32)) := if (a.2.1 2 0) < a.1 then (some (1, a.2.1, a.2.2)) else (if (a.2.1 7 0) = 0 then ((f_X4_readToken a.2.1).bind fun r_5 => if (r_5 4 0) = 0 then (some (0, r_5, a.2.2)) else (if (r_5 4 0) = 3 then ((f_X4_readLine r_5 a.2.2).bind fun r_7 => f_X4_readText_J79 rec r_7.1 r_7.2 a.1) else ((f_X4_fail r_5 1).bind fun r_6 => f_X4_readText_J79 rec r_6 a.2.2 a.1))) else (some (1, a.2.1, a.2.2)))
def f_X4_readText_L29   : Nat → (Int32 × (Nat → Nat → Int32) × (Nat → Nat → Int32)) → Option (Nat × (Nat → Nat → Int32) × (Nat → Nat → Int32)) := zloop (fun rec a => f_X4_readText_L29b  rec a)
set_option maxHeartbeats 4000000 in
set_option maxRecDepth 100000 in
theorem p_X4_readText_L29 (C : zC p R s m args meth c cX4_readText 4 RX4 wsX4_readText D T 6 130 0 0) (E : zE adK adV A s s.heap ∧ zR adK s) (S0 : Nat → Nat → Int32) (S1 : Nat → Nat → Int32)  (hD : va_D A (wX4 T a0 S0 ++ wX1 T a1 S1)) : ∀ (n : Nat) (c0 : Int32) (c1 : Nat → Nat → Int32) (c2 : Nat → Nat → Int32) (b : Nat × (Nat → Nat → Int32) × (Nat → Nat → Int32)), f_X4_readText_L29  n (c0, c1, c2) = some b → ((b.1 = 0 → zt p l e R s m args below meth c 4 A D 0 0 Q (wX4 T a0 b.2.1 ++ wX1 T a1 b.2.2) [(0, .ref (a0 99))] 55 []) ∧ (b.1 = 1 → zt p l e R s m args below meth c 4 A D 0 0 Q (wX4 T a0 b.2.1 ++ wX1 T a1 b.2.2) [(0, .ref (a0 99))] 85 [])) → zt p l e R s m args below meth c 4 A D 0 0 Q (wX4 T a0 c1 ++ wX1 T a1 c2) [(0, .ref (a0 99)), (2, .ref (a1 99)), (3, .int c0)] 29 [] := by
  intro n c0 c1 c2 b h K
  refine zloop_ind (P := fun a b => ((b.1 = 0 → zt p l e R s m args below meth c 4 A D 0 0 Q (wX4 T a0 b.2.1 ++ wX1 T a1 b.2.2) [(0, .ref (a0 99))] 55 []) ∧ (b.1 = 1 → zt p l e R s m args below meth c 4 A D 0 0 Q (wX4 T a0 b.2.1 ++ wX1 T a1 b.2.2) [(0, .ref (a0 99))] 85 [])) → zt p l e R s m args below meth c 4 A D 0 0 Q (wX4 T a0 a.2.1 ++ wX1 T a1 a.2.2) [(0, .ref (a0 99)), (2, .ref (a1 99)), (3, .int a.1)] 29 []) ?_ n (c0, c1, c2) b h K
  clear h K b c0 c1 c2
  intro rec hrec a b h K
  have hrec : ∀ (c0 : Int32) (c1 : Nat → Nat → Int32) (c2 : Nat → Nat → Int32) (b : Nat × (Nat → Nat → Int32) × (Nat → Nat → Int32)), rec (c0, c1, c2) = some b → ((b.1 = 0 → zt p l e R s m args below meth c 4 A D 0 0 Q (wX4 T a0 b.2.1 ++ wX1 T a1 b.2.2) [(0, .ref (a0 99))] 55 []) ∧ (b.1 = 1 → zt p l e R s m args below meth c 4 A D 0 0 Q (wX4 T a0 b.2.1 ++ wX1 T a1 b.2.2) [(0, .ref (a0 99))] 85 [])) → zt p l e R s m args below meth c 4 A D 0 0 Q (wX4 T a0 c1 ++ wX1 T a1 c2) [(0, .ref (a0 99)), (2, .ref (a1 99)), (3, .int c0)] 29 [] := fun c0 c1 c2 b h K => hrec (c0, c1, c2) b h K
  unfold f_X4_readText_L29b at h
  refine z_iload_n C dX4_readText_29 rfl 2 rfl 30 rfl ?_
  refine z_aload_n C dX4_readText_30 rfl 0 rfl 31 rfl ?_
  refine z_get C (in_X4_readText_X4) 0 rfl rfl 2 (by decide) (List.mem_of_getElem? (i := 6) rfl) rfl rfl dX4_readText_31 34 rfl ?_
  refine z_icmp_gt C 85 dX4_readText_34 (by decide) 37 rfl h (fun h => ?_) (fun h => ?_)
  · refine z_locals (ks := [0]) (lv' := [(0, .ref (a0 99))]) rfl ?_
    exact zexT2 (F := (fun e0 e1 => zt p l e R s m args below meth c 4 A D 0 0 Q (wX4 T a0 e0 ++ wX1 T a1 e1) [(0, .ref (a0 99))] 85 [])) h K.2
  · refine z_aload_n C dX4_readText_37 rfl 0 rfl 38 rfl ?_
    refine z_get C (in_X4_readText_X4) 0 rfl rfl 7 (by decide) (List.mem_of_getElem? (i := 8) rfl) rfl rfl dX4_readText_38 41 rfl ?_
    refine z_if_ne C 85 dX4_readText_41 (by decide) 44 rfl h (fun h => ?_) (fun h => ?_)
    · refine z_locals (ks := [0]) (lv' := [(0, .ref (a0 99))]) rfl ?_
      exact zexT2 (F := (fun e0 e1 => zt p l e R s m args below meth c 4 A D 0 0 Q (wX4 T a0 e0 ++ wX1 T a1 e1) [(0, .ref (a0 99))] 85 [])) h K.2
    · refine z_aload_n C dX4_readText_44 rfl 0 rfl 45 rfl ?_
      refine z_callV C (wX4 T a0 a.2.1) (wX1 T a1 a.2.2) (fun z => wX4 T a0 z) (fun z => wX4 T a0 z ++ wX1 T a1 a.2.2) (fun z h => c_X4_readToken l D T a0  a.2.1  z h) ⟨rfl, rfl⟩ (z_cwV C 0 gX4_readText_X4_readToken rfl rfl dd_X4_readToken ⟨(Nat.le_of_ble_eq_true rfl), (Nat.le_of_ble_eq_true rfl)⟩) (hD.zaddr rfl) [0, 1] [2, 3, 4, 5, 6] [5, 6, 0, 1, 2, 3, 4] rfl rfl rfl (by decide) (fun _ => rfl) (fun _ => ⟨a0 99, [], 3, 0, _, _, rfl, rfl, rfl, rfl, rfl⟩) (fun h => absurd rfl h) rfl (Nat.le_of_ble_eq_true rfl) dX4_readText_45 48 rfl h (fun r_5 h => ?_)
      refine z_aload_n C dX4_readText_48 rfl 0 rfl 49 rfl ?_
      refine z_get C (in_X4_readText_X4) 0 rfl rfl 4 (by decide) (List.mem_of_getElem? (i := 9) rfl) rfl rfl dX4_readText_49 52 rfl ?_
      refine z_if_ne C 58 dX4_readText_52 (by decide) 55 rfl h (fun h => ?_) (fun h => ?_)
      · refine z_aload_n C dX4_readText_58 rfl 0 rfl 59 rfl ?_
        refine z_get C (in_X4_readText_X4) 0 rfl rfl 4 (by decide) (List.mem_of_getElem? (i := 9) rfl) rfl rfl dX4_readText_59 62 rfl ?_
        refine z_iconst C 3 dX4_readText_62 (by decide) 63 rfl ?_
        refine z_icmp_ne C 74 dX4_readText_63 (by decide) 66 rfl h (fun h => ?_) (fun h => ?_)
        · refine z_aload_n C dX4_readText_74 rfl 0 rfl 75 rfl ?_
          refine z_iconst C 1 dX4_readText_75 (by decide) 76 rfl ?_
          refine z_callV C (wX4 T a0 r_5) (wX1 T a1 a.2.2) (fun z => wX4 T a0 z) (fun z => wX4 T a0 z ++ wX1 T a1 a.2.2) (fun z h => c_X4_fail l D T a0  r_5 1 z h) ⟨rfl, rfl⟩ (z_cwV C 1 gX4_readText_X4_fail rfl rfl dd_X4_fail ⟨(Nat.le_of_ble_eq_true rfl), (Nat.le_of_ble_eq_true rfl)⟩) (hD.zaddr rfl) [0, 1] [2, 3, 4, 5, 6] [5, 6, 0, 1, 2, 3, 4] rfl rfl rfl (by decide) (fun _ => rfl) (fun _ => ⟨a0 99, [.int 1], 3, 0, _, _, rfl, rfl, rfl, rfl, rfl⟩) (fun h => absurd rfl h) rfl (Nat.le_of_ble_eq_true rfl) dX4_readText_76 79 rfl h (fun r_6 h => ?_)
          exact z_locals (ks := [0, 1, 2]) rfl (p_X4_readText_J79 C E r_6 a.2.2 a.1 (hD.zaddr rfl) hrec K h)
        · refine z_aload_n C dX4_readText_66 rfl 0 rfl 67 rfl ?_
          refine z_aload_n C dX4_readText_67 rfl 1 rfl 68 rfl ?_
          refine z_callVE C E (wX4 T a0 r_5 ++ wX1 T a1 a.2.2) (([] : va_W)) (fun z => wX4 T a0 z.1 ++ wX1 T a1 z.2) (fun z => wX4 T a0 z.1 ++ wX1 T a1 z.2) (fun z h => c_X4_readLine l D T adK adV a0 a1  r_5 a.2.2  z h) ⟨rfl, rfl⟩ (z_cwV C 1 gX4_readText_X4_readLine rfl rfl dd_X4_readLine ⟨(Nat.le_of_ble_eq_true rfl), (Nat.le_of_ble_eq_true rfl)⟩) (hD.zaddr rfl) [0, 1, 2, 3, 4, 5, 6] [] [0, 1, 2, 3, 4, 5, 6] rfl rfl rfl (by decide) (fun _ => rfl) ⟨a0 99, [.ref (a1 99)], 3, 0, _, _, rfl, rfl, rfl, rfl, rfl⟩ rfl (Nat.le_of_ble_eq_true rfl) dX4_readText_68 71 rfl h (fun r_7 h => ?_)
          refine z_goto C 79 dX4_readText_71 (by decide) ?_
          exact z_locals (ks := [0, 1, 2]) rfl (p_X4_readText_J79 C E r_7.1 r_7.2 a.1 (hD.zaddr rfl) hrec K h)
      · refine z_locals (ks := [0]) (lv' := [(0, .ref (a0 99))]) rfl ?_
        exact zexT2 (F := (fun e0 e1 => zt p l e R s m args below meth c 4 A D 0 0 Q (wX4 T a0 e0 ++ wX1 T a1 e1) [(0, .ref (a0 99))] 55 [])) h K.1

def f_X4_readText (S0 : Nat → Nat → Int32) (S1 : Nat → Nat → Int32) (v1 : Int32) : Option (Int32 × (Nat → Nat → Int32) × (Nat → Nat → Int32)) := zlet (zst S0 2 0 (if (S0 0 0) < v1 then (S0 0 0) else v1)) fun S0_1 => zlet (zst S0_1 3 0 0) fun S0_2 => zlet (zst S0_2 7 0 0) fun S0_3 => (f_X4_readHead S0_3 S1).bind fun r_4 => (f_X4_readText_L29  zfuel (0, r_4.1, r_4.2)).bind fun y_8 => if y_8.1 = 0 then (some ((y_8.2.1 7 0), y_8.2.1, y_8.2.2)) else (some ((y_8.2.1 7 0), y_8.2.1, y_8.2.2))
theorem dd_X4_readText : RX4 ≠ "java/lang/invoke/MethodHandle" ∧ RX4 ≠ "java/lang/invoke/VarHandle" ∧ (parseMethodDescriptor yX4_readText.desc).map (fun d => d.parameters.length) = some 2 := by decide +kernel
set_option maxHeartbeats 4000000 in
set_option maxRecDepth 100000 in
theorem c_X4_readText (l : Launch) (D : va_G) (T : Nat → ClassId) (adK adV : Nat → Nat) (a0 : Nat → Nat) (a1 : Nat → Nat) (S0 : Nat → Nat → Int32) (S1 : Nat → Nat → Int32) (v1 : Int32) (ex : Int32 × (Nat → Nat → Int32) × (Nat → Nat → Int32)) (h : f_X4_readText S0 S1 v1 = some ex) : zWIE l yX4_readText wsX4_readText ({ frames := 6, cells := 0, slots := 0, locals := 130 } : Room) D T adK adV [.ref (a0 99), .int v1, .ref (a1 99)] (wX4 T a0 S0 ++ wX1 T a1 S1) ex.1 (wX4 T a0 ex.2.1 ++ wX1 T a1 ex.2.2) := by
  refine z_beginE (A := (zA (wX4 T a0 S0 ++ wX1 T a1 S1))) (cc := cX4_readText) (nL := 4) (own := RX4) (fr := 6) (lc := 130) (ret := some .int) (by decide) rfl (Nat.le_of_ble_eq_true rfl) [(0, .ref (a0 99)), (1, .int v1), (2, .ref (a1 99))] rfl ⟨rfl, rfl⟩ rfl ?_
  intro p e s m args below meth c C E hr hD
  have hD := hD.zself
  unfold f_X4_readText at h
  refine z_aload_n C dX4_readText_0 rfl 0 rfl 1 rfl ?_
  refine z_iload_n C dX4_readText_1 rfl 1 rfl 2 rfl ?_
  refine z_aload_n C dX4_readText_2 rfl 0 rfl 3 rfl ?_
  refine z_get C (in_X4_readText_X4) 0 rfl rfl 0 (by decide) (List.mem_of_getElem? (i := 1) rfl) rfl rfl dX4_readText_3 6 rfl ?_
  refine z_mmin C (List.mem_of_getElem? (i := 2) rfl) (List.mem_of_getElem? (i := 3) rfl) (List.mem_of_getElem? (i := 4) rfl) (List.mem_of_getElem? (i := 5) rfl) (Nat.le_of_ble_eq_true rfl) (Nat.le_of_ble_eq_true rfl) (Nat.le_of_ble_eq_true rfl) dX4_readText_6 9 rfl ?_
  refine z_put (ty := .int) C (fun z => wX4 T a0 z ++ wX1 T a1 S1) S0 (hD.zaddr rfl) (in_X4_readText_X4) tyX4 tyX4_ok nmX4 0 rfl rfl 2 (by decide) (List.mem_of_getElem? (i := 6) rfl) rfl rfl (by decide +kernel) rfl rfl (Nat.le_of_ble_eq_true rfl) rfl dX4_readText_9 12 rfl h (fun S0_1 h => ?_)
  refine z_aload_n C dX4_readText_12 rfl 0 rfl 13 rfl ?_
  refine z_iconst C 0 dX4_readText_13 (by decide) 14 rfl ?_
  refine z_put (ty := .int) C (fun z => wX4 T a0 z ++ wX1 T a1 S1) S0_1 (hD.zaddr rfl) (in_X4_readText_X4) tyX4 tyX4_ok nmX4 0 rfl rfl 3 (by decide) (List.mem_of_getElem? (i := 7) rfl) rfl rfl (by decide +kernel) rfl rfl (Nat.le_of_ble_eq_true rfl) rfl dX4_readText_14 17 rfl h (fun S0_2 h => ?_)
  refine z_aload_n C dX4_readText_17 rfl 0 rfl 18 rfl ?_
  refine z_iconst C 0 dX4_readText_18 (by decide) 19 rfl ?_
  refine z_put (ty := .int) C (fun z => wX4 T a0 z ++ wX1 T a1 S1) S0_2 (hD.zaddr rfl) (in_X4_readText_X4) tyX4 tyX4_ok nmX4 0 rfl rfl 7 (by decide) (List.mem_of_getElem? (i := 8) rfl) rfl rfl (by decide +kernel) rfl rfl (Nat.le_of_ble_eq_true rfl) rfl dX4_readText_19 22 rfl h (fun S0_3 h => ?_)
  refine z_aload_n C dX4_readText_22 rfl 0 rfl 23 rfl ?_
  refine z_aload_n C dX4_readText_23 rfl 2 rfl 24 rfl ?_
  refine z_callVE C E (wX4 T a0 S0_3 ++ wX1 T a1 S1) (([] : va_W)) (fun z => wX4 T a0 z.1 ++ wX1 T a1 z.2) (fun z => wX4 T a0 z.1 ++ wX1 T a1 z.2) (fun z h => c_X4_readHead l D T adK adV a0 a1  S0_3 S1  z h) ⟨rfl, rfl⟩ (z_cwV C 1 gX4_readText_X4_readHead rfl rfl dd_X4_readHead ⟨(Nat.le_of_ble_eq_true rfl), (Nat.le_of_ble_eq_true rfl)⟩) (hD.zaddr rfl) [0, 1, 2, 3, 4, 5, 6] [] [0, 1, 2, 3, 4, 5, 6] rfl rfl rfl (by decide) (fun _ => rfl) ⟨a0 99, [.ref (a1 99)], 3, 0, _, _, rfl, rfl, rfl, rfl, rfl⟩ rfl (Nat.le_of_ble_eq_true rfl) dX4_readText_24 27 rfl h (fun r_4 h => ?_)
  refine z_iconst C 0 dX4_readText_27 (by decide) 28 rfl ?_
  refine z_istore_n C [(0, .ref (a0 99)), (1, .int v1), (2, .ref (a1 99)), (3, .int 0)] dX4_readText_28 rfl (Nat.le_of_ble_eq_true rfl) [1, 2, 3, 0] rfl 29 rfl ?_
  obtain ⟨y_8, hl_y_8, h⟩ := Option.bind_eq_some_iff.mp h
  refine z_locals (ks := [0, 2, 3]) rfl (p_X4_readText_L29 C E r_4.1 r_4.2  (hD.zaddr rfl) _ _ _ _ _ hl_y_8 ⟨fun ht => ?_, fun ht => ?_⟩)
  · replace h := z_pos ht h
    refine z_goto C 85 dX4_readText_55 (by decide) ?_
    refine z_aload_n C dX4_readText_85 rfl 0 rfl 86 rfl ?_
    refine z_get C (in_X4_readText_X4) 0 rfl rfl 7 (by decide) (List.mem_of_getElem? (i := 8) rfl) rfl rfl dX4_readText_86 89 rfl ?_
    exact z_iretW (x := (y_8.2.1, y_8.2.2)) (ex := ex) (fun z => wX4 T a0 z.1 ++ wX1 T a1 z.2) C hr dX4_readText_89 h rfl
  · replace h := z_neg (by rw [ht]; decide) h
    refine z_aload_n C dX4_readText_85 rfl 0 rfl 86 rfl ?_
    refine z_get C (in_X4_readText_X4) 0 rfl rfl 7 (by decide) (List.mem_of_getElem? (i := 8) rfl) rfl rfl dX4_readText_86 89 rfl ?_
    exact z_iretW (x := (y_8.2.1, y_8.2.2)) (ex := ex) (fun z => wX4 T a0 z.1 ++ wX1 T a1 z.2) C hr dX4_readText_89 h rfl

end
/-! StreamTree.text (I)I -/
section
variable {p : Program} {l : Launch} {e : Env} {R : Room} {s : State} {m : MethodId} {args : Array Value} {below : List Frame} {meth : Method} {c : Code} {Q : State → Prop} {A : Nat → Prop} {D : va_G} {T : Nat → ClassId} {a0 : Nat → Nat} {a1 : Nat → Nat} {a2 : Nat → Nat} {a3 : Nat → Nat} {a4 : Nat → Nat} {a5 : Nat → Nat} {a6 : Nat → Nat} {a7 : Nat → Nat} {a8 : Nat → Nat} {a9 : Nat → Nat} {adK adV : Nat → Nat}
theorem in_X6_text_X1 : ∀ w ∈ u_ws RX1 TX1 10, w ∈ wsX6_text := fun _ h => (List.mem_cons_of_mem _ (List.mem_append_left _ (List.mem_append_left _ (List.mem_append_right _ h))))
theorem in_X6_text_X4 : ∀ w ∈ u_ws RX4 TX4 8, w ∈ wsX6_text := fun _ h => (List.mem_cons_of_mem _ (List.mem_append_left _ (List.mem_append_left _ (List.mem_append_left _ (List.mem_append_right _ h)))))
theorem in_X6_text_X6 : ∀ w ∈ u_ws RX6 TX6 9, w ∈ wsX6_text := fun _ h => (List.mem_cons_of_mem _ (List.mem_append_left _ (List.mem_append_left _ (List.mem_append_left _ (List.mem_append_left _ (List.mem_append_right _ h))))))
def f_X6_text (S1 : Nat → Nat → Int32) (S2 : Nat → Nat → Int32) (S3 : Nat → Nat → Int32) (S4 : Nat → Nat → Int32) (S5 : Nat → Nat → Int32) (S6 : Nat → Nat → Int32) (S7 : Nat → Nat → Int32) (S8 : Nat → Nat → Int32) (S9 : Nat → Nat → Int32) (v1 : Int32) : Option (Int32 × Nat × (Nat → Nat → Int32) × (Nat → Nat → Int32) × (Nat → Nat → Int32) × (Nat → Nat → Int32) × (Nat → Nat → Int32) × (Nat → Nat → Int32) × (Nat → Nat → Int32)) := if v1 < 0 then (some ((-1), 0, S1, S3, S4, S5, S6, S7, S8)) else (if v1 ≤ (S1 0 0) then ((f_X4_readText S1 S3 v1).bind fun r_1 => zlet (zst r_1.2.1 0 0 0) fun S1_2 => if r_1.1 = 0 then ((f_X6_forgetDrawings S1_2 r_1.2.2 S2 S4 S5 S6 S7 S8 S9).bind fun r_3 => some ((r_1.2.2 5 0), 1, S1_2, r_1.2.2, r_3.1, r_3.2.1, r_3.2.2.1, r_3.2.2.2.1, r_3.2.2.2.2)) else (some (((-2) - r_1.1), 0, S1_2, r_1.2.2, S4, S5, S6, S7, S8))) else (some ((-1), 0, S1, S3, S4, S5, S6, S7, S8)))
theorem dd_X6_text : RX6 ≠ "java/lang/invoke/MethodHandle" ∧ RX6 ≠ "java/lang/invoke/VarHandle" ∧ (parseMethodDescriptor yX6_text.desc).map (fun d => d.parameters.length) = some 1 := by decide +kernel
set_option maxHeartbeats 4000000 in
set_option maxRecDepth 100000 in
theorem c_X6_text (l : Launch) (D : va_G) (T : Nat → ClassId) (adK adV : Nat → Nat) (a0 : Nat → Nat) (a1 : Nat → Nat) (a2 : Nat → Nat) (a3 : Nat → Nat) (a4 : Nat → Nat) (a5 : Nat → Nat) (a6 : Nat → Nat) (a7 : Nat → Nat) (a8 : Nat → Nat) (a9 : Nat → Nat) (S1 : Nat → Nat → Int32) (S2 : Nat → Nat → Int32) (S3 : Nat → Nat → Int32) (S4 : Nat → Nat → Int32) (S5 : Nat → Nat → Int32) (S6 : Nat → Nat → Int32) (S7 : Nat → Nat → Int32) (S8 : Nat → Nat → Int32) (S9 : Nat → Nat → Int32) (v1 : Int32) (ex : Int32 × Nat × (Nat → Nat → Int32) × (Nat → Nat → Int32) × (Nat → Nat → Int32) × (Nat → Nat → Int32) × (Nat → Nat → Int32) × (Nat → Nat → Int32) × (Nat → Nat → Int32)) (h : f_X6_text S1 S2 S3 S4 S5 S6 S7 S8 S9 v1 = some ex) : zWIE l yX6_text wsX6_text ({ frames := 7, cells := 0, slots := 0, locals := 153 } : Room) D T adK adV [.ref (a0 99), .int v1] (wX6 a0 a1 a2 a3 a4 a5 a6 a7 a8 a9 ++ (wX4 T a1 S1 ++ (wX1 T a2 S2 ++ (wX1 T a3 S3 ++ (wX0 T a4 S4 ++ (wX5 T a5 S5 ++ (wX5 T a6 S6 ++ (wX5 T a7 S7 ++ (wX5 T a8 S8 ++ wX3 T a9 S9))))))))) ex.1 (if ex.2.1 = 0 then wX6 a0 a1 a2 a3 a4 a5 a6 a7 a8 a9 ++ (wX4 T a1 ex.2.2.1 ++ (wX1 T a2 S2 ++ (wX1 T a3 ex.2.2.2.1 ++ (wX0 T a4 ex.2.2.2.2.1 ++ (wX5 T a5 ex.2.2.2.2.2.1 ++ (wX5 T a6 ex.2.2.2.2.2.2.1 ++ (wX5 T a7 ex.2.2.2.2.2.2.2.1 ++ (wX5 T a8 ex.2.2.2.2.2.2.2.2 ++ wX3 T a9 S9)))))))) else wX6 a0 a1 a3 a2 a4 a5 a6 a7 a8 a9 ++ (wX4 T a1 ex.2.2.1 ++ (wX1 T a2 S2 ++ (wX1 T a3 ex.2.2.2.1 ++ (wX0 T a4 ex.2.2.2.2.1 ++ (wX5 T a5 ex.2.2.2.2.2.1 ++ (wX5 T a6 ex.2.2.2.2.2.2.1 ++ (wX5 T a7 ex.2.2.2.2.2.2.2.1 ++ (wX5 T a8 ex.2.2.2.2.2.2.2.2 ++ wX3 T a9 S9))))))))) := by
  refine z_beginE (A := (zA (wX6 a0 a1 a2 a3 a4 a5 a6 a7 a8 a9 ++ (wX4 T a1 S1 ++ (wX1 T a2 S2 ++ (wX1 T a3 S3 ++ (wX0 T a4 S4 ++ (wX5 T a5 S5 ++ (wX5 T a6 S6 ++ (wX5 T a7 S7 ++ (wX5 T a8 S8 ++ wX3 T a9 S9))))))))))) (cc := cX6_text) (nL := 4) (own := RX6) (fr := 7) (lc := 153) (ret := some .int) (by decide) rfl (Nat.le_of_ble_eq_true rfl) [(0, .ref (a0 99)), (1, .int v1)] rfl ⟨rfl, rfl⟩ rfl ?_
  intro p e s m args below meth c C E hr hD
  have hD := hD.zself
  unfold f_X6_text at h
  refine z_iload_n C dX6_text_0 rfl 1 rfl 1 rfl ?_
  refine z_if_lt C 15 dX6_text_1 (by decide) 4 rfl h (fun h => ?_) (fun h => ?_)
  · refine z_iconst C (-1) dX6_text_15 (by decide) 16 rfl ?_
    exact z_iretW (x := (0, S1, S3, S4, S5, S6, S7, S8)) (ex := ex) (fun z => if z.1 = 0 then wX6 a0 a1 a2 a3 a4 a5 a6 a7 a8 a9 ++ (wX4 T a1 z.2.1 ++ (wX1 T a2 S2 ++ (wX1 T a3 z.2.2.1 ++ (wX0 T a4 z.2.2.2.1 ++ (wX5 T a5 z.2.2.2.2.1 ++ (wX5 T a6 z.2.2.2.2.2.1 ++ (wX5 T a7 z.2.2.2.2.2.2.1 ++ (wX5 T a8 z.2.2.2.2.2.2.2 ++ wX3 T a9 S9)))))))) else wX6 a0 a1 a3 a2 a4 a5 a6 a7 a8 a9 ++ (wX4 T a1 z.2.1 ++ (wX1 T a2 S2 ++ (wX1 T a3 z.2.2.1 ++ (wX0 T a4 z.2.2.2.1 ++ (wX5 T a5 z.2.2.2.2.1 ++ (wX5 T a6 z.2.2.2.2.2.1 ++ (wX5 T a7 z.2.2.2.2.2.2.1 ++ (wX5 T a8 z.2.2.2.2.2.2.2 ++ wX3 T a9 S9))))))))) C hr dX6_text_16 h rfl
  · refine z_iload_n C dX6_text_4 rfl 1 rfl 5 rfl ?_
    refine z_aload_n C dX6_text_5 rfl 0 rfl 6 rfl ?_
    refine z_get C (in_X6_text_X6) 0 rfl rfl 0 (by decide) (List.mem_of_getElem? (i := 1) rfl) rfl rfl dX6_text_6 9 rfl ?_
    refine z_get C (in_X6_text_X4) 1 rfl rfl 0 (by decide) (List.mem_of_getElem? (i := 2) rfl) rfl rfl dX6_text_9 12 rfl ?_
    refine z_icmp_le C 17 dX6_text_12 (by decide) 15 rfl h (fun h => ?_) (fun h => ?_)
    · refine z_aload_n C dX6_text_17 rfl 0 rfl 18 rfl ?_
      refine z_get C (in_X6_text_X6) 0 rfl rfl 0 (by decide) (List.mem_of_getElem? (i := 1) rfl) rfl rfl dX6_text_18 21 rfl ?_
      refine z_iload_n C dX6_text_21 rfl 1 rfl 22 rfl ?_
      refine z_aload_n C dX6_text_22 rfl 0 rfl 23 rfl ?_
      refine z_get C (in_X6_text_X6) 0 rfl rfl 2 (by decide) (List.mem_of_getElem? (i := 3) rfl) rfl rfl dX6_text_23 26 rfl ?_
      refine z_callWE C E (wX4 T a1 S1 ++ wX1 T a3 S3) (wX6 a0 a1 a2 a3 a4 a5 a6 a7 a8 a9 ++ (wX1 T a2 S2 ++ (wX0 T a4 S4 ++ (wX5 T a5 S5 ++ (wX5 T a6 S6 ++ (wX5 T a7 S7 ++ (wX5 T a8 S8 ++ wX3 T a9 S9))))))) (fun z => z.1) (fun z => wX4 T a1 z.2.1 ++ wX1 T a3 z.2.2) (fun z => wX6 a0 a1 a2 a3 a4 a5 a6 a7 a8 a9 ++ (wX4 T a1 z.2.1 ++ (wX1 T a2 S2 ++ (wX1 T a3 z.2.2 ++ (wX0 T a4 S4 ++ (wX5 T a5 S5 ++ (wX5 T a6 S6 ++ (wX5 T a7 S7 ++ (wX5 T a8 S8 ++ wX3 T a9 S9))))))))) (fun z h => c_X4_readText l D T adK adV a1 a3  S1 S3 v1 z h) ⟨rfl, rfl⟩ (z_cwV C 2 gX6_text_X4_readText rfl rfl dd_X4_readText ⟨(Nat.le_of_ble_eq_true rfl), (Nat.le_of_ble_eq_true rfl)⟩) (hD.zaddr rfl) [1, 2, 8, 9, 10, 11, 12] [0, 3, 4, 5, 6, 7, 13, 14, 15, 16, 17, 18, 19, 20, 21, 22, 23, 24, 25, 26, 27, 28, 29, 30, 31, 32, 33] [0, 27, 28, 1, 2, 3, 4, 5, 29, 30, 31, 32, 33, 6, 7, 8, 9, 10, 11, 12, 13, 14, 15, 16, 17, 18, 19, 20, 21, 22, 23, 24, 25, 26] rfl rfl rfl (by decide) (fun _ => rfl) ⟨a1 99, [.int v1, .ref (a3 99)], 3, 0, _, _, rfl, rfl, rfl, rfl, rfl⟩ rfl (Nat.le_of_ble_eq_true rfl) dX6_text_26 29 rfl h (fun r_1 h => ?_)
      refine z_istore_n C [(0, .ref (a0 99)), (1, .int v1), (2, .int r_1.1)] dX6_text_29 rfl (Nat.le_of_ble_eq_true rfl) [1, 2, 0] rfl 30 rfl ?_
      refine z_aload_n C dX6_text_30 rfl 0 rfl 31 rfl ?_
      refine z_get C (in_X6_text_X6) 0 rfl rfl 0 (by decide) (List.mem_of_getElem? (i := 1) rfl) rfl rfl dX6_text_31 34 rfl ?_
      refine z_iconst C 0 dX6_text_34 (by decide) 35 rfl ?_
      refine z_put (ty := .int) C (fun z => wX6 a0 a1 a2 a3 a4 a5 a6 a7 a8 a9 ++ (wX4 T a1 z ++ (wX1 T a2 S2 ++ (wX1 T a3 r_1.2.2 ++ (wX0 T a4 S4 ++ (wX5 T a5 S5 ++ (wX5 T a6 S6 ++ (wX5 T a7 S7 ++ (wX5 T a8 S8 ++ wX3 T a9 S9))))))))) r_1.2.1 (hD.zaddr rfl) (in_X6_text_X4) tyX4 tyX4_ok nmX4 1 rfl rfl 0 (by decide) (List.mem_of_getElem? (i := 2) rfl) rfl rfl (by decide +kernel) rfl rfl (Nat.le_of_ble_eq_true rfl) (zsetR (i := 0) rfl (zsetL rfl (Nat.le_of_ble_eq_true rfl))) dX6_text_35 38 rfl h (fun S1_2 h => ?_)
      refine z_iload_n C dX6_text_38 rfl 2 rfl 39 rfl ?_
      refine z_if_eq C 47 dX6_text_39 (by decide) 42 rfl h (fun h => ?_) (fun h => ?_)
      · refine z_aload_n C dX6_text_47 rfl 0 rfl 48 rfl ?_
        refine z_get C (in_X6_text_X6) 0 rfl rfl 2 (by decide) (List.mem_of_getElem? (i := 3) rfl) rfl rfl dX6_text_48 51 rfl ?_
        refine z_astore_n C [(0, .ref (a0 99)), (1, .int v1), (2, .int r_1.1), (3, .ref (a3 99))] dX6_text_51 rfl (Nat.le_of_ble_eq_true rfl) [1, 2, 3, 0] rfl 52 rfl ?_
        refine z_aload_n C dX6_text_52 rfl 0 rfl 53 rfl ?_
        refine z_aload_n C dX6_text_53 rfl 0 rfl 54 rfl ?_
        refine z_get C (in_X6_text_X6) 0 rfl rfl 1 (by decide) (List.mem_of_getElem? (i := 4) rfl) rfl rfl dX6_text_54 57 rfl ?_
        refine z_putR (E := "StreamTree$Chart") C (wX6 a0 a1 a2 a2 a4 a5 a6 a7 a8 a9 ++ (wX4 T a1 S1_2 ++ (wX1 T a2 S2 ++ (wX1 T a3 r_1.2.2 ++ (wX0 T a4 S4 ++ (wX5 T a5 S5 ++ (wX5 T a6 S6 ++ (wX5 T a7 S7 ++ (wX5 T a8 S8 ++ wX3 T a9 S9))))))))) (hD.zaddr rfl) (in_X6_text_X6) tyX6 tyX6_ok nmX6 0 rfl rfl 2 (by decide) (List.mem_of_getElem? (i := 3) rfl) rfl rfl (by decide +kernel) (Nat.le_of_ble_eq_true rfl) (zsetL rfl (Nat.le_of_ble_eq_true rfl)) dX6_text_57 60 rfl ?_
        refine z_aload_n C dX6_text_60 rfl 0 rfl 61 rfl ?_
        refine z_aload_n C dX6_text_61 rfl 3 rfl 62 rfl ?_
        refine z_putR (E := "StreamTree$Chart") C (wX6 a0 a1 a3 a2 a4 a5 a6 a7 a8 a9 ++ (wX4 T a1 S1_2 ++ (wX1 T a2 S2 ++ (wX1 T a3 r_1.2.2 ++ (wX0 T a4 S4 ++ (wX5 T a5 S5 ++ (wX5 T a6 S6 ++ (wX5 T a7 S7 ++ (wX5 T a8 S8 ++ wX3 T a9 S9))))))))) (hD.zaddr rfl) (in_X6_text_X6) tyX6 tyX6_ok nmX6 0 rfl rfl 1 (by decide) (List.mem_of_getElem? (i := 4) rfl) rfl rfl (by decide +kernel) (Nat.le_of_ble_eq_true rfl) (zsetL rfl (Nat.le_of_ble_eq_true rfl)) dX6_text_62 65 rfl ?_
        refine z_aload_n C dX6_text_65 rfl 0 rfl 66 rfl ?_
        refine z_callV C (wX6 a0 a1 a3 a2 a4 a5 a6 a7 a8 a9 ++ (wX4 T a1 S1_2 ++ (wX1 T a3 r_1.2.2 ++ (wX1 T a2 S2 ++ (wX0 T a4 S4 ++ (wX5 T a5 S5 ++ (wX5 T a6 S6 ++ (wX5 T a7 S7 ++ (wX5 T a8 S8 ++ wX3 T a9 S9))))))))) (([] : va_W)) (fun z => wX6 a0 a1 a3 a2 a4 a5 a6 a7 a8 a9 ++ (wX4 T a1 S1_2 ++ (wX1 T a3 r_1.2.2 ++ (wX1 T a2 S2 ++ (wX0 T a4 z.1 ++ (wX5 T a5 z.2.1 ++ (wX5 T a6 z.2.2.1 ++ (wX5 T a7 z.2.2.2.1 ++ (wX5 T a8 z.2.2.2.2 ++ wX3 T a9 S9))))))))) (fun z => wX6 a0 a1 a3 a2 a4 a5 a6 a7 a8 a9 ++ (wX4 T a1 S1_2 ++ (wX1 T a2 S2 ++ (wX1 T a3 r_1.2.2 ++ (wX0 T a4 z.1 ++ (wX5 T a5 z.2.1 ++ (wX5 T a6 z.2.2.1 ++ (wX5 T a7 z.2.2.2.1 ++ (wX5 T a8 z.2.2.2.2 ++ wX3 T a9 S9))))))))) (fun z h => c_X6_forgetDrawings l D T a0 a1 a3 a2 a4 a5 a6 a7 a8 a9  S1_2 r_1.2.2 S2 S4 S5 S6 S7 S8 S9  z h) ⟨rfl, rfl⟩ (z_cwV C 0 gX6_text_X6_forgetDrawings rfl rfl dd_X6_forgetDrawings ⟨(Nat.le_of_ble_eq_true rfl), (Nat.le_of_ble_eq_true rfl)⟩) (hD.zaddr rfl) [0, 1, 2, 8, 9, 10, 11, 12, 3, 4, 5, 6, 7, 13, 14, 15, 16, 17, 18, 19, 20, 21, 22, 23, 24, 25, 26, 27, 28, 29, 30, 31, 32, 33] [] [0, 1, 2, 8, 9, 10, 11, 12, 3, 4, 5, 6, 7, 13, 14, 15, 16, 17, 18, 19, 20, 21, 22, 23, 24, 25, 26, 27, 28, 29, 30, 31, 32, 33] rfl rfl rfl (by decide) (fun _ => rfl) (fun _ => ⟨a0 99, [], 5, 0, _, _, rfl, rfl, rfl, rfl, rfl⟩) (fun h => absurd rfl h) rfl (Nat.le_of_ble_eq_true rfl) dX6_text_66 69 rfl h (fun r_3 h => ?_)
        refine z_aload_n C dX6_text_69 rfl 0 rfl 70 rfl ?_
        refine z_get C (in_X6_text_X6) 0 rfl rfl 1 (by decide) (List.mem_of_getElem? (i := 4) rfl) rfl rfl dX6_text_70 73 rfl ?_
        refine z_get C (in_X6_text_X1) 8 rfl rfl 5 (by decide) (List.mem_of_getElem? (i := 5) rfl) rfl rfl dX6_text_73 76 rfl ?_
        exact z_iretW (x := (1, S1_2, r_1.2.2, r_3.1, r_3.2.1, r_3.2.2.1, r_3.2.2.2.1, r_3.2.2.2.2)) (ex := ex) (fun z => if z.1 = 0 then wX6 a0 a1 a2 a3 a4 a5 a6 a7 a8 a9 ++ (wX4 T a1 z.2.1 ++ (wX1 T a2 S2 ++ (wX1 T a3 z.2.2.1 ++ (wX0 T a4 z.2.2.2.1 ++ (wX5 T a5 z.2.2.2.2.1 ++ (wX5 T a6 z.2.2.2.2.2.1 ++ (wX5 T a7 z.2.2.2.2.2.2.1 ++ (wX5 T a8 z.2.2.2.2.2.2.2 ++ wX3 T a9 S9)))))))) else wX6 a0 a1 a3 a2 a4 a5 a6 a7 a8 a9 ++ (wX4 T a1 z.2.1 ++ (wX1 T a2 S2 ++ (wX1 T a3 z.2.2.1 ++ (wX0 T a4 z.2.2.2.1 ++ (wX5 T a5 z.2.2.2.2.1 ++ (wX5 T a6 z.2.2.2.2.2.1 ++ (wX5 T a7 z.2.2.2.2.2.2.1 ++ (wX5 T a8 z.2.2.2.2.2.2.2 ++ wX3 T a9 S9))))))))) C hr dX6_text_76 h rfl
      · refine z_bipush C (-2) dX6_text_42 (by decide) 44 rfl ?_
        refine z_iload_n C dX6_text_44 rfl 2 rfl 45 rfl ?_
        refine z_isub C dX6_text_45 46 rfl ?_
        exact z_iretW (x := (0, S1_2, r_1.2.2, S4, S5, S6, S7, S8)) (ex := ex) (fun z => if z.1 = 0 then wX6 a0 a1 a2 a3 a4 a5 a6 a7 a8 a9 ++ (wX4 T a1 z.2.1 ++ (wX1 T a2 S2 ++ (wX1 T a3 z.2.2.1 ++ (wX0 T a4 z.2.2.2.1 ++ (wX5 T a5 z.2.2.2.2.1 ++ (wX5 T a6 z.2.2.2.2.2.1 ++ (wX5 T a7 z.2.2.2.2.2.2.1 ++ (wX5 T a8 z.2.2.2.2.2.2.2 ++ wX3 T a9 S9)))))))) else wX6 a0 a1 a3 a2 a4 a5 a6 a7 a8 a9 ++ (wX4 T a1 z.2.1 ++ (wX1 T a2 S2 ++ (wX1 T a3 z.2.2.1 ++ (wX0 T a4 z.2.2.2.1 ++ (wX5 T a5 z.2.2.2.2.1 ++ (wX5 T a6 z.2.2.2.2.2.1 ++ (wX5 T a7 z.2.2.2.2.2.2.1 ++ (wX5 T a8 z.2.2.2.2.2.2.2 ++ wX3 T a9 S9))))))))) C hr dX6_text_46 h rfl
    · refine z_iconst C (-1) dX6_text_15 (by decide) 16 rfl ?_
      exact z_iretW (x := (0, S1, S3, S4, S5, S6, S7, S8)) (ex := ex) (fun z => if z.1 = 0 then wX6 a0 a1 a2 a3 a4 a5 a6 a7 a8 a9 ++ (wX4 T a1 z.2.1 ++ (wX1 T a2 S2 ++ (wX1 T a3 z.2.2.1 ++ (wX0 T a4 z.2.2.2.1 ++ (wX5 T a5 z.2.2.2.2.1 ++ (wX5 T a6 z.2.2.2.2.2.1 ++ (wX5 T a7 z.2.2.2.2.2.2.1 ++ (wX5 T a8 z.2.2.2.2.2.2.2 ++ wX3 T a9 S9)))))))) else wX6 a0 a1 a3 a2 a4 a5 a6 a7 a8 a9 ++ (wX4 T a1 z.2.1 ++ (wX1 T a2 S2 ++ (wX1 T a3 z.2.2.1 ++ (wX0 T a4 z.2.2.2.1 ++ (wX5 T a5 z.2.2.2.2.1 ++ (wX5 T a6 z.2.2.2.2.2.1 ++ (wX5 T a7 z.2.2.2.2.2.2.1 ++ (wX5 T a8 z.2.2.2.2.2.2.2 ++ wX3 T a9 S9))))))))) C hr dX6_text_16 h rfl

end
