/-! StreamTree$Tape.putNumber (I)V -/
section
variable {p : Program} {l : Launch} {e : Env} {R : Room} {s : State} {m : MethodId} {args : Array Value} {below : List Frame} {meth : Method} {c : Code} {Q : State → Prop} {A : Nat → Prop} {D : va_G} {T : Nat → ClassId} {a0 : Nat → Nat}
theorem in_X4_putNumber_X4 : ∀ w ∈ u_ws RX4 TX4 8, w ∈ wsX4_putNumber := fun _ h => (List.mem_cons_of_mem _ (List.mem_append_right _ h))
def f_X4_putNumber_L3b  (v1 : Int32) (rec : (Int32 × (Nat → Nat → Int32)) → Option ((Nat → Nat → Int32))) (a : Int32 × (Nat → Nat → Int32)) : Option ((Nat → Nat → Int32)) := if a.1 < 0 then (some a.2) else (if 500 ≤ (a.2 0 0) then (some a.2) else (zix (a.2 0 0) 500 fun j => zlet (zst a.2 1 j ((Int32.toUInt32 v1 >>> (Int32.toUInt32 a.1 &&& Int32.toUInt32 31)).toInt32 &&& 255)) fun S0_1 => zlet (zst S0_1 0 0 ((S0_1 0 0) + 1)) fun S0_2 => rec ((a.1 + (-8)), S0_2)))
def f_X4_putNumber_L3  (v1 : Int32) : Nat → (Int32 × (Nat → Nat → Int32)) → Option ((Nat → Nat → Int32)) := zloop (fun rec a => f_X4_putNumber_L3b v1 rec a)
set_option maxHeartbeats 4000000 in
set_option maxRecDepth 100000 in
theorem p_X4_putNumber_L3 (C : zC p R s m args meth c cX4_putNumber 3 RX4 wsX4_putNumber D T 0 0 0 0) (S0 : Nat → Nat → Int32) (v1 : Int32) (hD : va_D A (wX4 T a0 S0)) : ∀ (n : Nat) (c0 : Int32) (c1 : Nat → Nat → Int32) (b : (Nat → Nat → Int32)), f_X4_putNumber_L3 v1 n (c0, c1) = some b → (zt p l e R s m args below meth c 3 A D 0 0 Q (wX4 T a0 b) [] 49 []) → zt p l e R s m args below meth c 3 A D 0 0 Q (wX4 T a0 c1) [(0, .ref (a0 99)), (1, .int v1), (2, .int c0)] 3 [] := by
  intro n c0 c1 b h K
  refine zloop_ind (P := fun a b => (zt p l e R s m args below meth c 3 A D 0 0 Q (wX4 T a0 b) [] 49 []) → zt p l e R s m args below meth c 3 A D 0 0 Q (wX4 T a0 a.2) [(0, .ref (a0 99)), (1, .int v1), (2, .int a.1)] 3 []) ?_ n (c0, c1) b h K
  clear h K b c0 c1
  intro rec hrec a b h K
  have hrec : ∀ (c0 : Int32) (c1 : Nat → Nat → Int32) (b : (Nat → Nat → Int32)), rec (c0, c1) = some b → (zt p l e R s m args below meth c 3 A D 0 0 Q (wX4 T a0 b) [] 49 []) → zt p l e R s m args below meth c 3 A D 0 0 Q (wX4 T a0 c1) [(0, .ref (a0 99)), (1, .int v1), (2, .int c0)] 3 [] := fun c0 c1 b h K => hrec (c0, c1) b h K
  unfold f_X4_putNumber_L3b at h
  refine z_iload_n C dX4_putNumber_3 rfl 2 rfl 4 rfl ?_
  refine z_if_lt C 49 dX4_putNumber_4 (by decide) 7 rfl h (fun h => ?_) (fun h => ?_)
  · refine z_locals (ks := []) (lv' := []) rfl ?_
    exact zex1 (F := (fun e0 => zt p l e R s m args below meth c 3 A D 0 0 Q (wX4 T a0 e0) [] 49 [])) h K
  · refine z_aload_n C dX4_putNumber_7 rfl 0 rfl 8 rfl ?_
    refine z_get C (in_X4_putNumber_X4) 0 rfl rfl 0 (by decide) (List.mem_of_getElem? (i := 1) rfl) rfl rfl dX4_putNumber_8 11 rfl ?_
    refine z_sipush C 500 dX4_putNumber_11 (by decide) 14 rfl ?_
    refine z_icmp_ge C 49 dX4_putNumber_14 (by decide) 17 rfl h (fun h => ?_) (fun h => ?_)
    · refine z_locals (ks := []) (lv' := []) rfl ?_
      exact zex1 (F := (fun e0 => zt p l e R s m args below meth c 3 A D 0 0 Q (wX4 T a0 e0) [] 49 [])) h K
    · refine z_aload_n C dX4_putNumber_17 rfl 0 rfl 18 rfl ?_
      refine z_get C (in_X4_putNumber_X4) 0 rfl rfl 1 (by decide) (List.mem_of_getElem? (i := 2) rfl) rfl rfl dX4_putNumber_18 21 rfl ?_
      refine z_aload_n C dX4_putNumber_21 rfl 0 rfl 22 rfl ?_
      refine z_get C (in_X4_putNumber_X4) 0 rfl rfl 0 (by decide) (List.mem_of_getElem? (i := 1) rfl) rfl rfl dX4_putNumber_22 25 rfl ?_
      refine z_iload_n C dX4_putNumber_25 rfl 1 rfl 26 rfl ?_
      refine z_iload_n C dX4_putNumber_26 rfl 2 rfl 27 rfl ?_
      refine z_iushr C dX4_putNumber_27 28 rfl ?_
      refine z_sipush C 255 dX4_putNumber_28 (by decide) 31 rfl ?_
      refine z_iand C dX4_putNumber_31 32 rfl ?_
      refine z_iast C (fun z => wX4 T a0 z) a.2 1 (hD.zaddr rfl) 1 rfl rfl (fun _ => rfl) dX4_putNumber_32 33 rfl h (fun S0_1 h => ?_)
      refine z_aload_n C dX4_putNumber_33 rfl 0 rfl 34 rfl ?_
      refine z_dup C dX4_putNumber_34 rfl 35 rfl ?_
      refine z_get C (in_X4_putNumber_X4) 0 rfl rfl 0 (by decide) (List.mem_of_getElem? (i := 1) rfl) rfl rfl dX4_putNumber_35 38 rfl ?_
      refine z_iconst C 1 dX4_putNumber_38 (by decide) 39 rfl ?_
      refine z_iadd C dX4_putNumber_39 40 rfl ?_
      refine z_put (ty := .int) C (fun z => wX4 T a0 z) S0_1 (hD.zaddr rfl) (in_X4_putNumber_X4) tyX4 tyX4_ok nmX4 0 rfl rfl 0 (by decide) (List.mem_of_getElem? (i := 1) rfl) rfl rfl (by decide +kernel) rfl rfl (Nat.le_of_ble_eq_true rfl) rfl dX4_putNumber_40 43 rfl h (fun S0_2 h => ?_)
      refine z_iinc C (a.1 + (-8)) [(0, .ref (a0 99)), (1, .int v1), (2, .int (a.1 + (-8)))] dX4_putNumber_43 2 rfl rfl (Nat.le_of_ble_eq_true rfl) [1, 2, 0] rfl 46 rfl ?_
      refine z_goto C 3 dX4_putNumber_46 (by decide) ?_
      exact z_locals (ks := [0, 1, 2]) rfl (hrec _ _ _ h K)

def f_X4_putNumber (S0 : Nat → Nat → Int32) (v1 : Int32) : Option ((Nat → Nat → Int32)) := (f_X4_putNumber_L3 v1 zfuel (24, S0)).bind fun y_3 => some y_3
theorem dd_X4_putNumber : RX4 ≠ "java/lang/invoke/MethodHandle" ∧ RX4 ≠ "java/lang/invoke/VarHandle" ∧ (parseMethodDescriptor yX4_putNumber.desc).map (fun d => d.parameters.length) = some 1 := by decide +kernel
set_option maxHeartbeats 4000000 in
set_option maxRecDepth 100000 in
theorem c_X4_putNumber (l : Launch) (D : va_G) (T : Nat → ClassId) (a0 : Nat → Nat) (S0 : Nat → Nat → Int32) (v1 : Int32) (ex : (Nat → Nat → Int32)) (h : f_X4_putNumber S0 v1 = some ex) : zWV l yX4_putNumber wsX4_putNumber ({ frames := 0, cells := 0, slots := 0, locals := 0 } : Room) D T [.ref (a0 99), .int v1] (wX4 T a0 S0) (wX4 T a0 ex) := by
  refine z_begin (cc := cX4_putNumber) (nL := 3) (own := RX4) (fr := 0) (lc := 0) (ret := none) (by decide) rfl (Nat.le_of_ble_eq_true rfl) (zA (wX4 T a0 S0)) rfl [(0, .ref (a0 99)), (1, .int v1)] rfl ⟨rfl, rfl⟩ rfl ?_
  intro p e s m args below meth c C hr hD
  have hD := hD.zself
  unfold f_X4_putNumber at h
  refine z_bipush C 24 dX4_putNumber_0 (by decide) 2 rfl ?_
  refine z_istore_n C [(0, .ref (a0 99)), (1, .int v1), (2, .int 24)] dX4_putNumber_2 rfl (Nat.le_of_ble_eq_true rfl) [1, 2, 0] rfl 3 rfl ?_
  obtain ⟨y_3, hl_y_3, h⟩ := Option.bind_eq_some_iff.mp h
  refine z_locals (ks := [0, 1, 2]) rfl (p_X4_putNumber_L3 C S0 v1 (hD.zaddr rfl) _ _ _ _ hl_y_3 ?_)
  exact z_vretW (x := y_3) (ex := ex) (fun z => wX4 T a0 z) C hr dX4_putNumber_49 h rfl

end
/-! StreamTree$Tape.fail (I)V -/
section
variable {p : Program} {l : Launch} {e : Env} {R : Room} {s : State} {m : MethodId} {args : Array Value} {below : List Frame} {meth : Method} {c : Code} {Q : State → Prop} {A : Nat → Prop} {D : va_G} {T : Nat → ClassId} {a0 : Nat → Nat}
theorem in_X4_fail_X4 : ∀ w ∈ u_ws RX4 TX4 8, w ∈ wsX4_fail := fun _ h => (List.mem_cons_of_mem _ (List.mem_append_right _ h))
def f_X4_fail (S0 : Nat → Nat → Int32) (v1 : Int32) : Option ((Nat → Nat → Int32)) := if (S0 7 0) = 0 then (zlet (zst S0 7 0 ((8 * (S0 5 0)) + v1)) fun S0_1 => some S0_1) else (some S0)
theorem dd_X4_fail : RX4 ≠ "java/lang/invoke/MethodHandle" ∧ RX4 ≠ "java/lang/invoke/VarHandle" ∧ (parseMethodDescriptor yX4_fail.desc).map (fun d => d.parameters.length) = some 1 := by decide +kernel
set_option maxHeartbeats 4000000 in
set_option maxRecDepth 100000 in
theorem c_X4_fail (l : Launch) (D : va_G) (T : Nat → ClassId) (a0 : Nat → Nat) (S0 : Nat → Nat → Int32) (v1 : Int32) (ex : (Nat → Nat → Int32)) (h : f_X4_fail S0 v1 = some ex) : zWV l yX4_fail wsX4_fail ({ frames := 0, cells := 0, slots := 0, locals := 0 } : Room) D T [.ref (a0 99), .int v1] (wX4 T a0 S0) (wX4 T a0 ex) := by
  refine z_begin (cc := cX4_fail) (nL := 2) (own := RX4) (fr := 0) (lc := 0) (ret := none) (by decide) rfl (Nat.le_of_ble_eq_true rfl) (zA (wX4 T a0 S0)) rfl [(0, .ref (a0 99)), (1, .int v1)] rfl ⟨rfl, rfl⟩ rfl ?_
  intro p e s m args below meth c C hr hD
  have hD := hD.zself
  unfold f_X4_fail at h
  refine z_aload_n C dX4_fail_0 rfl 0 rfl 1 rfl ?_
  refine z_get C (in_X4_fail_X4) 0 rfl rfl 7 (by decide) (List.mem_of_getElem? (i := 1) rfl) rfl rfl dX4_fail_1 4 rfl ?_
  refine z_if_ne C 20 dX4_fail_4 (by decide) 7 rfl h (fun h => ?_) (fun h => ?_)
  · exact z_vretW (x := S0) (ex := ex) (fun z => wX4 T a0 z) C hr dX4_fail_20 h rfl
  · refine z_aload_n C dX4_fail_7 rfl 0 rfl 8 rfl ?_
    refine z_bipush C 8 dX4_fail_8 (by decide) 10 rfl ?_
    refine z_aload_n C dX4_fail_10 rfl 0 rfl 11 rfl ?_
    refine z_get C (in_X4_fail_X4) 0 rfl rfl 5 (by decide) (List.mem_of_getElem? (i := 2) rfl) rfl rfl dX4_fail_11 14 rfl ?_
    refine z_imul C dX4_fail_14 15 rfl ?_
    refine z_iload_n C dX4_fail_15 rfl 1 rfl 16 rfl ?_
    refine z_iadd C dX4_fail_16 17 rfl ?_
    refine z_put (ty := .int) C (fun z => wX4 T a0 z) S0 (hD.zaddr rfl) (in_X4_fail_X4) tyX4 tyX4_ok nmX4 0 rfl rfl 7 (by decide) (List.mem_of_getElem? (i := 1) rfl) rfl rfl (by decide +kernel) rfl rfl (Nat.le_of_ble_eq_true rfl) rfl dX4_fail_17 20 rfl h (fun S0_1 h => ?_)
    exact z_vretW (x := S0_1) (ex := ex) (fun z => wX4 T a0 z) C hr dX4_fail_20 h rfl

end
/-! StreamTree$Tape.kindOf (I)I -/
section
variable {p : Program} {l : Launch} {e : Env} {R : Room} {s : State} {m : MethodId} {args : Array Value} {below : List Frame} {meth : Method} {c : Code} {Q : State → Prop} {A : Nat → Prop} {D : va_G} {T : Nat → ClassId} 
def f_X4_kindOf_J28  (x0 : Int32)  : Option (Int32) := if x0 = 59 then (some 3) else (some 4)
set_option maxHeartbeats 4000000 in
set_option maxRecDepth 100000 in
theorem p_X4_kindOf_J28 (C : zC p R s m args meth c cX4_kindOf 1 RX4 wsX4_kindOf D T 0 0 0 0) (hr : meth.sig.returnType = some .int)  (x0 : Int32)  (hD : va_D (fun _ => True) ([])) {ex : Int32} (h : f_X4_kindOf_J28 x0 = some ex) : zt p l e R s m args below meth c 1 (fun _ => False) D 0 0 (MQ below (zQI ex) args s 0 0 (fun _ => False)) ([]) [(0, .int x0)] 28 [] := by
  unfold f_X4_kindOf_J28 at h
  refine z_iload_n C dX4_kindOf_28 rfl 0 rfl 29 rfl ?_
  refine z_bipush C 59 dX4_kindOf_29 (by decide) 31 rfl ?_
  refine z_icmp_ne C 38 dX4_kindOf_31 (by decide) 34 rfl h (fun h => ?_) (fun h => ?_)
  · refine z_iconst C 4 dX4_kindOf_38 (by decide) 39 rfl ?_
    exact z_iretR C hr dX4_kindOf_39 h
  · refine z_iconst C 3 dX4_kindOf_34 (by decide) 35 rfl ?_
    refine z_goto C 39 dX4_kindOf_35 (by decide) ?_
    exact z_iretR C hr dX4_kindOf_39 h

def f_X4_kindOf_J14  (x0 : Int32)  : Option (Int32) := if x0 < 48 then (f_X4_kindOf_J28 x0) else (if 57 < x0 then (f_X4_kindOf_J28 x0) else (some 2))
set_option maxHeartbeats 4000000 in
set_option maxRecDepth 100000 in
theorem p_X4_kindOf_J14 (C : zC p R s m args meth c cX4_kindOf 1 RX4 wsX4_kindOf D T 0 0 0 0) (hr : meth.sig.returnType = some .int)  (x0 : Int32)  (hD : va_D (fun _ => True) ([])) {ex : Int32} (h : f_X4_kindOf_J14 x0 = some ex) : zt p l e R s m args below meth c 1 (fun _ => False) D 0 0 (MQ below (zQI ex) args s 0 0 (fun _ => False)) ([]) [(0, .int x0)] 14 [] := by
  unfold f_X4_kindOf_J14 at h
  refine z_iload_n C dX4_kindOf_14 rfl 0 rfl 15 rfl ?_
  refine z_bipush C 48 dX4_kindOf_15 (by decide) 17 rfl ?_
  refine z_icmp_lt C 28 dX4_kindOf_17 (by decide) 20 rfl h (fun h => ?_) (fun h => ?_)
  · exact z_locals (ks := [0]) rfl (p_X4_kindOf_J28 C hr x0 (hD.zaddr rfl) h)
  · refine z_iload_n C dX4_kindOf_20 rfl 0 rfl 21 rfl ?_
    refine z_bipush C 57 dX4_kindOf_21 (by decide) 23 rfl ?_
    refine z_icmp_gt C 28 dX4_kindOf_23 (by decide) 26 rfl h (fun h => ?_) (fun h => ?_)
    · exact z_locals (ks := [0]) rfl (p_X4_kindOf_J28 C hr x0 (hD.zaddr rfl) h)
    · refine z_iconst C 2 dX4_kindOf_26 (by decide) 27 rfl ?_
      exact z_iretR C hr dX4_kindOf_27 h

def f_X4_kindOf  (v0 : Int32) : Option (Int32) := if v0 < 97 then (f_X4_kindOf_J14 v0) else (if 122 < v0 then (f_X4_kindOf_J14 v0) else (some 1))
theorem dd_X4_kindOf : RX4 ≠ "java/lang/invoke/MethodHandle" ∧ RX4 ≠ "java/lang/invoke/VarHandle" ∧ (parseMethodDescriptor yX4_kindOf.desc).map (fun d => d.parameters.length) = some 1 := by decide +kernel
set_option maxHeartbeats 4000000 in
set_option maxRecDepth 100000 in
theorem c_X4_kindOf (l : Launch) (D : va_G) (T : Nat → ClassId)   (v0 : Int32) (ex : Int32) (h : f_X4_kindOf v0 = some ex) : zRI l yX4_kindOf wsX4_kindOf ({ frames := 0, cells := 0, slots := 0, locals := 0 } : Room) D T [.int v0] ([]) ex := by
  refine z_begin (cc := cX4_kindOf) (nL := 1) (own := RX4) (fr := 0) (lc := 0) (ret := some .int) (by decide) rfl (Nat.le_of_ble_eq_true rfl) (fun _ => False) rfl [(0, .int v0)] rfl ⟨rfl, rfl⟩ rfl ?_
  intro p e s m args below meth c C hr hD
  unfold f_X4_kindOf at h
  refine z_iload_n C dX4_kindOf_0 rfl 0 rfl 1 rfl ?_
  refine z_bipush C 97 dX4_kindOf_1 (by decide) 3 rfl ?_
  refine z_icmp_lt C 14 dX4_kindOf_3 (by decide) 6 rfl h (fun h => ?_) (fun h => ?_)
  · exact z_locals (ks := [0]) rfl (p_X4_kindOf_J14 C hr v0 (hD.zaddr rfl) h)
  · refine z_iload_n C dX4_kindOf_6 rfl 0 rfl 7 rfl ?_
    refine z_bipush C 122 dX4_kindOf_7 (by decide) 9 rfl ?_
    refine z_icmp_gt C 14 dX4_kindOf_9 (by decide) 12 rfl h (fun h => ?_) (fun h => ?_)
    · exact z_locals (ks := [0]) rfl (p_X4_kindOf_J14 C hr v0 (hD.zaddr rfl) h)
    · refine z_iconst C 1 dX4_kindOf_12 (by decide) 13 rfl ?_
      exact z_iretR C hr dX4_kindOf_13 h

end
/-! StreamTree$Tape.readToken ()V -/
section
variable {p : Program} {l : Launch} {e : Env} {R : Room} {s : State} {m : MethodId} {args : Array Value} {below : List Frame} {meth : Method} {c : Code} {Q : State → Prop} {A : Nat → Prop} {D : va_G} {T : Nat → ClassId} {a0 : Nat → Nat}
theorem in_X4_readToken_X4 : ∀ w ∈ u_ws RX4 TX4 8, w ∈ wsX4_readToken := fun _ h => (List.mem_cons_of_mem _ (List.mem_append_right _ h))
def f_X4_readToken_J39 (rec : ((Nat → Nat → Int32)) → Option ((Nat → Nat → Int32))) (S0 : Nat → Nat → Int32)   : Option ((Nat → Nat → Int32)) := zlet (zst S0 3 0 ((S0 3 0) + 1)) fun S0_1 => rec S0_1
set_option maxHeartbeats 4000000 in
set_option maxRecDepth 100000 in
theorem p_X4_readToken_J39 (C : zC p R s m args meth c cX4_readToken 2 RX4 wsX4_readToken D T 1 20 0 0) (S0 : Nat → Nat → Int32)    (hD : va_D A (wX4 T a0 S0)) {rec : ((Nat → Nat → Int32)) → Option ((Nat → Nat → Int32))} (hrec : ∀ (c0 : Nat → Nat → Int32) (b : (Nat → Nat → Int32)), rec c0 = some b → (zt p l e R s m args below meth c 2 A D 0 0 Q (wX4 T a0 b) [(0, .ref (a0 99))] 52 []) → zt p l e R s m args below meth c 2 A D 0 0 Q (wX4 T a0 c0) [(0, .ref (a0 99))] 0 []) {b : (Nat → Nat → Int32)} (K : zt p l e R s m args below meth c 2 A D 0 0 Q (wX4 T a0 b) [(0, .ref (a0 99))] 52 []) (h : f_X4_readToken_J39 rec S0 = some b) : zt p l e R s m args below meth c 2 A D 0 0 Q (wX4 T a0 S0) [(0, .ref (a0 99))] 39 [] := by
  unfold f_X4_readToken_J39 at h
  refine z_aload_n C dX4_readToken_39 rfl 0 rfl 40 rfl ?_
  refine z_dup C dX4_readToken_40 rfl 41 rfl ?_
  refine z_get C (in_X4_readToken_X4) 0 rfl rfl 3 (by decide) (List.mem_of_getElem? (i := 1) rfl) rfl rfl dX4_readToken_41 44 rfl ?_
  refine z_iconst C 1 dX4_readToken_44 (by decide) 45 rfl ?_
  refine z_iadd C dX4_readToken_45 46 rfl ?_
  refine z_put (ty := .int) C (fun z => wX4 T a0 z) S0 (hD.zaddr rfl) (in_X4_readToken_X4) tyX4 tyX4_ok nmX4 0 rfl rfl 3 (by decide) (List.mem_of_getElem? (i := 1) rfl) rfl rfl (by decide +kernel) rfl rfl (Nat.le_of_ble_eq_true rfl) rfl dX4_readToken_46 49 rfl h (fun S0_1 h => ?_)
  refine z_goto C 0 dX4_readToken_49 (by decide) ?_
  exact z_locals (ks := [0]) rfl (hrec _ _ h K)

def f_X4_readToken_L0b   (rec : ((Nat → Nat → Int32)) → Option ((Nat → Nat → Int32))) (a : (Nat → Nat → Int32)) : Option ((Nat → Nat → Int32)) := if (a 2 0) ≤ (a 3 0) then (some a) else (zix (a 3 0) 500 fun _ => if (a 1 (Int32.toNatClampNeg (a 3 0))) = 32 then (f_X4_readToken_J39 rec a) else (zix (a 3 0) 500 fun _ => if (a 1 (Int32.toNatClampNeg (a 3 0))) = 10 then (f_X4_readToken_J39 rec a) else (some a)))
def f_X4_readToken_L0   : Nat → ((Nat → Nat → Int32)) → Option ((Nat → Nat → Int32)) := zloop (fun rec a => f_X4_readToken_L0b  rec a)
set_option maxHeartbeats 4000000 in
set_option maxRecDepth 100000 in
theorem p_X4_readToken_L0 (C : zC p R s m args meth c cX4_readToken 2 RX4 wsX4_readToken D T 1 20 0 0) (S0 : Nat → Nat → Int32)  (hD : va_D A (wX4 T a0 S0)) : ∀ (n : Nat) (c0 : Nat → Nat → Int32) (b : (Nat → Nat → Int32)), f_X4_readToken_L0  n c0 = some b → (zt p l e R s m args below meth c 2 A D 0 0 Q (wX4 T a0 b) [(0, .ref (a0 99))] 52 []) → zt p l e R s m args below meth c 2 A D 0 0 Q (wX4 T a0 c0) [(0, .ref (a0 99))] 0 [] := by
  intro n c0 b h K
  refine zloop_ind (P := fun a b => (zt p l e R s m args below meth c 2 A D 0 0 Q (wX4 T a0 b) [(0, .ref (a0 99))] 52 []) → zt p l e R s m args below meth c 2 A D 0 0 Q (wX4 T a0 a) [(0, .ref (a0 99))] 0 []) ?_ n c0 b h K
  clear h K b c0
  intro rec hrec a b h K
  have hrec : ∀ (c0 : Nat → Nat → Int32) (b : (Nat → Nat → Int32)), rec c0 = some b → (zt p l e R s m args below meth c 2 A D 0 0 Q (wX4 T a0 b) [(0, .ref (a0 99))] 52 []) → zt p l e R s m args below meth c 2 A D 0 0 Q (wX4 T a0 c0) [(0, .ref (a0 99))] 0 [] := fun c0 b h K => hrec c0 b h K
  unfold f_X4_readToken_L0b at h
  refine z_aload_n C dX4_readToken_0 rfl 0 rfl 1 rfl ?_
  refine z_get C (in_X4_readToken_X4) 0 rfl rfl 3 (by decide) (List.mem_of_getElem? (i := 1) rfl) rfl rfl dX4_readToken_1 4 rfl ?_
  refine z_aload_n C dX4_readToken_4 rfl 0 rfl 5 rfl ?_
  refine z_get C (in_X4_readToken_X4) 0 rfl rfl 2 (by decide) (List.mem_of_getElem? (i := 2) rfl) rfl rfl dX4_readToken_5 8 rfl ?_
  refine z_icmp_ge C 52 dX4_readToken_8 (by decide) 11 rfl h (fun h => ?_) (fun h => ?_)
  · refine z_locals (ks := [0]) (lv' := [(0, .ref (a0 99))]) rfl ?_
    exact zex1 (F := (fun e0 => zt p l e R s m args below meth c 2 A D 0 0 Q (wX4 T a0 e0) [(0, .ref (a0 99))] 52 [])) h K
  · refine z_aload_n C dX4_readToken_11 rfl 0 rfl 12 rfl ?_
    refine z_get C (in_X4_readToken_X4) 0 rfl rfl 1 (by decide) (List.mem_of_getElem? (i := 3) rfl) rfl rfl dX4_readToken_12 15 rfl ?_
    refine z_aload_n C dX4_readToken_15 rfl 0 rfl 16 rfl ?_
    refine z_get C (in_X4_readToken_X4) 0 rfl rfl 3 (by decide) (List.mem_of_getElem? (i := 1) rfl) rfl rfl dX4_readToken_16 19 rfl ?_
    refine z_iald C 1 rfl rfl dX4_readToken_19 20 rfl h (fun h => ?_)
    refine z_bipush C 32 dX4_readToken_20 (by decide) 22 rfl ?_
    refine z_icmp_eq C 39 dX4_readToken_22 (by decide) 25 rfl h (fun h => ?_) (fun h => ?_)
    · exact z_locals (ks := [0]) rfl (p_X4_readToken_J39 C a (hD.zaddr rfl) hrec K h)
    · refine z_aload_n C dX4_readToken_25 rfl 0 rfl 26 rfl ?_
      refine z_get C (in_X4_readToken_X4) 0 rfl rfl 1 (by decide) (List.mem_of_getElem? (i := 3) rfl) rfl rfl dX4_readToken_26 29 rfl ?_
      refine z_aload_n C dX4_readToken_29 rfl 0 rfl 30 rfl ?_
      refine z_get C (in_X4_readToken_X4) 0 rfl rfl 3 (by decide) (List.mem_of_getElem? (i := 1) rfl) rfl rfl dX4_readToken_30 33 rfl ?_
      refine z_iald C 1 rfl rfl dX4_readToken_33 34 rfl h (fun h => ?_)
      refine z_bipush C 10 dX4_readToken_34 (by decide) 36 rfl ?_
      refine z_icmp_ne C 52 dX4_readToken_36 (by decide) 39 rfl h (fun h => ?_) (fun h => ?_)
      · refine z_locals (ks := [0]) (lv' := [(0, .ref (a0 99))]) rfl ?_
        exact zex1 (F := (fun e0 => zt p l e R s m args below meth c 2 A D 0 0 Q (wX4 T a0 e0) [(0, .ref (a0 99))] 52 [])) h K
      · exact z_locals (ks := [0]) rfl (p_X4_readToken_J39 C a (hD.zaddr rfl) hrec K h)

def f_X4_readToken_J197 (rec : ((Nat → Nat → Int32)) → Option ((Nat → Nat → Int32))) (S0 : Nat → Nat → Int32) (v1 : Int32)  : Option ((Nat → Nat → Int32)) := zlet (zst S0 3 0 ((S0 3 0) + 1)) fun S0_7 => rec S0_7
set_option maxHeartbeats 4000000 in
set_option maxRecDepth 100000 in
theorem p_X4_readToken_J197 (C : zC p R s m args meth c cX4_readToken 2 RX4 wsX4_readToken D T 1 20 0 0) (S0 : Nat → Nat → Int32) {v1 : Int32}   (hD : va_D A (wX4 T a0 S0)) {rec : ((Nat → Nat → Int32)) → Option ((Nat → Nat → Int32))} (hrec : ∀ (c0 : Nat → Nat → Int32) (b : (Nat → Nat → Int32)), rec c0 = some b → (zt p l e R s m args below meth c 2 A D 0 0 Q (wX4 T a0 b) [(0, .ref (a0 99))] 210 []) → zt p l e R s m args below meth c 2 A D 0 0 Q (wX4 T a0 c0) [(0, .ref (a0 99)), (1, .int v1)] 118 []) {b : (Nat → Nat → Int32)} (K : zt p l e R s m args below meth c 2 A D 0 0 Q (wX4 T a0 b) [(0, .ref (a0 99))] 210 []) (h : f_X4_readToken_J197 rec S0 v1 = some b) : zt p l e R s m args below meth c 2 A D 0 0 Q (wX4 T a0 S0) [(0, .ref (a0 99)), (1, .int v1)] 197 [] := by
  unfold f_X4_readToken_J197 at h
  refine z_aload_n C dX4_readToken_197 rfl 0 rfl 198 rfl ?_
  refine z_dup C dX4_readToken_198 rfl 199 rfl ?_
  refine z_get C (in_X4_readToken_X4) 0 rfl rfl 3 (by decide) (List.mem_of_getElem? (i := 1) rfl) rfl rfl dX4_readToken_199 202 rfl ?_
  refine z_iconst C 1 dX4_readToken_202 (by decide) 203 rfl ?_
  refine z_iadd C dX4_readToken_203 204 rfl ?_
  refine z_put (ty := .int) C (fun z => wX4 T a0 z) S0 (hD.zaddr rfl) (in_X4_readToken_X4) tyX4 tyX4_ok nmX4 0 rfl rfl 3 (by decide) (List.mem_of_getElem? (i := 1) rfl) rfl rfl (by decide +kernel) rfl rfl (Nat.le_of_ble_eq_true rfl) rfl dX4_readToken_204 207 rfl h (fun S0_7 h => ?_)
  refine z_goto C 118 dX4_readToken_207 (by decide) ?_
  exact z_locals (ks := [0, 1]) rfl (hrec _ _ h K)

def f_X4_readToken_L118b  (v1 : Int32) (rec : ((Nat → Nat → Int32)) → Option ((Nat → Nat → Int32))) (a : (Nat → Nat → Int32)) : Option ((Nat → Nat → Int32)) := if v1 = 0 then (some a) else (if (a 2 0) ≤ (a 3 0) then (some a) else (zix (a 3 0) 500 fun _ => (f_X4_kindOf (a 1 (Int32.toNatClampNeg (a 3 0)))).bind fun r_6 => if r_6 = (a 4 0) then (if (a 4 0) = 2 then (if 3 ≤ ((a 3 0) - (a 5 0)) then (f_X4_readToken_J197 rec a v1) else (zix (a 3 0) 500 fun _ => zlet (zst a 6 0 (((10 * (a 6 0)) + (a 1 (Int32.toNatClampNeg (a 3 0)))) - 48)) fun S0_8 => f_X4_readToken_J197 rec S0_8 v1)) else (f_X4_readToken_J197 rec a v1)) else (some a)))
def f_X4_readToken_L118  (v1 : Int32) : Nat → ((Nat → Nat → Int32)) → Option ((Nat → Nat → Int32)) := zloop (fun rec a => f_X4_readToken_L118b v1 rec a)
set_option maxHeartbeats 4000000 in
set_option maxRecDepth 100000 in
theorem p_X4_readToken_L118 (C : zC p R s m args meth c cX4_readToken 2 RX4 wsX4_readToken D T 1 20 0 0) (S0 : Nat → Nat → Int32) (v1 : Int32) (hD : va_D A (wX4 T a0 S0)) : ∀ (n : Nat) (c0 : Nat → Nat → Int32) (b : (Nat → Nat → Int32)), f_X4_readToken_L118 v1 n c0 = some b → (zt p l e R s m args below meth c 2 A D 0 0 Q (wX4 T a0 b) [(0, .ref (a0 99))] 210 []) → zt p l e R s m args below meth c 2 A D 0 0 Q (wX4 T a0 c0) [(0, .ref (a0 99)), (1, .int v1)] 118 [] := by
  intro n c0 b h K
  refine zloop_ind (P := fun a b => (zt p l e R s m args below meth c 2 A D 0 0 Q (wX4 T a0 b) [(0, .ref (a0 99))] 210 []) → zt p l e R s m args below meth c 2 A D 0 0 Q (wX4 T a0 a) [(0, .ref (a0 99)), (1, .int v1)] 118 []) ?_ n c0 b h K
  clear h K b c0
  intro rec hrec a b h K
  have hrec : ∀ (c0 : Nat → Nat → Int32) (b : (Nat → Nat → Int32)), rec c0 = some b → (zt p l e R s m args below meth c 2 A D 0 0 Q (wX4 T a0 b) [(0, .ref (a0 99))] 210 []) → zt p l e R s m args below meth c 2 A D 0 0 Q (wX4 T a0 c0) [(0, .ref (a0 99)), (1, .int v1)] 118 [] := fun c0 b h K => hrec c0 b h K
  unfold f_X4_readToken_L118b at h
  refine z_iload_n C dX4_readToken_118 rfl 1 rfl 119 rfl ?_
  refine z_if_eq C 210 dX4_readToken_119 (by decide) 122 rfl h (fun h => ?_) (fun h => ?_)
  · refine z_locals (ks := [0]) (lv' := [(0, .ref (a0 99))]) rfl ?_
    exact zex1 (F := (fun e0 => zt p l e R s m args below meth c 2 A D 0 0 Q (wX4 T a0 e0) [(0, .ref (a0 99))] 210 [])) h K
  · refine z_aload_n C dX4_readToken_122 rfl 0 rfl 123 rfl ?_
    refine z_get C (in_X4_readToken_X4) 0 rfl rfl 3 (by decide) (List.mem_of_getElem? (i := 1) rfl) rfl rfl dX4_readToken_123 126 rfl ?_
    refine z_aload_n C dX4_readToken_126 rfl 0 rfl 127 rfl ?_
    refine z_get C (in_X4_readToken_X4) 0 rfl rfl 2 (by decide) (List.mem_of_getElem? (i := 2) rfl) rfl rfl dX4_readToken_127 130 rfl ?_
    refine z_icmp_ge C 210 dX4_readToken_130 (by decide) 133 rfl h (fun h => ?_) (fun h => ?_)
    · refine z_locals (ks := [0]) (lv' := [(0, .ref (a0 99))]) rfl ?_
      exact zex1 (F := (fun e0 => zt p l e R s m args below meth c 2 A D 0 0 Q (wX4 T a0 e0) [(0, .ref (a0 99))] 210 [])) h K
    · refine z_aload_n C dX4_readToken_133 rfl 0 rfl 134 rfl ?_
      refine z_get C (in_X4_readToken_X4) 0 rfl rfl 1 (by decide) (List.mem_of_getElem? (i := 3) rfl) rfl rfl dX4_readToken_134 137 rfl ?_
      refine z_aload_n C dX4_readToken_137 rfl 0 rfl 138 rfl ?_
      refine z_get C (in_X4_readToken_X4) 0 rfl rfl 3 (by decide) (List.mem_of_getElem? (i := 1) rfl) rfl rfl dX4_readToken_138 141 rfl ?_
      refine z_iald C 1 rfl rfl dX4_readToken_141 142 rfl h (fun h => ?_)
      refine z_callR C ([]) (fun v h => c_X4_kindOf l D T    (a 1 (Int32.toNatClampNeg (a 3 0))) v h) ⟨rfl, rfl⟩ (z_cwS C 1 gX4_readToken_X4_kindOf rfl dd_X4_kindOf ⟨(Nat.le_of_ble_eq_true rfl), (Nat.le_of_ble_eq_true rfl)⟩) (hD.zaddr rfl) [] rfl rfl (fun h => absurd h (by decide)) (fun _ => rfl) rfl (Nat.le_of_ble_eq_true rfl) dX4_readToken_142 145 rfl h (fun r_6 h => ?_)
      refine z_aload_n C dX4_readToken_145 rfl 0 rfl 146 rfl ?_
      refine z_get C (in_X4_readToken_X4) 0 rfl rfl 4 (by decide) (List.mem_of_getElem? (i := 6) rfl) rfl rfl dX4_readToken_146 149 rfl ?_
      refine z_icmp_ne C 210 dX4_readToken_149 (by decide) 152 rfl h (fun h => ?_) (fun h => ?_)
      · refine z_locals (ks := [0]) (lv' := [(0, .ref (a0 99))]) rfl ?_
        exact zex1 (F := (fun e0 => zt p l e R s m args below meth c 2 A D 0 0 Q (wX4 T a0 e0) [(0, .ref (a0 99))] 210 [])) h K
      · refine z_aload_n C dX4_readToken_152 rfl 0 rfl 153 rfl ?_
        refine z_get C (in_X4_readToken_X4) 0 rfl rfl 4 (by decide) (List.mem_of_getElem? (i := 6) rfl) rfl rfl dX4_readToken_153 156 rfl ?_
        refine z_iconst C 2 dX4_readToken_156 (by decide) 157 rfl ?_
        refine z_icmp_ne C 197 dX4_readToken_157 (by decide) 160 rfl h (fun h => ?_) (fun h => ?_)
        · exact z_locals (ks := [0, 1]) rfl (p_X4_readToken_J197 C a (hD.zaddr rfl) hrec K h)
        · refine z_aload_n C dX4_readToken_160 rfl 0 rfl 161 rfl ?_
          refine z_get C (in_X4_readToken_X4) 0 rfl rfl 3 (by decide) (List.mem_of_getElem? (i := 1) rfl) rfl rfl dX4_readToken_161 164 rfl ?_
          refine z_aload_n C dX4_readToken_164 rfl 0 rfl 165 rfl ?_
          refine z_get C (in_X4_readToken_X4) 0 rfl rfl 5 (by decide) (List.mem_of_getElem? (i := 4) rfl) rfl rfl dX4_readToken_165 168 rfl ?_
          refine z_isub C dX4_readToken_168 169 rfl ?_
          refine z_iconst C 3 dX4_readToken_169 (by decide) 170 rfl ?_
          refine z_icmp_ge C 197 dX4_readToken_170 (by decide) 173 rfl h (fun h => ?_) (fun h => ?_)
          · exact z_locals (ks := [0, 1]) rfl (p_X4_readToken_J197 C a (hD.zaddr rfl) hrec K h)
          · refine z_aload_n C dX4_readToken_173 rfl 0 rfl 174 rfl ?_
            refine z_bipush C 10 dX4_readToken_174 (by decide) 176 rfl ?_
            refine z_aload_n C dX4_readToken_176 rfl 0 rfl 177 rfl ?_
            refine z_get C (in_X4_readToken_X4) 0 rfl rfl 6 (by decide) (List.mem_of_getElem? (i := 5) rfl) rfl rfl dX4_readToken_177 180 rfl ?_
            refine z_imul C dX4_readToken_180 181 rfl ?_
            refine z_aload_n C dX4_readToken_181 rfl 0 rfl 182 rfl ?_
            refine z_get C (in_X4_readToken_X4) 0 rfl rfl 1 (by decide) (List.mem_of_getElem? (i := 3) rfl) rfl rfl dX4_readToken_182 185 rfl ?_
            refine z_aload_n C dX4_readToken_185 rfl 0 rfl 186 rfl ?_
            refine z_get C (in_X4_readToken_X4) 0 rfl rfl 3 (by decide) (List.mem_of_getElem? (i := 1) rfl) rfl rfl dX4_readToken_186 189 rfl ?_
            refine z_iald C 1 rfl rfl dX4_readToken_189 190 rfl h (fun h => ?_)
            refine z_iadd C dX4_readToken_190 191 rfl ?_
            refine z_bipush C 48 dX4_readToken_191 (by decide) 193 rfl ?_
            refine z_isub C dX4_readToken_193 194 rfl ?_
            refine z_put (ty := .int) C (fun z => wX4 T a0 z) a (hD.zaddr rfl) (in_X4_readToken_X4) tyX4 tyX4_ok nmX4 0 rfl rfl 6 (by decide) (List.mem_of_getElem? (i := 5) rfl) rfl rfl (by decide +kernel) rfl rfl (Nat.le_of_ble_eq_true rfl) rfl dX4_readToken_194 197 rfl h (fun S0_8 h => ?_)
            exact z_locals (ks := [0, 1]) rfl (p_X4_readToken_J197 C S0_8 (hD.zaddr rfl) hrec K h)

def f_X4_readToken_J210 (S0 : Nat → Nat → Int32)   : Option ((Nat → Nat → Int32)) := if (S0 4 0) = 3 then (zlet (zst S0 3 0 ((S0 3 0) + 1)) fun S0_11 => some S0_11) else (if (S0 4 0) = 2 then (if ((S0 3 0) - (S0 5 0)) ≤ 3 then (some S0) else (zlet (zst S0 4 0 4) fun S0_10 => some S0_10)) else (some S0))
set_option maxHeartbeats 4000000 in
set_option maxRecDepth 100000 in
theorem p_X4_readToken_J210 {w0 : va_W} (C : zC p R s m args meth c cX4_readToken 2 RX4 wsX4_readToken D T 1 20 0 0) (hr : meth.sig.returnType = none) (S0 : Nat → Nat → Int32)   (hD : va_D (zA w0) (wX4 T a0 S0)) {ex : (Nat → Nat → Int32)} (h : f_X4_readToken_J210 S0 = some ex) : zt p l e R s m args below meth c 2 (zA w0) D 0 0 (MQ below (zQV D w0 (wX4 T a0 ex)) args s 0 0 (zA w0)) (wX4 T a0 S0) [(0, .ref (a0 99))] 210 [] := by
  unfold f_X4_readToken_J210 at h
  refine z_aload_n C dX4_readToken_210 rfl 0 rfl 211 rfl ?_
  refine z_get C (in_X4_readToken_X4) 0 rfl rfl 4 (by decide) (List.mem_of_getElem? (i := 6) rfl) rfl rfl dX4_readToken_211 214 rfl ?_
  refine z_iconst C 3 dX4_readToken_214 (by decide) 215 rfl ?_
  refine z_icmp_ne C 231 dX4_readToken_215 (by decide) 218 rfl h (fun h => ?_) (fun h => ?_)
  · refine z_aload_n C dX4_readToken_231 rfl 0 rfl 232 rfl ?_
    refine z_get C (in_X4_readToken_X4) 0 rfl rfl 4 (by decide) (List.mem_of_getElem? (i := 6) rfl) rfl rfl dX4_readToken_232 235 rfl ?_
    refine z_iconst C 2 dX4_readToken_235 (by decide) 236 rfl ?_
    refine z_icmp_ne C 257 dX4_readToken_236 (by decide) 239 rfl h (fun h => ?_) (fun h => ?_)
    · exact z_vretW (x := S0) (ex := ex) (fun z => wX4 T a0 z) C hr dX4_readToken_257 h rfl
    · refine z_aload_n C dX4_readToken_239 rfl 0 rfl 240 rfl ?_
      refine z_get C (in_X4_readToken_X4) 0 rfl rfl 3 (by decide) (List.mem_of_getElem? (i := 1) rfl) rfl rfl dX4_readToken_240 243 rfl ?_
      refine z_aload_n C dX4_readToken_243 rfl 0 rfl 244 rfl ?_
      refine z_get C (in_X4_readToken_X4) 0 rfl rfl 5 (by decide) (List.mem_of_getElem? (i := 4) rfl) rfl rfl dX4_readToken_244 247 rfl ?_
      refine z_isub C dX4_readToken_247 248 rfl ?_
      refine z_iconst C 3 dX4_readToken_248 (by decide) 249 rfl ?_
      refine z_icmp_le C 257 dX4_readToken_249 (by decide) 252 rfl h (fun h => ?_) (fun h => ?_)
      · exact z_vretW (x := S0) (ex := ex) (fun z => wX4 T a0 z) C hr dX4_readToken_257 h rfl
      · refine z_aload_n C dX4_readToken_252 rfl 0 rfl 253 rfl ?_
        refine z_iconst C 4 dX4_readToken_253 (by decide) 254 rfl ?_
        refine z_put (ty := .int) C (fun z => wX4 T a0 z) S0 (hD.zaddr rfl) (in_X4_readToken_X4) tyX4 tyX4_ok nmX4 0 rfl rfl 4 (by decide) (List.mem_of_getElem? (i := 6) rfl) rfl rfl (by decide +kernel) rfl rfl (Nat.le_of_ble_eq_true rfl) rfl dX4_readToken_254 257 rfl h (fun S0_10 h => ?_)
        exact z_vretW (x := S0_10) (ex := ex) (fun z => wX4 T a0 z) C hr dX4_readToken_257 h rfl
  · refine z_aload_n C dX4_readToken_218 rfl 0 rfl 219 rfl ?_
    refine z_dup C dX4_readToken_219 rfl 220 rfl ?_
    refine z_get C (in_X4_readToken_X4) 0 rfl rfl 3 (by decide) (List.mem_of_getElem? (i := 1) rfl) rfl rfl dX4_readToken_220 223 rfl ?_
    refine z_iconst C 1 dX4_readToken_223 (by decide) 224 rfl ?_
    refine z_iadd C dX4_readToken_224 225 rfl ?_
    refine z_put (ty := .int) C (fun z => wX4 T a0 z) S0 (hD.zaddr rfl) (in_X4_readToken_X4) tyX4 tyX4_ok nmX4 0 rfl rfl 3 (by decide) (List.mem_of_getElem? (i := 1) rfl) rfl rfl (by decide +kernel) rfl rfl (Nat.le_of_ble_eq_true rfl) rfl dX4_readToken_225 228 rfl h (fun S0_11 h => ?_)
    refine z_goto C 257 dX4_readToken_228 (by decide) ?_
    exact z_vretW (x := S0_11) (ex := ex) (fun z => wX4 T a0 z) C hr dX4_readToken_257 h rfl

def f_X4_readToken_J117 (S0 : Nat → Nat → Int32)  (k0 : Int32) : Option ((Nat → Nat → Int32)) := (f_X4_readToken_L118 k0 zfuel S0).bind fun y_9 => f_X4_readToken_J210 y_9
set_option maxHeartbeats 4000000 in
set_option maxRecDepth 100000 in
theorem p_X4_readToken_J117 {w0 : va_W} (C : zC p R s m args meth c cX4_readToken 2 RX4 wsX4_readToken D T 1 20 0 0) (hr : meth.sig.returnType = none) (S0 : Nat → Nat → Int32)  (k0 : Int32) (hD : va_D (zA w0) (wX4 T a0 S0)) {ex : (Nat → Nat → Int32)} (h : f_X4_readToken_J117 S0 k0 = some ex) : zt p l e R s m args below meth c 2 (zA w0) D 0 0 (MQ below (zQV D w0 (wX4 T a0 ex)) args s 0 0 (zA w0)) (wX4 T a0 S0) [(0, .ref (a0 99))] 117 [.int k0] := by
  unfold f_X4_readToken_J117 at h
  refine z_istore_n C [(0, .ref (a0 99)), (1, .int k0)] dX4_readToken_117 rfl (Nat.le_of_ble_eq_true rfl) [1, 0] rfl 118 rfl ?_
  obtain ⟨y_9, hl_y_9, h⟩ := Option.bind_eq_some_iff.mp h
  refine z_locals (ks := [0, 1]) rfl (p_X4_readToken_L118 C S0 k0 (hD.zaddr rfl) _ _ _ hl_y_9 ?_)
  exact z_locals (ks := [0]) rfl (p_X4_readToken_J210 C hr y_9 (hD.zaddr rfl) h)

def f_X4_readToken_J112 (S0 : Nat → Nat → Int32)   : Option ((Nat → Nat → Int32)) := f_X4_readToken_J117 S0 1
set_option maxHeartbeats 4000000 in
set_option maxRecDepth 100000 in
theorem p_X4_readToken_J112 {w0 : va_W} (C : zC p R s m args meth c cX4_readToken 2 RX4 wsX4_readToken D T 1 20 0 0) (hr : meth.sig.returnType = none) (S0 : Nat → Nat → Int32)   (hD : va_D (zA w0) (wX4 T a0 S0)) {ex : (Nat → Nat → Int32)} (h : f_X4_readToken_J112 S0 = some ex) : zt p l e R s m args below meth c 2 (zA w0) D 0 0 (MQ below (zQV D w0 (wX4 T a0 ex)) args s 0 0 (zA w0)) (wX4 T a0 S0) [(0, .ref (a0 99))] 112 [] := by
  unfold f_X4_readToken_J112 at h
  refine z_iconst C 1 dX4_readToken_112 (by decide) 113 rfl ?_
  refine z_goto C 117 dX4_readToken_113 (by decide) ?_
  exact z_locals (ks := [0]) rfl (p_X4_readToken_J117 C hr S0 1 (hD.zaddr rfl) h)

def f_X4_readToken_J93 (S0 : Nat → Nat → Int32)  (k1 : Int32) : Option ((Nat → Nat → Int32)) := zlet (zst S0 4 0 k1) fun S0_5 => if (S0_5 4 0) = 1 then (f_X4_readToken_J112 S0_5) else (if (S0_5 4 0) = 2 then (f_X4_readToken_J112 S0_5) else (f_X4_readToken_J117 S0_5 0))
set_option maxHeartbeats 4000000 in
set_option maxRecDepth 100000 in
theorem p_X4_readToken_J93 {w0 : va_W} (C : zC p R s m args meth c cX4_readToken 2 RX4 wsX4_readToken D T 1 20 0 0) (hr : meth.sig.returnType = none) (S0 : Nat → Nat → Int32)  (k1 : Int32) (hD : va_D (zA w0) (wX4 T a0 S0)) {ex : (Nat → Nat → Int32)} (h : f_X4_readToken_J93 S0 k1 = some ex) : zt p l e R s m args below meth c 2 (zA w0) D 0 0 (MQ below (zQV D w0 (wX4 T a0 ex)) args s 0 0 (zA w0)) (wX4 T a0 S0) [(0, .ref (a0 99))] 93 [.int k1, .ref (a0 99)] := by
  unfold f_X4_readToken_J93 at h
  refine z_put (ty := .int) C (fun z => wX4 T a0 z) S0 (hD.zaddr rfl) (in_X4_readToken_X4) tyX4 tyX4_ok nmX4 0 rfl rfl 4 (by decide) (List.mem_of_getElem? (i := 6) rfl) rfl rfl (by decide +kernel) rfl rfl (Nat.le_of_ble_eq_true rfl) rfl dX4_readToken_93 96 rfl h (fun S0_5 h => ?_)
  refine z_aload_n C dX4_readToken_96 rfl 0 rfl 97 rfl ?_
  refine z_get C (in_X4_readToken_X4) 0 rfl rfl 4 (by decide) (List.mem_of_getElem? (i := 6) rfl) rfl rfl dX4_readToken_97 100 rfl ?_
  refine z_iconst C 1 dX4_readToken_100 (by decide) 101 rfl ?_
  refine z_icmp_eq C 112 dX4_readToken_101 (by decide) 104 rfl h (fun h => ?_) (fun h => ?_)
  · exact z_locals (ks := [0]) rfl (p_X4_readToken_J112 C hr S0_5 (hD.zaddr rfl) h)
  · refine z_aload_n C dX4_readToken_104 rfl 0 rfl 105 rfl ?_
    refine z_get C (in_X4_readToken_X4) 0 rfl rfl 4 (by decide) (List.mem_of_getElem? (i := 6) rfl) rfl rfl dX4_readToken_105 108 rfl ?_
    refine z_iconst C 2 dX4_readToken_108 (by decide) 109 rfl ?_
    refine z_icmp_ne C 116 dX4_readToken_109 (by decide) 112 rfl h (fun h => ?_) (fun h => ?_)
    · refine z_iconst C 0 dX4_readToken_116 (by decide) 117 rfl ?_
      exact z_locals (ks := [0]) rfl (p_X4_readToken_J117 C hr S0_5 0 (hD.zaddr rfl) h)
    · exact z_locals (ks := [0]) rfl (p_X4_readToken_J112 C hr S0_5 (hD.zaddr rfl) h)

def f_X4_readToken_J52 (S0 : Nat → Nat → Int32)   : Option ((Nat → Nat → Int32)) := zlet (zst S0 5 0 (S0 3 0)) fun S0_3 => zlet (zst S0_3 6 0 0) fun S0_4 => if (S0_4 2 0) ≤ (S0_4 3 0) then (f_X4_readToken_J93 S0_4 0) else (zix (S0_4 3 0) 500 fun _ => (f_X4_kindOf (S0_4 1 (Int32.toNatClampNeg (S0_4 3 0)))).bind fun r_12 => f_X4_readToken_J93 S0_4 r_12)
set_option maxHeartbeats 4000000 in
set_option maxRecDepth 100000 in
theorem p_X4_readToken_J52 {w0 : va_W} (C : zC p R s m args meth c cX4_readToken 2 RX4 wsX4_readToken D T 1 20 0 0) (hr : meth.sig.returnType = none) (S0 : Nat → Nat → Int32)   (hD : va_D (zA w0) (wX4 T a0 S0)) {ex : (Nat → Nat → Int32)} (h : f_X4_readToken_J52 S0 = some ex) : zt p l e R s m args below meth c 2 (zA w0) D 0 0 (MQ below (zQV D w0 (wX4 T a0 ex)) args s 0 0 (zA w0)) (wX4 T a0 S0) [(0, .ref (a0 99))] 52 [] := by
  unfold f_X4_readToken_J52 at h
  refine z_aload_n C dX4_readToken_52 rfl 0 rfl 53 rfl ?_
  refine z_aload_n C dX4_readToken_53 rfl 0 rfl 54 rfl ?_
  refine z_get C (in_X4_readToken_X4) 0 rfl rfl 3 (by decide) (List.mem_of_getElem? (i := 1) rfl) rfl rfl dX4_readToken_54 57 rfl ?_
  refine z_put (ty := .int) C (fun z => wX4 T a0 z) S0 (hD.zaddr rfl) (in_X4_readToken_X4) tyX4 tyX4_ok nmX4 0 rfl rfl 5 (by decide) (List.mem_of_getElem? (i := 4) rfl) rfl rfl (by decide +kernel) rfl rfl (Nat.le_of_ble_eq_true rfl) rfl dX4_readToken_57 60 rfl h (fun S0_3 h => ?_)
  refine z_aload_n C dX4_readToken_60 rfl 0 rfl 61 rfl ?_
  refine z_iconst C 0 dX4_readToken_61 (by decide) 62 rfl ?_
  refine z_put (ty := .int) C (fun z => wX4 T a0 z) S0_3 (hD.zaddr rfl) (in_X4_readToken_X4) tyX4 tyX4_ok nmX4 0 rfl rfl 6 (by decide) (List.mem_of_getElem? (i := 5) rfl) rfl rfl (by decide +kernel) rfl rfl (Nat.le_of_ble_eq_true rfl) rfl dX4_readToken_62 65 rfl h (fun S0_4 h => ?_)
  refine z_aload_n C dX4_readToken_65 rfl 0 rfl 66 rfl ?_
  refine z_aload_n C dX4_readToken_66 rfl 0 rfl 67 rfl ?_
  refine z_get C (in_X4_readToken_X4) 0 rfl rfl 3 (by decide) (List.mem_of_getElem? (i := 1) rfl) rfl rfl dX4_readToken_67 70 rfl ?_
  refine z_aload_n C dX4_readToken_70 rfl 0 rfl 71 rfl ?_
  refine z_get C (in_X4_readToken_X4) 0 rfl rfl 2 (by decide) (List.mem_of_getElem? (i := 2) rfl) rfl rfl dX4_readToken_71 74 rfl ?_
  refine z_icmp_ge C 92 dX4_readToken_74 (by decide) 77 rfl h (fun h => ?_) (fun h => ?_)
  · refine z_iconst C 0 dX4_readToken_92 (by decide) 93 rfl ?_
    exact z_locals (ks := [0]) rfl (p_X4_readToken_J93 C hr S0_4 0 (hD.zaddr rfl) h)
  · refine z_aload_n C dX4_readToken_77 rfl 0 rfl 78 rfl ?_
    refine z_get C (in_X4_readToken_X4) 0 rfl rfl 1 (by decide) (List.mem_of_getElem? (i := 3) rfl) rfl rfl dX4_readToken_78 81 rfl ?_
    refine z_aload_n C dX4_readToken_81 rfl 0 rfl 82 rfl ?_
    refine z_get C (in_X4_readToken_X4) 0 rfl rfl 3 (by decide) (List.mem_of_getElem? (i := 1) rfl) rfl rfl dX4_readToken_82 85 rfl ?_
    refine z_iald C 1 rfl rfl dX4_readToken_85 86 rfl h (fun h => ?_)
    refine z_callR C ([]) (fun v h => c_X4_kindOf l D T    (S0_4 1 (Int32.toNatClampNeg (S0_4 3 0))) v h) ⟨rfl, rfl⟩ (z_cwS C 1 gX4_readToken_X4_kindOf rfl dd_X4_kindOf ⟨(Nat.le_of_ble_eq_true rfl), (Nat.le_of_ble_eq_true rfl)⟩) (hD.zaddr rfl) [] rfl rfl (fun h => absurd h (by decide)) (fun _ => rfl) rfl (Nat.le_of_ble_eq_true rfl) dX4_readToken_86 89 rfl h (fun r_12 h => ?_)
    refine z_goto C 93 dX4_readToken_89 (by decide) ?_
    exact z_locals (ks := [0]) rfl (p_X4_readToken_J93 C hr S0_4 r_12 (hD.zaddr rfl) h)

def f_X4_readToken (S0 : Nat → Nat → Int32)  : Option ((Nat → Nat → Int32)) := (f_X4_readToken_L0  zfuel S0).bind fun y_2 => f_X4_readToken_J52 y_2
theorem dd_X4_readToken : RX4 ≠ "java/lang/invoke/MethodHandle" ∧ RX4 ≠ "java/lang/invoke/VarHandle" ∧ (parseMethodDescriptor yX4_readToken.desc).map (fun d => d.parameters.length) = some 0 := by decide +kernel
set_option maxHeartbeats 4000000 in
set_option maxRecDepth 100000 in
theorem c_X4_readToken (l : Launch) (D : va_G) (T : Nat → ClassId) (a0 : Nat → Nat) (S0 : Nat → Nat → Int32)  (ex : (Nat → Nat → Int32)) (h : f_X4_readToken S0 = some ex) : zWV l yX4_readToken wsX4_readToken ({ frames := 1, cells := 0, slots := 0, locals := 20 } : Room) D T [.ref (a0 99)] (wX4 T a0 S0) (wX4 T a0 ex) := by
  refine z_begin (cc := cX4_readToken) (nL := 2) (own := RX4) (fr := 1) (lc := 20) (ret := none) (by decide) rfl (Nat.le_of_ble_eq_true rfl) (zA (wX4 T a0 S0)) rfl [(0, .ref (a0 99))] rfl ⟨rfl, rfl⟩ rfl ?_
  intro p e s m args below meth c C hr hD
  have hD := hD.zself
  unfold f_X4_readToken at h
  obtain ⟨y_2, hl_y_2, h⟩ := Option.bind_eq_some_iff.mp h
  refine z_locals (ks := [0]) rfl (p_X4_readToken_L0 C S0  (hD.zaddr rfl) _ _ _ hl_y_2 ?_)
  exact z_locals (ks := [0]) rfl (p_X4_readToken_J52 C hr y_2 (hD.zaddr rfl) h)

end
/-! StreamTree$Tape.readNumber (II)I -/
section
variable {p : Program} {l : Launch} {e : Env} {R : Room} {s : State} {m : MethodId} {args : Array Value} {below : List Frame} {meth : Method} {c : Code} {Q : State → Prop} {A : Nat → Prop} {D : va_G} {T : Nat → ClassId} {a0 : Nat → Nat}
theorem in_X4_readNumber_X4 : ∀ w ∈ u_ws RX4 TX4 8, w ∈ wsX4_readNumber := fun _ h => (List.mem_cons_of_mem _ (List.mem_append_right _ h))
def f_X4_readNumber (S0 : Nat → Nat → Int32) (v1 : Int32) (v2 : Int32) : Option (Int32 × (Nat → Nat → Int32)) := if (S0 7 0) = 0 then ((f_X4_readToken S0).bind fun r_1 => if (r_1 4 0) = 2 then ((f_X6_isWithin (r_1 6 0) v1 v2).bind fun r_2 => if r_2 = 0 then ((f_X4_fail r_1 2).bind fun r_3 => some (v1, r_3)) else (some ((r_1 6 0), r_1))) else ((f_X4_fail r_1 1).bind fun r_4 => some (v1, r_4))) else (some (v1, S0))
theorem dd_X4_readNumber : RX4 ≠ "java/lang/invoke/MethodHandle" ∧ RX4 ≠ "java/lang/invoke/VarHandle" ∧ (parseMethodDescriptor yX4_readNumber.desc).map (fun d => d.parameters.length) = some 2 := by decide +kernel
set_option maxHeartbeats 4000000 in
set_option maxRecDepth 100000 in
theorem c_X4_readNumber (l : Launch) (D : va_G) (T : Nat → ClassId) (a0 : Nat → Nat) (S0 : Nat → Nat → Int32) (v1 : Int32) (v2 : Int32) (ex : Int32 × (Nat → Nat → Int32)) (h : f_X4_readNumber S0 v1 v2 = some ex) : zWI l yX4_readNumber wsX4_readNumber ({ frames := 2, cells := 0, slots := 0, locals := 41 } : Room) D T [.ref (a0 99), .int v1, .int v2] (wX4 T a0 S0) ex.1 (wX4 T a0 ex.2) := by
  refine z_begin (cc := cX4_readNumber) (nL := 3) (own := RX4) (fr := 2) (lc := 41) (ret := some .int) (by decide) rfl (Nat.le_of_ble_eq_true rfl) (zA (wX4 T a0 S0)) rfl [(0, .ref (a0 99)), (1, .int v1), (2, .int v2)] rfl ⟨rfl, rfl⟩ rfl ?_
  intro p e s m args below meth c C hr hD
  have hD := hD.zself
  unfold f_X4_readNumber at h
  refine z_aload_n C dX4_readNumber_0 rfl 0 rfl 1 rfl ?_
  refine z_get C (in_X4_readNumber_X4) 0 rfl rfl 7 (by decide) (List.mem_of_getElem? (i := 1) rfl) rfl rfl dX4_readNumber_1 4 rfl ?_
  refine z_if_eq C 9 dX4_readNumber_4 (by decide) 7 rfl h (fun h => ?_) (fun h => ?_)
  · refine z_aload_n C dX4_readNumber_9 rfl 0 rfl 10 rfl ?_
    refine z_callV C (wX4 T a0 S0) (([] : va_W)) (fun z => wX4 T a0 z) (fun z => wX4 T a0 z) (fun z h => c_X4_readToken l D T a0  S0  z h) ⟨rfl, rfl⟩ (z_cwV C 0 gX4_readNumber_X4_readToken rfl rfl dd_X4_readToken ⟨(Nat.le_of_ble_eq_true rfl), (Nat.le_of_ble_eq_true rfl)⟩) (hD.zaddr rfl) [0, 1] [] [0, 1] rfl rfl rfl (by decide) (fun _ => rfl) (fun _ => ⟨a0 99, [], 3, 0, _, _, rfl, rfl, rfl, rfl, rfl⟩) (fun h => absurd rfl h) rfl (Nat.le_of_ble_eq_true rfl) dX4_readNumber_10 13 rfl h (fun r_1 h => ?_)
    refine z_aload_n C dX4_readNumber_13 rfl 0 rfl 14 rfl ?_
    refine z_get C (in_X4_readNumber_X4) 0 rfl rfl 4 (by decide) (List.mem_of_getElem? (i := 2) rfl) rfl rfl dX4_readNumber_14 17 rfl ?_
    refine z_iconst C 2 dX4_readNumber_17 (by decide) 18 rfl ?_
    refine z_icmp_eq C 28 dX4_readNumber_18 (by decide) 21 rfl h (fun h => ?_) (fun h => ?_)
    · refine z_aload_n C dX4_readNumber_28 rfl 0 rfl 29 rfl ?_
      refine z_get C (in_X4_readNumber_X4) 0 rfl rfl 6 (by decide) (List.mem_of_getElem? (i := 3) rfl) rfl rfl dX4_readNumber_29 32 rfl ?_
      refine z_iload_n C dX4_readNumber_32 rfl 1 rfl 33 rfl ?_
      refine z_iload_n C dX4_readNumber_33 rfl 2 rfl 34 rfl ?_
      refine z_callR C ([]) (fun v h => c_X6_isWithin l D T    (r_1 6 0) v1 v2 v h) ⟨rfl, rfl⟩ (z_cwN C 3 gX4_readNumber_X6_isWithin_n117 rfl (List.mem_of_getElem? (i := 4) rfl) (List.mem_of_getElem? (i := 20) rfl) (List.mem_of_getElem? (i := 21) rfl) dd_X6_isWithin ⟨(Nat.le_of_ble_eq_true rfl), (Nat.le_of_ble_eq_true rfl)⟩) (hD.zaddr rfl) [] rfl rfl (fun h => absurd h (by decide)) (fun _ => rfl) rfl (Nat.le_of_ble_eq_true rfl) dX4_readNumber_34 37 rfl h (fun r_2 h => ?_)
      refine z_if_ne C 47 dX4_readNumber_37 (by decide) 40 rfl h (fun h => ?_) (fun h => ?_)
      · refine z_aload_n C dX4_readNumber_47 rfl 0 rfl 48 rfl ?_
        refine z_get C (in_X4_readNumber_X4) 0 rfl rfl 6 (by decide) (List.mem_of_getElem? (i := 3) rfl) rfl rfl dX4_readNumber_48 51 rfl ?_
        exact z_iretW (x := r_1) (ex := ex) (fun z => wX4 T a0 z) C hr dX4_readNumber_51 h rfl
      · refine z_aload_n C dX4_readNumber_40 rfl 0 rfl 41 rfl ?_
        refine z_iconst C 2 dX4_readNumber_41 (by decide) 42 rfl ?_
        refine z_callV C (wX4 T a0 r_1) (([] : va_W)) (fun z => wX4 T a0 z) (fun z => wX4 T a0 z) (fun z h => c_X4_fail l D T a0  r_1 2 z h) ⟨rfl, rfl⟩ (z_cwV C 1 gX4_readNumber_X4_fail rfl rfl dd_X4_fail ⟨(Nat.le_of_ble_eq_true rfl), (Nat.le_of_ble_eq_true rfl)⟩) (hD.zaddr rfl) [0, 1] [] [0, 1] rfl rfl rfl (by decide) (fun _ => rfl) (fun _ => ⟨a0 99, [.int 2], 3, 0, _, _, rfl, rfl, rfl, rfl, rfl⟩) (fun h => absurd rfl h) rfl (Nat.le_of_ble_eq_true rfl) dX4_readNumber_42 45 rfl h (fun r_3 h => ?_)
        refine z_iload_n C dX4_readNumber_45 rfl 1 rfl 46 rfl ?_
        exact z_iretW (x := r_3) (ex := ex) (fun z => wX4 T a0 z) C hr dX4_readNumber_46 h rfl
    · refine z_aload_n C dX4_readNumber_21 rfl 0 rfl 22 rfl ?_
      refine z_iconst C 1 dX4_readNumber_22 (by decide) 23 rfl ?_
      refine z_callV C (wX4 T a0 r_1) (([] : va_W)) (fun z => wX4 T a0 z) (fun z => wX4 T a0 z) (fun z h => c_X4_fail l D T a0  r_1 1 z h) ⟨rfl, rfl⟩ (z_cwV C 1 gX4_readNumber_X4_fail rfl rfl dd_X4_fail ⟨(Nat.le_of_ble_eq_true rfl), (Nat.le_of_ble_eq_true rfl)⟩) (hD.zaddr rfl) [0, 1] [] [0, 1] rfl rfl rfl (by decide) (fun _ => rfl) (fun _ => ⟨a0 99, [.int 1], 3, 0, _, _, rfl, rfl, rfl, rfl, rfl⟩) (fun h => absurd rfl h) rfl (Nat.le_of_ble_eq_true rfl) dX4_readNumber_23 26 rfl h (fun r_4 h => ?_)
      refine z_iload_n C dX4_readNumber_26 rfl 1 rfl 27 rfl ?_
      exact z_iretW (x := r_4) (ex := ex) (fun z => wX4 T a0 z) C hr dX4_readNumber_27 h rfl
  · refine z_iload_n C dX4_readNumber_7 rfl 1 rfl 8 rfl ?_
    exact z_iretW (x := S0) (ex := ex) (fun z => wX4 T a0 z) C hr dX4_readNumber_8 h rfl

end
/-! StreamTree$Tape.readPlace (LStreamTree$Chart;)V -/
section
variable {p : Program} {l : Launch} {e : Env} {R : Room} {s : State} {m : MethodId} {args : Array Value} {below : List Frame} {meth : Method} {c : Code} {Q : State → Prop} {A : Nat → Prop} {D : va_G} {T : Nat → ClassId} {a0 : Nat → Nat} {a1 : Nat → Nat}
theorem in_X4_readPlace_X4 : ∀ w ∈ u_ws RX4 TX4 8, w ∈ wsX4_readPlace := fun _ h => (List.mem_cons_of_mem _ (List.mem_append_right _ h))
theorem in_X4_readPlace_X1 : ∀ w ∈ u_ws RX1 TX1 10, w ∈ wsX4_readPlace := fun _ h => (List.mem_cons_of_mem _ (List.mem_append_left _ (List.mem_append_right _ h)))
def f_X4_readPlace_J71 (S0 : Nat → Nat → Int32) (S1 : Nat → Nat → Int32) (x2 : Int32) (x3 : Int32)  : Option ((Nat → Nat → Int32) × (Nat → Nat → Int32)) := (f_X4_readNumber S0 1 99).bind fun r_3 => if (r_3.2 7 0) = 0 then ((f_X1_addPlace S1 x2 x3 r_3.1).bind fun r_4 => some (r_3.2, r_4)) else (some (r_3.2, S1))
set_option maxHeartbeats 4000000 in
set_option maxRecDepth 100000 in
theorem p_X4_readPlace_J71 {w0 : va_W} (C : zC p R s m args meth c cX4_readPlace 5 RX4 wsX4_readPlace D T 3 63 0 0) (hr : meth.sig.returnType = none) (S0 : Nat → Nat → Int32) (S1 : Nat → Nat → Int32) (x2 : Int32) (x3 : Int32)  (hD : va_D (zA w0) (wX4 T a0 S0 ++ wX1 T a1 S1)) {ex : (Nat → Nat → Int32) × (Nat → Nat → Int32)} (h : f_X4_readPlace_J71 S0 S1 x2 x3 = some ex) : zt p l e R s m args below meth c 5 (zA w0) D 0 0 (MQ below (zQV D w0 (wX4 T a0 ex.1 ++ wX1 T a1 ex.2)) args s 0 0 (zA w0)) (wX4 T a0 S0 ++ wX1 T a1 S1) [(0, .ref (a0 99)), (1, .ref (a1 99)), (2, .int x2), (3, .int x3)] 71 [] := by
  unfold f_X4_readPlace_J71 at h
  refine z_aload_n C dX4_readPlace_71 rfl 0 rfl 72 rfl ?_
  refine z_iconst C 1 dX4_readPlace_72 (by decide) 73 rfl ?_
  refine z_bipush C 99 dX4_readPlace_73 (by decide) 75 rfl ?_
  refine z_callW C (wX4 T a0 S0) (wX1 T a1 S1) (fun z => z.1) (fun z => wX4 T a0 z.2) (fun z => wX4 T a0 z.2 ++ wX1 T a1 S1) (fun z h => c_X4_readNumber l D T a0  S0 1 99 z h) ⟨rfl, rfl⟩ (z_cwV C 2 gX4_readPlace_X4_readNumber rfl rfl dd_X4_readNumber ⟨(Nat.le_of_ble_eq_true rfl), (Nat.le_of_ble_eq_true rfl)⟩) (hD.zaddr rfl) [0, 1] [2, 3, 4, 5, 6] [5, 6, 0, 1, 2, 3, 4] rfl rfl rfl (by decide) (fun _ => rfl) (fun _ => ⟨a0 99, [.int 1, .int 99], 3, 0, _, _, rfl, rfl, rfl, rfl, rfl⟩) (fun h => absurd rfl h) rfl (Nat.le_of_ble_eq_true rfl) dX4_readPlace_75 78 rfl h (fun r_3 h => ?_)
  refine z_istore C [(0, .ref (a0 99)), (1, .ref (a1 99)), (2, .int x2), (3, .int x3), (4, .int r_3.1)] dX4_readPlace_78 (Nat.le_of_ble_eq_true rfl) [1, 2, 3, 4, 0] rfl 80 rfl ?_
  refine z_aload_n C dX4_readPlace_80 rfl 0 rfl 81 rfl ?_
  refine z_get C (in_X4_readPlace_X4) 0 rfl rfl 7 (by decide) (List.mem_of_getElem? (i := 4) rfl) rfl rfl dX4_readPlace_81 84 rfl ?_
  refine z_if_ne C 95 dX4_readPlace_84 (by decide) 87 rfl h (fun h => ?_) (fun h => ?_)
  · exact z_vretW (x := (r_3.2, S1)) (ex := ex) (fun z => wX4 T a0 z.1 ++ wX1 T a1 z.2) C hr dX4_readPlace_95 h rfl
  · refine z_aload_n C dX4_readPlace_87 rfl 1 rfl 88 rfl ?_
    refine z_iload_n C dX4_readPlace_88 rfl 2 rfl 89 rfl ?_
    refine z_iload_n C dX4_readPlace_89 rfl 3 rfl 90 rfl ?_
    refine z_iload C dX4_readPlace_90 4 rfl 92 rfl ?_
    refine z_callV C (wX1 T a1 S1) (wX4 T a0 r_3.2) (fun z => wX1 T a1 z) (fun z => wX4 T a0 r_3.2 ++ wX1 T a1 z) (fun z h => c_X1_addPlace l D T a1  S1 x2 x3 r_3.1 z h) ⟨rfl, rfl⟩ (z_cwV C 3 gX4_readPlace_X1_addPlace rfl rfl dd_X1_addPlace ⟨(Nat.le_of_ble_eq_true rfl), (Nat.le_of_ble_eq_true rfl)⟩) (hD.zaddr rfl) [2, 3, 4, 5, 6] [0, 1] [0, 1, 2, 3, 4, 5, 6] rfl rfl rfl (by decide) (fun _ => rfl) (fun _ => ⟨a1 99, [.int x2, .int x3, .int r_3.1], 1, 0, _, _, rfl, rfl, rfl, rfl, rfl⟩) (fun h => absurd rfl h) rfl (Nat.le_of_ble_eq_true rfl) dX4_readPlace_92 95 rfl h (fun r_4 h => ?_)
    exact z_vretW (x := (r_3.2, r_4)) (ex := ex) (fun z => wX4 T a0 z.1 ++ wX1 T a1 z.2) C hr dX4_readPlace_95 h rfl

def f_X4_readPlace_J66 (S0 : Nat → Nat → Int32) (S1 : Nat → Nat → Int32) (x2 : Int32) (x3 : Int32)  : Option ((Nat → Nat → Int32) × (Nat → Nat → Int32)) := (f_X4_fail S0 3).bind fun r_6 => f_X4_readPlace_J71 r_6 S1 x2 x3
set_option maxHeartbeats 4000000 in
set_option maxRecDepth 100000 in
theorem p_X4_readPlace_J66 {w0 : va_W} (C : zC p R s m args meth c cX4_readPlace 5 RX4 wsX4_readPlace D T 3 63 0 0) (hr : meth.sig.returnType = none) (S0 : Nat → Nat → Int32) (S1 : Nat → Nat → Int32) (x2 : Int32) (x3 : Int32)  (hD : va_D (zA w0) (wX4 T a0 S0 ++ wX1 T a1 S1)) {ex : (Nat → Nat → Int32) × (Nat → Nat → Int32)} (h : f_X4_readPlace_J66 S0 S1 x2 x3 = some ex) : zt p l e R s m args below meth c 5 (zA w0) D 0 0 (MQ below (zQV D w0 (wX4 T a0 ex.1 ++ wX1 T a1 ex.2)) args s 0 0 (zA w0)) (wX4 T a0 S0 ++ wX1 T a1 S1) [(0, .ref (a0 99)), (1, .ref (a1 99)), (2, .int x2), (3, .int x3)] 66 [] := by
  unfold f_X4_readPlace_J66 at h
  refine z_aload_n C dX4_readPlace_66 rfl 0 rfl 67 rfl ?_
  refine z_iconst C 3 dX4_readPlace_67 (by decide) 68 rfl ?_
  refine z_callV C (wX4 T a0 S0) (wX1 T a1 S1) (fun z => wX4 T a0 z) (fun z => wX4 T a0 z ++ wX1 T a1 S1) (fun z h => c_X4_fail l D T a0  S0 3 z h) ⟨rfl, rfl⟩ (z_cwV C 1 gX4_readPlace_X4_fail rfl rfl dd_X4_fail ⟨(Nat.le_of_ble_eq_true rfl), (Nat.le_of_ble_eq_true rfl)⟩) (hD.zaddr rfl) [0, 1] [2, 3, 4, 5, 6] [5, 6, 0, 1, 2, 3, 4] rfl rfl rfl (by decide) (fun _ => rfl) (fun _ => ⟨a0 99, [.int 3], 3, 0, _, _, rfl, rfl, rfl, rfl, rfl⟩) (fun h => absurd rfl h) rfl (Nat.le_of_ble_eq_true rfl) dX4_readPlace_68 71 rfl h (fun r_6 h => ?_)
  exact z_locals (ks := [0, 1, 2, 3]) rfl (p_X4_readPlace_J71 C hr r_6 S1 x2 x3 (hD.zaddr rfl) h)

def f_X4_readPlace_J14 (S0 : Nat → Nat → Int32) (S1 : Nat → Nat → Int32)   : Option ((Nat → Nat → Int32) × (Nat → Nat → Int32)) := (f_X4_readNumber S0 1 (S1 0 0)).bind fun r_1 => (f_X4_readNumber r_1.2 0 ((S1 1 0) - 1)).bind fun r_2 => if (r_2.2 7 0) = 0 then ((f_X6_cellOf r_1.1 r_2.1).bind fun r_5 => zix r_5 240 fun _ => if (S1 9 (Int32.toNatClampNeg r_5)) = 0 then ((f_X1_placeAt S1 r_1.1 r_2.1).bind fun r_7 => if r_7 = (-1) then (f_X4_readPlace_J71 r_2.2 S1 r_1.1 r_2.1) else (f_X4_readPlace_J66 r_2.2 S1 r_1.1 r_2.1)) else (f_X4_readPlace_J66 r_2.2 S1 r_1.1 r_2.1)) else (f_X4_readPlace_J71 r_2.2 S1 r_1.1 r_2.1)
set_option maxHeartbeats 4000000 in
set_option maxRecDepth 100000 in
theorem p_X4_readPlace_J14 {w0 : va_W} (C : zC p R s m args meth c cX4_readPlace 5 RX4 wsX4_readPlace D T 3 63 0 0) (hr : meth.sig.returnType = none) (S0 : Nat → Nat → Int32) (S1 : Nat → Nat → Int32)   (hD : va_D (zA w0) (wX4 T a0 S0 ++ wX1 T a1 S1)) {ex : (Nat → Nat → Int32) × (Nat → Nat → Int32)} (h : f_X4_readPlace_J14 S0 S1 = some ex) : zt p l e R s m args below meth c 5 (zA w0) D 0 0 (MQ below (zQV D w0 (wX4 T a0 ex.1 ++ wX1 T a1 ex.2)) args s 0 0 (zA w0)) (wX4 T a0 S0 ++ wX1 T a1 S1) [(0, .ref (a0 99)), (1, .ref (a1 99))] 14 [] := by
  unfold f_X4_readPlace_J14 at h
  refine z_aload_n C dX4_readPlace_14 rfl 0 rfl 15 rfl ?_
  refine z_iconst C 1 dX4_readPlace_15 (by decide) 16 rfl ?_
  refine z_aload_n C dX4_readPlace_16 rfl 1 rfl 17 rfl ?_
  refine z_get C (in_X4_readPlace_X1) 2 rfl rfl 0 (by decide) (List.mem_of_getElem? (i := 2) rfl) rfl rfl dX4_readPlace_17 20 rfl ?_
  refine z_callW C (wX4 T a0 S0) (wX1 T a1 S1) (fun z => z.1) (fun z => wX4 T a0 z.2) (fun z => wX4 T a0 z.2 ++ wX1 T a1 S1) (fun z h => c_X4_readNumber l D T a0  S0 1 (S1 0 0) z h) ⟨rfl, rfl⟩ (z_cwV C 2 gX4_readPlace_X4_readNumber rfl rfl dd_X4_readNumber ⟨(Nat.le_of_ble_eq_true rfl), (Nat.le_of_ble_eq_true rfl)⟩) (hD.zaddr rfl) [0, 1] [2, 3, 4, 5, 6] [5, 6, 0, 1, 2, 3, 4] rfl rfl rfl (by decide) (fun _ => rfl) (fun _ => ⟨a0 99, [.int 1, .int (S1 0 0)], 3, 0, _, _, rfl, rfl, rfl, rfl, rfl⟩) (fun h => absurd rfl h) rfl (Nat.le_of_ble_eq_true rfl) dX4_readPlace_20 23 rfl h (fun r_1 h => ?_)
  refine z_istore_n C [(0, .ref (a0 99)), (1, .ref (a1 99)), (2, .int r_1.1)] dX4_readPlace_23 rfl (Nat.le_of_ble_eq_true rfl) [1, 2, 0] rfl 24 rfl ?_
  refine z_aload_n C dX4_readPlace_24 rfl 0 rfl 25 rfl ?_
  refine z_iconst C 0 dX4_readPlace_25 (by decide) 26 rfl ?_
  refine z_aload_n C dX4_readPlace_26 rfl 1 rfl 27 rfl ?_
  refine z_get C (in_X4_readPlace_X1) 2 rfl rfl 1 (by decide) (List.mem_of_getElem? (i := 3) rfl) rfl rfl dX4_readPlace_27 30 rfl ?_
  refine z_iconst C 1 dX4_readPlace_30 (by decide) 31 rfl ?_
  refine z_isub C dX4_readPlace_31 32 rfl ?_
  refine z_callW C (wX4 T a0 r_1.2) (wX1 T a1 S1) (fun z => z.1) (fun z => wX4 T a0 z.2) (fun z => wX4 T a0 z.2 ++ wX1 T a1 S1) (fun z h => c_X4_readNumber l D T a0  r_1.2 0 ((S1 1 0) - 1) z h) ⟨rfl, rfl⟩ (z_cwV C 2 gX4_readPlace_X4_readNumber rfl rfl dd_X4_readNumber ⟨(Nat.le_of_ble_eq_true rfl), (Nat.le_of_ble_eq_true rfl)⟩) (hD.zaddr rfl) [0, 1] [2, 3, 4, 5, 6] [5, 6, 0, 1, 2, 3, 4] rfl rfl rfl (by decide) (fun _ => rfl) (fun _ => ⟨a0 99, [.int 0, .int ((S1 1 0) - 1)], 3, 0, _, _, rfl, rfl, rfl, rfl, rfl⟩) (fun h => absurd rfl h) rfl (Nat.le_of_ble_eq_true rfl) dX4_readPlace_32 35 rfl h (fun r_2 h => ?_)
  refine z_istore_n C [(0, .ref (a0 99)), (1, .ref (a1 99)), (2, .int r_1.1), (3, .int r_2.1)] dX4_readPlace_35 rfl (Nat.le_of_ble_eq_true rfl) [1, 2, 3, 0] rfl 36 rfl ?_
  refine z_aload_n C dX4_readPlace_36 rfl 0 rfl 37 rfl ?_
  refine z_get C (in_X4_readPlace_X4) 0 rfl rfl 7 (by decide) (List.mem_of_getElem? (i := 4) rfl) rfl rfl dX4_readPlace_37 40 rfl ?_
  refine z_if_ne C 71 dX4_readPlace_40 (by decide) 43 rfl h (fun h => ?_) (fun h => ?_)
  · exact z_locals (ks := [0, 1, 2, 3]) rfl (p_X4_readPlace_J71 C hr r_2.2 S1 r_1.1 r_2.1 (hD.zaddr rfl) h)
  · refine z_aload_n C dX4_readPlace_43 rfl 1 rfl 44 rfl ?_
    refine z_get C (in_X4_readPlace_X1) 2 rfl rfl 9 (by decide) (List.mem_of_getElem? (i := 5) rfl) rfl rfl dX4_readPlace_44 47 rfl ?_
    refine z_iload_n C dX4_readPlace_47 rfl 2 rfl 48 rfl ?_
    refine z_iload_n C dX4_readPlace_48 rfl 3 rfl 49 rfl ?_
    refine z_callR C ([]) (fun v h => c_X6_cellOf l D T    r_1.1 r_2.1 v h) ⟨rfl, rfl⟩ (z_cwN C 2 gX4_readPlace_X6_cellOf_n101 rfl (List.mem_of_getElem? (i := 5) rfl) (List.mem_of_getElem? (i := 31) rfl) (List.mem_of_getElem? (i := 29) rfl) dd_X6_cellOf ⟨(Nat.le_of_ble_eq_true rfl), (Nat.le_of_ble_eq_true rfl)⟩) (hD.zaddr rfl) [] rfl rfl (fun h => absurd h (by decide)) (fun _ => rfl) rfl (Nat.le_of_ble_eq_true rfl) dX4_readPlace_49 52 rfl h (fun r_5 h => ?_)
    refine z_zald C 6 rfl rfl dX4_readPlace_52 53 rfl h (fun h => ?_)
    refine z_if_ne C 66 dX4_readPlace_53 (by decide) 56 rfl h (fun h => ?_) (fun h => ?_)
    · exact z_locals (ks := [0, 1, 2, 3]) rfl (p_X4_readPlace_J66 C hr r_2.2 S1 r_1.1 r_2.1 (hD.zaddr rfl) h)
    · refine z_aload_n C dX4_readPlace_56 rfl 1 rfl 57 rfl ?_
      refine z_iload_n C dX4_readPlace_57 rfl 2 rfl 58 rfl ?_
      refine z_iload_n C dX4_readPlace_58 rfl 3 rfl 59 rfl ?_
      refine z_callR C (wX1 T a1 S1) (fun v h => c_X1_placeAt l D T a1  S1 r_1.1 r_2.1 v h) ⟨rfl, rfl⟩ (z_cwV C 2 gX4_readPlace_X1_placeAt rfl rfl dd_X1_placeAt ⟨(Nat.le_of_ble_eq_true rfl), (Nat.le_of_ble_eq_true rfl)⟩) (hD.zaddr rfl) [2, 3, 4, 5, 6] rfl rfl (fun _ => ⟨a1 99, [.int r_1.1, .int r_2.1], 1, 0, _, _, rfl, rfl, rfl, rfl, rfl⟩) (fun h => absurd rfl h) rfl (Nat.le_of_ble_eq_true rfl) dX4_readPlace_59 62 rfl h (fun r_7 h => ?_)
      refine z_iconst C (-1) dX4_readPlace_62 (by decide) 63 rfl ?_
      refine z_icmp_eq C 71 dX4_readPlace_63 (by decide) 66 rfl h (fun h => ?_) (fun h => ?_)
      · exact z_locals (ks := [0, 1, 2, 3]) rfl (p_X4_readPlace_J71 C hr r_2.2 S1 r_1.1 r_2.1 (hD.zaddr rfl) h)
      · exact z_locals (ks := [0, 1, 2, 3]) rfl (p_X4_readPlace_J66 C hr r_2.2 S1 r_1.1 r_2.1 (hD.zaddr rfl) h)

def f_X4_readPlace (S0 : Nat → Nat → Int32) (S1 : Nat → Nat → Int32)  : Option ((Nat → Nat → Int32) × (Nat → Nat → Int32)) := if (S1 5 0) < 7 then (f_X4_readPlace_J14 S0 S1) else ((f_X4_fail S0 4).bind fun r_8 => f_X4_readPlace_J14 r_8 S1)
theorem dd_X4_readPlace : RX4 ≠ "java/lang/invoke/MethodHandle" ∧ RX4 ≠ "java/lang/invoke/VarHandle" ∧ (parseMethodDescriptor yX4_readPlace.desc).map (fun d => d.parameters.length) = some 1 := by decide +kernel
set_option maxHeartbeats 4000000 in
set_option maxRecDepth 100000 in
theorem c_X4_readPlace (l : Launch) (D : va_G) (T : Nat → ClassId) (a0 : Nat → Nat) (a1 : Nat → Nat) (S0 : Nat → Nat → Int32) (S1 : Nat → Nat → Int32)  (ex : (Nat → Nat → Int32) × (Nat → Nat → Int32)) (h : f_X4_readPlace S0 S1 = some ex) : zWV l yX4_readPlace wsX4_readPlace ({ frames := 3, cells := 0, slots := 0, locals := 63 } : Room) D T [.ref (a0 99), .ref (a1 99)] (wX4 T a0 S0 ++ wX1 T a1 S1) (wX4 T a0 ex.1 ++ wX1 T a1 ex.2) := by
  refine z_begin (cc := cX4_readPlace) (nL := 5) (own := RX4) (fr := 3) (lc := 63) (ret := none) (by decide) rfl (Nat.le_of_ble_eq_true rfl) (zA (wX4 T a0 S0 ++ wX1 T a1 S1)) rfl [(0, .ref (a0 99)), (1, .ref (a1 99))] rfl ⟨rfl, rfl⟩ rfl ?_
  intro p e s m args below meth c C hr hD
  have hD := hD.zself
  unfold f_X4_readPlace at h
  refine z_aload_n C dX4_readPlace_0 rfl 1 rfl 1 rfl ?_
  refine z_get C (in_X4_readPlace_X1) 2 rfl rfl 5 (by decide) (List.mem_of_getElem? (i := 1) rfl) rfl rfl dX4_readPlace_1 4 rfl ?_
  refine z_bipush C 7 dX4_readPlace_4 (by decide) 6 rfl ?_
  refine z_icmp_lt C 14 dX4_readPlace_6 (by decide) 9 rfl h (fun h => ?_) (fun h => ?_)
  · exact z_locals (ks := [0, 1]) rfl (p_X4_readPlace_J14 C hr S0 S1 (hD.zaddr rfl) h)
  · refine z_aload_n C dX4_readPlace_9 rfl 0 rfl 10 rfl ?_
    refine z_iconst C 4 dX4_readPlace_10 (by decide) 11 rfl ?_
    refine z_callV C (wX4 T a0 S0) (wX1 T a1 S1) (fun z => wX4 T a0 z) (fun z => wX4 T a0 z ++ wX1 T a1 S1) (fun z h => c_X4_fail l D T a0  S0 4 z h) ⟨rfl, rfl⟩ (z_cwV C 1 gX4_readPlace_X4_fail rfl rfl dd_X4_fail ⟨(Nat.le_of_ble_eq_true rfl), (Nat.le_of_ble_eq_true rfl)⟩) (hD.zaddr rfl) [0, 1] [2, 3, 4, 5, 6] [5, 6, 0, 1, 2, 3, 4] rfl rfl rfl (by decide) (fun _ => rfl) (fun _ => ⟨a0 99, [.int 4], 3, 0, _, _, rfl, rfl, rfl, rfl, rfl⟩) (fun h => absurd rfl h) rfl (Nat.le_of_ble_eq_true rfl) dX4_readPlace_11 14 rfl h (fun r_8 h => ?_)
    exact z_locals (ks := [0, 1]) rfl (p_X4_readPlace_J14 C hr r_8 S1 (hD.zaddr rfl) h)

end
/-! StreamTree$Tape.readRocks (LStreamTree$Chart;)V -/
section
variable {p : Program} {l : Launch} {e : Env} {R : Room} {s : State} {m : MethodId} {args : Array Value} {below : List Frame} {meth : Method} {c : Code} {Q : State → Prop} {A : Nat → Prop} {D : va_G} {T : Nat → ClassId} {a0 : Nat → Nat} {a1 : Nat → Nat}
theorem in_X4_readRocks_X4 : ∀ w ∈ u_ws RX4 TX4 8, w ∈ wsX4_readRocks := fun _ h => (List.mem_cons_of_mem _ (List.mem_append_right _ h))
theorem in_X4_readRocks_X1 : ∀ w ∈ u_ws RX1 TX1 10, w ∈ wsX4_readRocks := fun _ h => (List.mem_cons_of_mem _ (List.mem_append_left _ (List.mem_append_right _ h)))
def f_X4_readRocks_J65 (rec : (Int32 × Int32 × (Nat → Nat → Int32) × (Nat → Nat → Int32)) → Option ((Nat → Nat → Int32) × (Nat → Nat → Int32))) (S0 : Nat → Nat → Int32) (S1 : Nat → Nat → Int32) (v2 : Int32) (x3 : Int32) (v4 : Int32) (x5 : Int32)  : Option ((Nat → Nat → Int32) × (Nat → Nat → Int32)) := (f_X6_cellOf v2 x3).bind fun r_5 => zix r_5 240 fun j => zlet (zst S1 9 j 1) fun S1_6 => (f_X1_turnBeside S1_6 x3 2).bind fun r_7 => rec (r_7, (x5 + 1), S0, S1_6)
set_option maxHeartbeats 4000000 in
set_option maxRecDepth 100000 in
theorem p_X4_readRocks_J65 (C : zC p R s m args meth c cX4_readRocks 6 RX4 wsX4_readRocks D T 3 63 0 0) (S0 : Nat → Nat → Int32) (S1 : Nat → Nat → Int32) {v2 : Int32} {v4 : Int32} (x3 : Int32) (x5 : Int32)  (hD : va_D A (wX4 T a0 S0 ++ wX1 T a1 S1)) {rec : (Int32 × Int32 × (Nat → Nat → Int32) × (Nat → Nat → Int32)) → Option ((Nat → Nat → Int32) × (Nat → Nat → Int32))} (hrec : ∀ (c0 : Int32) (c1 : Int32) (c2 : Nat → Nat → Int32) (c3 : Nat → Nat → Int32) (b : (Nat → Nat → Int32) × (Nat → Nat → Int32)), rec (c0, c1, c2, c3) = some b → (zt p l e R s m args below meth c 6 A D 0 0 Q (wX4 T a0 b.1 ++ wX1 T a1 b.2) [] 89 []) → zt p l e R s m args below meth c 6 A D 0 0 Q (wX4 T a0 c2 ++ wX1 T a1 c3) [(0, .ref (a0 99)), (1, .ref (a1 99)), (2, .int v2), (3, .int c0), (4, .int v4), (5, .int c1)] 36 []) {b : (Nat → Nat → Int32) × (Nat → Nat → Int32)} (K : zt p l e R s m args below meth c 6 A D 0 0 Q (wX4 T a0 b.1 ++ wX1 T a1 b.2) [] 89 []) (h : f_X4_readRocks_J65 rec S0 S1 v2 x3 v4 x5 = some b) : zt p l e R s m args below meth c 6 A D 0 0 Q (wX4 T a0 S0 ++ wX1 T a1 S1) [(0, .ref (a0 99)), (1, .ref (a1 99)), (2, .int v2), (3, .int x3), (4, .int v4), (5, .int x5)] 65 [] := by
  unfold f_X4_readRocks_J65 at h
  refine z_aload_n C dX4_readRocks_65 rfl 1 rfl 66 rfl ?_
  refine z_get C (in_X4_readRocks_X1) 2 rfl rfl 9 (by decide) (List.mem_of_getElem? (i := 4) rfl) rfl rfl dX4_readRocks_66 69 rfl ?_
  refine z_iload_n C dX4_readRocks_69 rfl 2 rfl 70 rfl ?_
  refine z_iload_n C dX4_readRocks_70 rfl 3 rfl 71 rfl ?_
  refine z_callR C ([]) (fun v h => c_X6_cellOf l D T    v2 x3 v h) ⟨rfl, rfl⟩ (z_cwN C 2 gX4_readRocks_X6_cellOf_n101 rfl (List.mem_of_getElem? (i := 5) rfl) (List.mem_of_getElem? (i := 38) rfl) (List.mem_of_getElem? (i := 28) rfl) dd_X6_cellOf ⟨(Nat.le_of_ble_eq_true rfl), (Nat.le_of_ble_eq_true rfl)⟩) (hD.zaddr rfl) [] rfl rfl (fun h => absurd h (by decide)) (fun _ => rfl) rfl (Nat.le_of_ble_eq_true rfl) dX4_readRocks_71 74 rfl h (fun r_5 h => ?_)
  refine z_iconst C 1 dX4_readRocks_74 (by decide) 75 rfl ?_
  refine z_zastc (Or.inr rfl) C (fun z => wX4 T a0 S0 ++ wX1 T a1 z) S1 9 (hD.zaddr rfl) 6 rfl rfl (fun _ => rfl) dX4_readRocks_75 76 rfl h (fun S1_6 h => ?_)
  refine z_aload_n C dX4_readRocks_76 rfl 1 rfl 77 rfl ?_
  refine z_iload_n C dX4_readRocks_77 rfl 3 rfl 78 rfl ?_
  refine z_iconst C 2 dX4_readRocks_78 (by decide) 79 rfl ?_
  refine z_callR C (wX1 T a1 S1_6) (fun v h => c_X1_turnBeside l D T a1  S1_6 x3 2 v h) ⟨rfl, rfl⟩ (z_cwV C 2 gX4_readRocks_X1_turnBeside rfl rfl dd_X1_turnBeside ⟨(Nat.le_of_ble_eq_true rfl), (Nat.le_of_ble_eq_true rfl)⟩) (hD.zaddr rfl) [2, 3, 4, 5, 6] rfl rfl (fun _ => ⟨a1 99, [.int x3, .int 2], 1, 0, _, _, rfl, rfl, rfl, rfl, rfl⟩) (fun h => absurd rfl h) rfl (Nat.le_of_ble_eq_true rfl) dX4_readRocks_79 82 rfl h (fun r_7 h => ?_)
  refine z_istore_n C [(0, .ref (a0 99)), (1, .ref (a1 99)), (2, .int v2), (3, .int r_7), (4, .int v4), (5, .int x5)] dX4_readRocks_82 rfl (Nat.le_of_ble_eq_true rfl) [1, 2, 3, 0, 4, 5] rfl 83 rfl ?_
  refine z_iinc C (x5 + 1) [(0, .ref (a0 99)), (1, .ref (a1 99)), (2, .int v2), (3, .int r_7), (4, .int v4), (5, .int (x5 + 1))] dX4_readRocks_83 5 rfl rfl (Nat.le_of_ble_eq_true rfl) [1, 2, 3, 4, 5, 0] rfl 86 rfl ?_
  refine z_goto C 36 dX4_readRocks_86 (by decide) ?_
  exact z_locals (ks := [0, 1, 2, 3, 4, 5]) rfl (hrec _ _ _ _ _ h K)

def f_X4_readRocks_L36b  (v2 : Int32) (v4 : Int32) (rec : (Int32 × Int32 × (Nat → Nat → Int32) × (Nat → Nat → Int32)) → Option ((Nat → Nat → Int32) × (Nat → Nat → Int32))) (a : Int32 × Int32 × (Nat → Nat → Int32) × (Nat → Nat → Int32)) : Option ((Nat → Nat → Int32) × (Nat → Nat → Int32)) := if v4 ≤ a.2.1 then (some (a.2.2.1, a.2.2.2)) else (if (a.2.2.1 7 0) = 0 then ((f_X1_placeAt a.2.2.2 v2 a.1).bind fun r_4 => if r_4 = (-1) then (f_X4_readRocks_J65 rec a.2.2.1 a.2.2.2 v2 a.1 v4 a.2.1) else ((f_X4_fail a.2.2.1 3).bind fun r_8 => f_X4_readRocks_J65 rec r_8 a.2.2.2 v2 a.1 v4 a.2.1)) else (some (a.2.2.1, a.2.2.2)))
def f_X4_readRocks_L36  (v2 : Int32) (v4 : Int32) : Nat → (Int32 × Int32 × (Nat → Nat → Int32) × (Nat → Nat → Int32)) → Option ((Nat → Nat → Int32) × (Nat → Nat → Int32)) := zloop (fun rec a => f_X4_readRocks_L36b v2 v4 rec a)
set_option maxHeartbeats 4000000 in
set_option maxRecDepth 100000 in
theorem p_X4_readRocks_L36 (C : zC p R s m args meth c cX4_readRocks 6 RX4 wsX4_readRocks D T 3 63 0 0) (S0 : Nat → Nat → Int32) (S1 : Nat → Nat → Int32) (v2 : Int32) (v4 : Int32) (hD : va_D A (wX4 T a0 S0 ++ wX1 T a1 S1)) : ∀ (n : Nat) (c0 : Int32) (c1 : Int32) (c2 : Nat → Nat → Int32) (c3 : Nat → Nat → Int32) (b : (Nat → Nat → Int32) × (Nat → Nat → Int32)), f_X4_readRocks_L36 v2 v4 n (c0, c1, c2, c3) = some b → (zt p l e R s m args below meth c 6 A D 0 0 Q (wX4 T a0 b.1 ++ wX1 T a1 b.2) [] 89 []) → zt p l e R s m args below meth c 6 A D 0 0 Q (wX4 T a0 c2 ++ wX1 T a1 c3) [(0, .ref (a0 99)), (1, .ref (a1 99)), (2, .int v2), (3, .int c0), (4, .int v4), (5, .int c1)] 36 [] := by
  intro n c0 c1 c2 c3 b h K
  refine zloop_ind (P := fun a b => (zt p l e R s m args below meth c 6 A D 0 0 Q (wX4 T a0 b.1 ++ wX1 T a1 b.2) [] 89 []) → zt p l e R s m args below meth c 6 A D 0 0 Q (wX4 T a0 a.2.2.1 ++ wX1 T a1 a.2.2.2) [(0, .ref (a0 99)), (1, .ref (a1 99)), (2, .int v2), (3, .int a.1), (4, .int v4), (5, .int a.2.1)] 36 []) ?_ n (c0, c1, c2, c3) b h K
  clear h K b c0 c1 c2 c3
  intro rec hrec a b h K
  have hrec : ∀ (c0 : Int32) (c1 : Int32) (c2 : Nat → Nat → Int32) (c3 : Nat → Nat → Int32) (b : (Nat → Nat → Int32) × (Nat → Nat → Int32)), rec (c0, c1, c2, c3) = some b → (zt p l e R s m args below meth c 6 A D 0 0 Q (wX4 T a0 b.1 ++ wX1 T a1 b.2) [] 89 []) → zt p l e R s m args below meth c 6 A D 0 0 Q (wX4 T a0 c2 ++ wX1 T a1 c3) [(0, .ref (a0 99)), (1, .ref (a1 99)), (2, .int v2), (3, .int c0), (4, .int v4), (5, .int c1)] 36 [] := fun c0 c1 c2 c3 b h K => hrec (c0, c1, c2, c3) b h K
  unfold f_X4_readRocks_L36b at h
  refine z_iload C dX4_readRocks_36 5 rfl 38 rfl ?_
  refine z_iload C dX4_readRocks_38 4 rfl 40 rfl ?_
  refine z_icmp_ge C 89 dX4_readRocks_40 (by decide) 43 rfl h (fun h => ?_) (fun h => ?_)
  · refine z_locals (ks := []) (lv' := []) rfl ?_
    exact zex2 (F := (fun e0 e1 => zt p l e R s m args below meth c 6 A D 0 0 Q (wX4 T a0 e0 ++ wX1 T a1 e1) [] 89 [])) h K
  · refine z_aload_n C dX4_readRocks_43 rfl 0 rfl 44 rfl ?_
    refine z_get C (in_X4_readRocks_X4) 0 rfl rfl 7 (by decide) (List.mem_of_getElem? (i := 3) rfl) rfl rfl dX4_readRocks_44 47 rfl ?_
    refine z_if_ne C 89 dX4_readRocks_47 (by decide) 50 rfl h (fun h => ?_) (fun h => ?_)
    · refine z_locals (ks := []) (lv' := []) rfl ?_
      exact zex2 (F := (fun e0 e1 => zt p l e R s m args below meth c 6 A D 0 0 Q (wX4 T a0 e0 ++ wX1 T a1 e1) [] 89 [])) h K
    · refine z_aload_n C dX4_readRocks_50 rfl 1 rfl 51 rfl ?_
      refine z_iload_n C dX4_readRocks_51 rfl 2 rfl 52 rfl ?_
      refine z_iload_n C dX4_readRocks_52 rfl 3 rfl 53 rfl ?_
      refine z_callR C (wX1 T a1 a.2.2.2) (fun v h => c_X1_placeAt l D T a1  a.2.2.2 v2 a.1 v h) ⟨rfl, rfl⟩ (z_cwV C 2 gX4_readRocks_X1_placeAt rfl rfl dd_X1_placeAt ⟨(Nat.le_of_ble_eq_true rfl), (Nat.le_of_ble_eq_true rfl)⟩) (hD.zaddr rfl) [2, 3, 4, 5, 6] rfl rfl (fun _ => ⟨a1 99, [.int v2, .int a.1], 1, 0, _, _, rfl, rfl, rfl, rfl, rfl⟩) (fun h => absurd rfl h) rfl (Nat.le_of_ble_eq_true rfl) dX4_readRocks_53 56 rfl h (fun r_4 h => ?_)
      refine z_iconst C (-1) dX4_readRocks_56 (by decide) 57 rfl ?_
      refine z_icmp_eq C 65 dX4_readRocks_57 (by decide) 60 rfl h (fun h => ?_) (fun h => ?_)
      · exact z_locals (ks := [0, 1, 2, 3, 4, 5]) rfl (p_X4_readRocks_J65 C a.2.2.1 a.2.2.2 a.1 a.2.1 (hD.zaddr rfl) hrec K h)
      · refine z_aload_n C dX4_readRocks_60 rfl 0 rfl 61 rfl ?_
        refine z_iconst C 3 dX4_readRocks_61 (by decide) 62 rfl ?_
        refine z_callV C (wX4 T a0 a.2.2.1) (wX1 T a1 a.2.2.2) (fun z => wX4 T a0 z) (fun z => wX4 T a0 z ++ wX1 T a1 a.2.2.2) (fun z h => c_X4_fail l D T a0  a.2.2.1 3 z h) ⟨rfl, rfl⟩ (z_cwV C 1 gX4_readRocks_X4_fail rfl rfl dd_X4_fail ⟨(Nat.le_of_ble_eq_true rfl), (Nat.le_of_ble_eq_true rfl)⟩) (hD.zaddr rfl) [0, 1] [2, 3, 4, 5, 6] [5, 6, 0, 1, 2, 3, 4] rfl rfl rfl (by decide) (fun _ => rfl) (fun _ => ⟨a0 99, [.int 3], 3, 0, _, _, rfl, rfl, rfl, rfl, rfl⟩) (fun h => absurd rfl h) rfl (Nat.le_of_ble_eq_true rfl) dX4_readRocks_62 65 rfl h (fun r_8 h => ?_)
        exact z_locals (ks := [0, 1, 2, 3, 4, 5]) rfl (p_X4_readRocks_J65 C r_8 a.2.2.2 a.1 a.2.1 (hD.zaddr rfl) hrec K h)

def f_X4_readRocks (S0 : Nat → Nat → Int32) (S1 : Nat → Nat → Int32)  : Option ((Nat → Nat → Int32) × (Nat → Nat → Int32)) := (f_X4_readNumber S0 1 (S1 0 0)).bind fun r_1 => (f_X4_readNumber r_1.2 0 ((S1 1 0) - 1)).bind fun r_2 => (f_X4_readNumber r_2.2 1 (S1 1 0)).bind fun r_3 => (f_X4_readRocks_L36 r_1.1 r_3.1 zfuel (r_2.1, 0, r_3.2, S1)).bind fun y_9 => some (y_9.1, y_9.2)
theorem dd_X4_readRocks : RX4 ≠ "java/lang/invoke/MethodHandle" ∧ RX4 ≠ "java/lang/invoke/VarHandle" ∧ (parseMethodDescriptor yX4_readRocks.desc).map (fun d => d.parameters.length) = some 1 := by decide +kernel
set_option maxHeartbeats 4000000 in
set_option maxRecDepth 100000 in
theorem c_X4_readRocks (l : Launch) (D : va_G) (T : Nat → ClassId) (a0 : Nat → Nat) (a1 : Nat → Nat) (S0 : Nat → Nat → Int32) (S1 : Nat → Nat → Int32)  (ex : (Nat → Nat → Int32) × (Nat → Nat → Int32)) (h : f_X4_readRocks S0 S1 = some ex) : zWV l yX4_readRocks wsX4_readRocks ({ frames := 3, cells := 0, slots := 0, locals := 63 } : Room) D T [.ref (a0 99), .ref (a1 99)] (wX4 T a0 S0 ++ wX1 T a1 S1) (wX4 T a0 ex.1 ++ wX1 T a1 ex.2) := by
  refine z_begin (cc := cX4_readRocks) (nL := 6) (own := RX4) (fr := 3) (lc := 63) (ret := none) (by decide) rfl (Nat.le_of_ble_eq_true rfl) (zA (wX4 T a0 S0 ++ wX1 T a1 S1)) rfl [(0, .ref (a0 99)), (1, .ref (a1 99))] rfl ⟨rfl, rfl⟩ rfl ?_
  intro p e s m args below meth c C hr hD
  have hD := hD.zself
  unfold f_X4_readRocks at h
  refine z_aload_n C dX4_readRocks_0 rfl 0 rfl 1 rfl ?_
  refine z_iconst C 1 dX4_readRocks_1 (by decide) 2 rfl ?_
  refine z_aload_n C dX4_readRocks_2 rfl 1 rfl 3 rfl ?_
  refine z_get C (in_X4_readRocks_X1) 2 rfl rfl 0 (by decide) (List.mem_of_getElem? (i := 1) rfl) rfl rfl dX4_readRocks_3 6 rfl ?_
  refine z_callW C (wX4 T a0 S0) (wX1 T a1 S1) (fun z => z.1) (fun z => wX4 T a0 z.2) (fun z => wX4 T a0 z.2 ++ wX1 T a1 S1) (fun z h => c_X4_readNumber l D T a0  S0 1 (S1 0 0) z h) ⟨rfl, rfl⟩ (z_cwV C 2 gX4_readRocks_X4_readNumber rfl rfl dd_X4_readNumber ⟨(Nat.le_of_ble_eq_true rfl), (Nat.le_of_ble_eq_true rfl)⟩) (hD.zaddr rfl) [0, 1] [2, 3, 4, 5, 6] [5, 6, 0, 1, 2, 3, 4] rfl rfl rfl (by decide) (fun _ => rfl) (fun _ => ⟨a0 99, [.int 1, .int (S1 0 0)], 3, 0, _, _, rfl, rfl, rfl, rfl, rfl⟩) (fun h => absurd rfl h) rfl (Nat.le_of_ble_eq_true rfl) dX4_readRocks_6 9 rfl h (fun r_1 h => ?_)
  refine z_istore_n C [(0, .ref (a0 99)), (1, .ref (a1 99)), (2, .int r_1.1)] dX4_readRocks_9 rfl (Nat.le_of_ble_eq_true rfl) [1, 2, 0] rfl 10 rfl ?_
  refine z_aload_n C dX4_readRocks_10 rfl 0 rfl 11 rfl ?_
  refine z_iconst C 0 dX4_readRocks_11 (by decide) 12 rfl ?_
  refine z_aload_n C dX4_readRocks_12 rfl 1 rfl 13 rfl ?_
  refine z_get C (in_X4_readRocks_X1) 2 rfl rfl 1 (by decide) (List.mem_of_getElem? (i := 2) rfl) rfl rfl dX4_readRocks_13 16 rfl ?_
  refine z_iconst C 1 dX4_readRocks_16 (by decide) 17 rfl ?_
  refine z_isub C dX4_readRocks_17 18 rfl ?_
  refine z_callW C (wX4 T a0 r_1.2) (wX1 T a1 S1) (fun z => z.1) (fun z => wX4 T a0 z.2) (fun z => wX4 T a0 z.2 ++ wX1 T a1 S1) (fun z h => c_X4_readNumber l D T a0  r_1.2 0 ((S1 1 0) - 1) z h) ⟨rfl, rfl⟩ (z_cwV C 2 gX4_readRocks_X4_readNumber rfl rfl dd_X4_readNumber ⟨(Nat.le_of_ble_eq_true rfl), (Nat.le_of_ble_eq_true rfl)⟩) (hD.zaddr rfl) [0, 1] [2, 3, 4, 5, 6] [5, 6, 0, 1, 2, 3, 4] rfl rfl rfl (by decide) (fun _ => rfl) (fun _ => ⟨a0 99, [.int 0, .int ((S1 1 0) - 1)], 3, 0, _, _, rfl, rfl, rfl, rfl, rfl⟩) (fun h => absurd rfl h) rfl (Nat.le_of_ble_eq_true rfl) dX4_readRocks_18 21 rfl h (fun r_2 h => ?_)
  refine z_istore_n C [(0, .ref (a0 99)), (1, .ref (a1 99)), (2, .int r_1.1), (3, .int r_2.1)] dX4_readRocks_21 rfl (Nat.le_of_ble_eq_true rfl) [1, 2, 3, 0] rfl 22 rfl ?_
  refine z_aload_n C dX4_readRocks_22 rfl 0 rfl 23 rfl ?_
  refine z_iconst C 1 dX4_readRocks_23 (by decide) 24 rfl ?_
  refine z_aload_n C dX4_readRocks_24 rfl 1 rfl 25 rfl ?_
  refine z_get C (in_X4_readRocks_X1) 2 rfl rfl 1 (by decide) (List.mem_of_getElem? (i := 2) rfl) rfl rfl dX4_readRocks_25 28 rfl ?_
  refine z_callW C (wX4 T a0 r_2.2) (wX1 T a1 S1) (fun z => z.1) (fun z => wX4 T a0 z.2) (fun z => wX4 T a0 z.2 ++ wX1 T a1 S1) (fun z h => c_X4_readNumber l D T a0  r_2.2 1 (S1 1 0) z h) ⟨rfl, rfl⟩ (z_cwV C 2 gX4_readRocks_X4_readNumber rfl rfl dd_X4_readNumber ⟨(Nat.le_of_ble_eq_true rfl), (Nat.le_of_ble_eq_true rfl)⟩) (hD.zaddr rfl) [0, 1] [2, 3, 4, 5, 6] [5, 6, 0, 1, 2, 3, 4] rfl rfl rfl (by decide) (fun _ => rfl) (fun _ => ⟨a0 99, [.int 1, .int (S1 1 0)], 3, 0, _, _, rfl, rfl, rfl, rfl, rfl⟩) (fun h => absurd rfl h) rfl (Nat.le_of_ble_eq_true rfl) dX4_readRocks_28 31 rfl h (fun r_3 h => ?_)
  refine z_istore C [(0, .ref (a0 99)), (1, .ref (a1 99)), (2, .int r_1.1), (3, .int r_2.1), (4, .int r_3.1)] dX4_readRocks_31 (Nat.le_of_ble_eq_true rfl) [1, 2, 3, 4, 0] rfl 33 rfl ?_
  refine z_iconst C 0 dX4_readRocks_33 (by decide) 34 rfl ?_
  refine z_istore C [(0, .ref (a0 99)), (1, .ref (a1 99)), (2, .int r_1.1), (3, .int r_2.1), (4, .int r_3.1), (5, .int 0)] dX4_readRocks_34 (Nat.le_of_ble_eq_true rfl) [1, 2, 3, 4, 5, 0] rfl 36 rfl ?_
  obtain ⟨y_9, hl_y_9, h⟩ := Option.bind_eq_some_iff.mp h
  refine z_locals (ks := [0, 1, 2, 3, 4, 5]) rfl (p_X4_readRocks_L36 C r_3.2 S1 r_1.1 r_3.1 (hD.zaddr rfl) _ _ _ _ _ _ hl_y_9 ?_)
  exact z_vretW (x := (y_9.1, y_9.2)) (ex := ex) (fun z => wX4 T a0 z.1 ++ wX1 T a1 z.2) C hr dX4_readRocks_89 h rfl

end
