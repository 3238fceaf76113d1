/-! StreamTreeModel.isWord (IIIII)Z -/
section
variable {p : Program} {l : Launch} {e : Env} {R : Room} {s : State} {m : MethodId} {args : Array Value} {below : List Frame} {meth : Method} {c : Code} {Q : State → Prop} {A : Nat → Prop} {D : va_G} {T : Nat → ClassId} {a0 : Nat → Nat} {a1 : Nat → Nat}
theorem in_X7_isWord_X7 : ∀ w ∈ u_ws RX7 TX7 35, w ∈ wsX7_isWord := fun _ h => (List.mem_cons_of_mem _ (List.mem_append_right _ h))
def f_X7_isWord_J111 (rec : (Int32 × Int32) → Option (Int32)) (S0 : Nat → Nat → Int32) (S1 : Nat → Nat → Int32) (x8 : Int32) (k0 : Int32) : Option (Int32) := rec (k0, (x8 + 1))
set_option maxHeartbeats 4000000 in
set_option maxRecDepth 100000 in
theorem p_X7_isWord_J111 (C : zCN p R s m args meth c cX7_isWord 9 RX7 wsX7_isWord D T 1 21 1) (hA : ∀ q, s.heap.size ≤ q → A q) (S0 : Nat → Nat → Int32) (S1 : Nat → Nat → Int32)  (x8 : Int32) (k0 : Int32) (hD : va_D A (wX7 T a0 S0 ++ wAI 5 T a1 S1)) {rec : (Int32 × Int32) → Option (Int32)} (hrec : ∀ (c0 : Int32) (c1 : Int32) (b : Int32), rec (c0, c1) = some b → (zt p l e R s m args below meth c 9 A D 1 (5 * 1) Q (wX7 T a0 S0 ++ wAI 5 T a1 S1) [(7, .int b)] 119 []) → zt p l e R s m args below meth c 9 A D 1 (5 * 1) Q (wX7 T a0 S0 ++ wAI 5 T a1 S1) [(0, .ref (a0 99)), (6, .ref (a1 0)), (7, .int c0), (8, .int c1)] 58 []) {b : Int32} (K : zt p l e R s m args below meth c 9 A D 1 (5 * 1) Q (wX7 T a0 S0 ++ wAI 5 T a1 S1) [(7, .int b)] 119 []) (h : f_X7_isWord_J111 rec S0 S1 x8 k0 = some b) : zt p l e R s m args below meth c 9 A D 1 (5 * 1) Q (wX7 T a0 S0 ++ wAI 5 T a1 S1) [(0, .ref (a0 99)), (6, .ref (a1 0)), (8, .int x8)] 111 [.int k0] := by
  unfold f_X7_isWord_J111 at h
  refine z_istore (C.1 1 (Nat.le_of_ble_eq_true rfl)) [(0, .ref (a0 99)), (6, .ref (a1 0)), (7, .int k0), (8, .int x8)] dX7_isWord_111 (Nat.le_of_ble_eq_true rfl) [1, 2, 0, 3] rfl 113 rfl ?_
  refine z_iinc (C.1 1 (Nat.le_of_ble_eq_true rfl)) (x8 + 1) [(0, .ref (a0 99)), (6, .ref (a1 0)), (7, .int k0), (8, .int (x8 + 1))] dX7_isWord_113 3 rfl rfl (Nat.le_of_ble_eq_true rfl) [1, 2, 3, 0] rfl 116 rfl ?_
  refine z_goto (C.1 1 (Nat.le_of_ble_eq_true rfl)) 58 dX7_isWord_116 (by decide) ?_
  exact z_locals (ks := [0, 1, 2, 3]) rfl (hrec _ _ _ h K)

def f_X7_isWord_J98 (rec : (Int32 × Int32) → Option (Int32)) (S0 : Nat → Nat → Int32) (S1 : Nat → Nat → Int32) (x8 : Int32) (k0 : Int32) : Option (Int32) := zix x8 5 fun _ => if k0 = (S1 0 (Int32.toNatClampNeg x8)) then (f_X7_isWord_J111 rec S0 S1 x8 1) else (f_X7_isWord_J111 rec S0 S1 x8 0)
set_option maxHeartbeats 4000000 in
set_option maxRecDepth 100000 in
theorem p_X7_isWord_J98 (C : zCN p R s m args meth c cX7_isWord 9 RX7 wsX7_isWord D T 1 21 1) (hA : ∀ q, s.heap.size ≤ q → A q) (S0 : Nat → Nat → Int32) (S1 : Nat → Nat → Int32)  (x8 : Int32) (k0 : Int32) (hD : va_D A (wX7 T a0 S0 ++ wAI 5 T a1 S1)) {rec : (Int32 × Int32) → Option (Int32)} (hrec : ∀ (c0 : Int32) (c1 : Int32) (b : Int32), rec (c0, c1) = some b → (zt p l e R s m args below meth c 9 A D 1 (5 * 1) Q (wX7 T a0 S0 ++ wAI 5 T a1 S1) [(7, .int b)] 119 []) → zt p l e R s m args below meth c 9 A D 1 (5 * 1) Q (wX7 T a0 S0 ++ wAI 5 T a1 S1) [(0, .ref (a0 99)), (6, .ref (a1 0)), (7, .int c0), (8, .int c1)] 58 []) {b : Int32} (K : zt p l e R s m args below meth c 9 A D 1 (5 * 1) Q (wX7 T a0 S0 ++ wAI 5 T a1 S1) [(7, .int b)] 119 []) (h : f_X7_isWord_J98 rec S0 S1 x8 k0 = some b) : zt p l e R s m args below meth c 9 A D 1 (5 * 1) Q (wX7 T a0 S0 ++ wAI 5 T a1 S1) [(0, .ref (a0 99)), (6, .ref (a1 0)), (8, .int x8)] 98 [.int k0] := by
  unfold f_X7_isWord_J98 at h
  refine z_aload (C.1 1 (Nat.le_of_ble_eq_true rfl)) dX7_isWord_98 1 rfl 100 rfl ?_
  refine z_iload (C.1 1 (Nat.le_of_ble_eq_true rfl)) dX7_isWord_100 2 rfl 102 rfl ?_
  refine z_iald (C.1 1 (Nat.le_of_ble_eq_true rfl)) 18 rfl rfl dX7_isWord_102 103 rfl h (fun h => ?_)
  refine z_icmp_ne (C.1 1 (Nat.le_of_ble_eq_true rfl)) 110 dX7_isWord_103 (by decide) 106 rfl h (fun h => ?_) (fun h => ?_)
  · refine z_iconst (C.1 1 (Nat.le_of_ble_eq_true rfl)) 0 dX7_isWord_110 (by decide) 111 rfl ?_
    exact z_locals (ks := [0, 1, 2]) rfl (p_X7_isWord_J111 C hA S0 S1 x8 0 (hD.zaddr rfl) hrec K h)
  · refine z_iconst (C.1 1 (Nat.le_of_ble_eq_true rfl)) 1 dX7_isWord_106 (by decide) 107 rfl ?_
    refine z_goto (C.1 1 (Nat.le_of_ble_eq_true rfl)) 111 dX7_isWord_107 (by decide) ?_
    exact z_locals (ks := [0, 1, 2]) rfl (p_X7_isWord_J111 C hA S0 S1 x8 1 (hD.zaddr rfl) hrec K h)

def f_X7_isWord_L58b (S0 : Nat → Nat → Int32) (S1 : Nat → Nat → Int32)  (rec : (Int32 × Int32) → Option (Int32)) (a : Int32 × Int32) : Option (Int32) := if 5 ≤ a.2 then (some a.1) else (if a.1 = 0 then (some a.1) else (if ((S0 15 0) - (S0 14 0)) ≤ a.2 then (f_X7_isWord_J98 rec S0 S1 a.2 0) else ((f_X7_byteAt S0 ((S0 14 0) + a.2)).bind fun r_6 => f_X7_isWord_J98 rec S0 S1 a.2 r_6)))
def f_X7_isWord_L58 (S0 : Nat → Nat → Int32) (S1 : Nat → Nat → Int32)  : Nat → (Int32 × Int32) → Option (Int32) := zloop (fun rec a => f_X7_isWord_L58b S0 S1 rec a)
set_option maxHeartbeats 4000000 in
set_option maxRecDepth 100000 in
theorem p_X7_isWord_L58 (C : zCN p R s m args meth c cX7_isWord 9 RX7 wsX7_isWord D T 1 21 1) (hA : ∀ q, s.heap.size ≤ q → A q) (S0 : Nat → Nat → Int32) (S1 : Nat → Nat → Int32)  (hD : va_D A (wX7 T a0 S0 ++ wAI 5 T a1 S1)) : ∀ (n : Nat) (c0 : Int32) (c1 : Int32) (b : Int32), f_X7_isWord_L58 S0 S1 n (c0, c1) = some b → (zt p l e R s m args below meth c 9 A D 1 (5 * 1) Q (wX7 T a0 S0 ++ wAI 5 T a1 S1) [(7, .int b)] 119 []) → zt p l e R s m args below meth c 9 A D 1 (5 * 1) Q (wX7 T a0 S0 ++ wAI 5 T a1 S1) [(0, .ref (a0 99)), (6, .ref (a1 0)), (7, .int c0), (8, .int c1)] 58 [] := by
  intro n c0 c1 b h K
  refine zloop_ind (P := fun a b => (zt p l e R s m args below meth c 9 A D 1 (5 * 1) Q (wX7 T a0 S0 ++ wAI 5 T a1 S1) [(7, .int b)] 119 []) → zt p l e R s m args below meth c 9 A D 1 (5 * 1) Q (wX7 T a0 S0 ++ wAI 5 T a1 S1) [(0, .ref (a0 99)), (6, .ref (a1 0)), (7, .int a.1), (8, .int a.2)] 58 []) ?_ n (c0, c1) b h K
  clear h K b c0 c1
  intro rec hrec a b h K
  have hrec : ∀ (c0 : Int32) (c1 : Int32) (b : Int32), rec (c0, c1) = some b → (zt p l e R s m args below meth c 9 A D 1 (5 * 1) Q (wX7 T a0 S0 ++ wAI 5 T a1 S1) [(7, .int b)] 119 []) → zt p l e R s m args below meth c 9 A D 1 (5 * 1) Q (wX7 T a0 S0 ++ wAI 5 T a1 S1) [(0, .ref (a0 99)), (6, .ref (a1 0)), (7, .int c0), (8, .int c1)] 58 [] := fun c0 c1 b h K => hrec (c0, c1) b h K
  unfold f_X7_isWord_L58b at h
  refine z_iload (C.1 1 (Nat.le_of_ble_eq_true rfl)) dX7_isWord_58 3 rfl 60 rfl ?_
  refine z_iconst (C.1 1 (Nat.le_of_ble_eq_true rfl)) 5 dX7_isWord_60 (by decide) 61 rfl ?_
  refine z_icmp_ge (C.1 1 (Nat.le_of_ble_eq_true rfl)) 119 dX7_isWord_61 (by decide) 64 rfl h (fun h => ?_) (fun h => ?_)
  · refine z_locals (ks := [2]) (lv' := [(7, .int a.1)]) rfl ?_
    exact zex1 (F := (fun e0 => zt p l e R s m args below meth c 9 A D 1 (5 * 1) Q (wX7 T a0 S0 ++ wAI 5 T a1 S1) [(7, .int e0)] 119 [])) h K
  · refine z_iload (C.1 1 (Nat.le_of_ble_eq_true rfl)) dX7_isWord_64 2 rfl 66 rfl ?_
    refine z_if_eq (C.1 1 (Nat.le_of_ble_eq_true rfl)) 119 dX7_isWord_66 (by decide) 69 rfl h (fun h => ?_) (fun h => ?_)
    · refine z_locals (ks := [2]) (lv' := [(7, .int a.1)]) rfl ?_
      exact zex1 (F := (fun e0 => zt p l e R s m args below meth c 9 A D 1 (5 * 1) Q (wX7 T a0 S0 ++ wAI 5 T a1 S1) [(7, .int e0)] 119 [])) h K
    · refine z_iload (C.1 1 (Nat.le_of_ble_eq_true rfl)) dX7_isWord_69 3 rfl 71 rfl ?_
      refine z_aload_n (C.1 1 (Nat.le_of_ble_eq_true rfl)) dX7_isWord_71 rfl 0 rfl 72 rfl ?_
      refine z_get (C.1 1 (Nat.le_of_ble_eq_true rfl)) (in_X7_isWord_X7) 0 rfl rfl 15 (by decide) (List.mem_of_getElem? (i := 3) rfl) rfl rfl dX7_isWord_72 75 rfl ?_
      refine z_aload_n (C.1 1 (Nat.le_of_ble_eq_true rfl)) dX7_isWord_75 rfl 0 rfl 76 rfl ?_
      refine z_get (C.1 1 (Nat.le_of_ble_eq_true rfl)) (in_X7_isWord_X7) 0 rfl rfl 14 (by decide) (List.mem_of_getElem? (i := 4) rfl) rfl rfl dX7_isWord_76 79 rfl ?_
      refine z_isub (C.1 1 (Nat.le_of_ble_eq_true rfl)) dX7_isWord_79 80 rfl ?_
      refine z_icmp_ge (C.1 1 (Nat.le_of_ble_eq_true rfl)) 97 dX7_isWord_80 (by decide) 83 rfl h (fun h => ?_) (fun h => ?_)
      · refine z_iconst (C.1 1 (Nat.le_of_ble_eq_true rfl)) 0 dX7_isWord_97 (by decide) 98 rfl ?_
        exact z_locals (ks := [0, 1, 3]) rfl (p_X7_isWord_J98 C hA S0 S1 a.2 0 (hD.zaddr rfl) hrec K h)
      · refine z_aload_n (C.1 1 (Nat.le_of_ble_eq_true rfl)) dX7_isWord_83 rfl 0 rfl 84 rfl ?_
        refine z_aload_n (C.1 1 (Nat.le_of_ble_eq_true rfl)) dX7_isWord_84 rfl 0 rfl 85 rfl ?_
        refine z_get (C.1 1 (Nat.le_of_ble_eq_true rfl)) (in_X7_isWord_X7) 0 rfl rfl 14 (by decide) (List.mem_of_getElem? (i := 4) rfl) rfl rfl dX7_isWord_85 88 rfl ?_
        refine z_iload (C.1 1 (Nat.le_of_ble_eq_true rfl)) dX7_isWord_88 3 rfl 90 rfl ?_
        refine z_iadd (C.1 1 (Nat.le_of_ble_eq_true rfl)) dX7_isWord_90 91 rfl ?_
        refine z_callR (C.1 1 (Nat.le_of_ble_eq_true rfl)) (wX7 T a0 S0) (fun v h => c_X7_byteAt l D T a0  S0 ((S0 14 0) + a.2) v h) ⟨rfl, rfl⟩ (z_cwV (C.1 1 (Nat.le_of_ble_eq_true rfl)) 1 gX7_isWord_X7_byteAt rfl rfl dd_X7_byteAt ⟨(Nat.le_of_ble_eq_true rfl), (Nat.le_of_ble_eq_true rfl)⟩) (hD.zaddr rfl) [0, 1, 2, 3, 4, 5, 6, 7, 8, 9, 10, 11, 12, 13, 14, 15, 16, 17] rfl rfl (fun _ => ⟨a0 99, [.int ((S0 14 0) + a.2)], 6, 0, _, _, rfl, rfl, rfl, rfl, rfl⟩) (fun h => absurd rfl h) rfl (Nat.le_of_ble_eq_true rfl) dX7_isWord_91 94 rfl h (fun r_6 h => ?_)
        refine z_goto (C.1 1 (Nat.le_of_ble_eq_true rfl)) 98 dX7_isWord_94 (by decide) ?_
        exact z_locals (ks := [0, 1, 3]) rfl (p_X7_isWord_J98 C hA S0 S1 a.2 r_6 (hD.zaddr rfl) hrec K h)

def f_X7_isWord_J53 (S0 : Nat → Nat → Int32) (S1 : Nat → Nat → Int32)  (k0 : Int32) : Option (Int32) := (f_X7_isWord_L58 S0 S1 zfuel (k0, 0)).bind fun y_7 => zbo y_7 (some y_7)
set_option maxHeartbeats 4000000 in
set_option maxRecDepth 100000 in
theorem p_X7_isWord_J53 {w0 : va_W} {sz : Nat} (C : zCN p R s m args meth c cX7_isWord 9 RX7 wsX7_isWord D T 1 21 1) (hA : ∀ q, s.heap.size ≤ q → (zAn w0 sz) q) (hr : meth.sig.returnType = some .boolean) (S0 : Nat → Nat → Int32) (S1 : Nat → Nat → Int32)  (k0 : Int32) (hD : va_D (zAn w0 sz) (wX7 T a0 S0 ++ wAI 5 T a1 S1)) {ex : Int32} (h : f_X7_isWord_J53 S0 S1 k0 = some ex) : zt p l e R s m args below meth c 9 (zAn w0 sz) D 1 (5 * 1) (MQ below (zQN D w0 sz ex (wX7 T a0 S0)) args s 1 (5 * 1) (zAn w0 sz)) (wX7 T a0 S0 ++ wAI 5 T a1 S1) [(0, .ref (a0 99)), (6, .ref (a1 0))] 53 [.int k0] := by
  unfold f_X7_isWord_J53 at h
  refine z_istore (C.1 1 (Nat.le_of_ble_eq_true rfl)) [(0, .ref (a0 99)), (6, .ref (a1 0)), (7, .int k0)] dX7_isWord_53 (Nat.le_of_ble_eq_true rfl) [1, 2, 0] rfl 55 rfl ?_
  refine z_iconst (C.1 1 (Nat.le_of_ble_eq_true rfl)) 0 dX7_isWord_55 (by decide) 56 rfl ?_
  refine z_istore (C.1 1 (Nat.le_of_ble_eq_true rfl)) [(0, .ref (a0 99)), (6, .ref (a1 0)), (7, .int k0), (8, .int 0)] dX7_isWord_56 (Nat.le_of_ble_eq_true rfl) [1, 2, 3, 0] rfl 58 rfl ?_
  obtain ⟨y_7, hl_y_7, h⟩ := Option.bind_eq_some_iff.mp h
  refine z_locals (ks := [0, 1, 2, 3]) rfl (p_X7_isWord_L58 C hA S0 S1  (hD.zaddr rfl) _ _ _ _ hl_y_7 ?_)
  refine z_iload (C.1 1 (Nat.le_of_ble_eq_true rfl)) dX7_isWord_119 0 rfl 121 rfl ?_
  refine z_drop ?_
  exact z_zretN0 C (Nat.le_of_ble_eq_true rfl) hr dX7_isWord_121 h

def f_X7_isWord_J52 (S0 : Nat → Nat → Int32) (S1 : Nat → Nat → Int32)   : Option (Int32) := f_X7_isWord_J53 S0 S1 0
set_option maxHeartbeats 4000000 in
set_option maxRecDepth 100000 in
theorem p_X7_isWord_J52 {w0 : va_W} {sz : Nat} (C : zCN p R s m args meth c cX7_isWord 9 RX7 wsX7_isWord D T 1 21 1) (hA : ∀ q, s.heap.size ≤ q → (zAn w0 sz) q) (hr : meth.sig.returnType = some .boolean) (S0 : Nat → Nat → Int32) (S1 : Nat → Nat → Int32)   (hD : va_D (zAn w0 sz) (wX7 T a0 S0 ++ wAI 5 T a1 S1)) {ex : Int32} (h : f_X7_isWord_J52 S0 S1 = some ex) : zt p l e R s m args below meth c 9 (zAn w0 sz) D 1 (5 * 1) (MQ below (zQN D w0 sz ex (wX7 T a0 S0)) args s 1 (5 * 1) (zAn w0 sz)) (wX7 T a0 S0 ++ wAI 5 T a1 S1) [(0, .ref (a0 99)), (6, .ref (a1 0))] 52 [] := by
  unfold f_X7_isWord_J52 at h
  refine z_iconst (C.1 1 (Nat.le_of_ble_eq_true rfl)) 0 dX7_isWord_52 (by decide) 53 rfl ?_
  exact z_locals (ks := [0, 1]) rfl (p_X7_isWord_J53 C hA hr S0 S1 0 (hD.zaddr rfl) h)

def f_X7_isWord (S0 : Nat → Nat → Int32) (v1 : Int32) (v2 : Int32) (v3 : Int32) (v4 : Int32) (v5 : Int32) : Option (Int32) := zix 0 5 fun j => zlet (zst (fun _ _ => 0) 0 j v1) fun S1_1 => zix 1 5 fun j => zlet (zst S1_1 0 j v2) fun S1_2 => zix 2 5 fun j => zlet (zst S1_2 0 j v3) fun S1_3 => zix 3 5 fun j => zlet (zst S1_3 0 j v4) fun S1_4 => zix 4 5 fun j => zlet (zst S1_4 0 j v5) fun S1_5 => if (S0 16 0) = 1 then (if 5 < ((S0 15 0) - (S0 14 0)) then (f_X7_isWord_J52 S0 S1_5) else (f_X7_isWord_J53 S0 S1_5 1)) else (f_X7_isWord_J52 S0 S1_5)
theorem dd_X7_isWord : RX7 ≠ "java/lang/invoke/MethodHandle" ∧ RX7 ≠ "java/lang/invoke/VarHandle" ∧ (parseMethodDescriptor yX7_isWord.desc).map (fun d => d.parameters.length) = some 5 := by decide +kernel
set_option maxHeartbeats 4000000 in
set_option maxRecDepth 100000 in
theorem c_X7_isWord (l : Launch) (D : va_G) (T : Nat → ClassId) (a0 : Nat → Nat) (S0 : Nat → Nat → Int32) (v1 : Int32) (v2 : Int32) (v3 : Int32) (v4 : Int32) (v5 : Int32) (ex : Int32) (h : f_X7_isWord S0 v1 v2 v3 v4 v5 = some ex) (sz : Nat) : zWN l yX7_isWord wsX7_isWord 1 21 D T [.ref (a0 99), .int v1, .int v2, .int v3, .int v4, .int v5] (wX7 T a0 S0) sz ex (wX7 T a0 S0) 1 := by
  refine z_beginN (cc := cX7_isWord) (nL := 9) (own := RX7) (ret := some .boolean) (by decide) rfl (Nat.le_of_ble_eq_true rfl) [(0, .ref (a0 99)), (1, .int v1), (2, .int v2), (3, .int v3), (4, .int v4), (5, .int v5)] rfl rfl ?_
  intro p e s m args below meth c C hr hD hA
  have hD := zAn.hD (sz := sz) hD
  unfold f_X7_isWord at h
  refine z_iconst (C.1 0 (Nat.zero_le _)) 5 dX7_isWord_0 (by decide) 1 rfl ?_
  refine z_newa5 C (Nat.le_of_ble_eq_true rfl) (List.mem_of_getElem? (i := 1) rfl) (hD.zaddr rfl) hA dX7_isWord_1 1 rfl 3 rfl (fun a1 hD => ?_)
  refine z_dup (C.1 1 (Nat.le_of_ble_eq_true rfl)) dX7_isWord_3 rfl 4 rfl ?_
  refine z_iconst (C.1 1 (Nat.le_of_ble_eq_true rfl)) 0 dX7_isWord_4 (by decide) 5 rfl ?_
  refine z_iload_n (C.1 1 (Nat.le_of_ble_eq_true rfl)) dX7_isWord_5 rfl 1 rfl 6 rfl ?_
  refine z_iast (C.1 1 (Nat.le_of_ble_eq_true rfl)) (fun z => wX7 T a0 S0 ++ wAI 5 T a1 z) (fun _ _ => 0) 0 (hD.zaddr rfl) 18 rfl rfl (fun _ => rfl) dX7_isWord_6 7 rfl h (fun S1_1 h => ?_)
  refine z_dup (C.1 1 (Nat.le_of_ble_eq_true rfl)) dX7_isWord_7 rfl 8 rfl ?_
  refine z_iconst (C.1 1 (Nat.le_of_ble_eq_true rfl)) 1 dX7_isWord_8 (by decide) 9 rfl ?_
  refine z_iload_n (C.1 1 (Nat.le_of_ble_eq_true rfl)) dX7_isWord_9 rfl 2 rfl 10 rfl ?_
  refine z_iast (C.1 1 (Nat.le_of_ble_eq_true rfl)) (fun z => wX7 T a0 S0 ++ wAI 5 T a1 z) S1_1 0 (hD.zaddr rfl) 18 rfl rfl (fun _ => rfl) dX7_isWord_10 11 rfl h (fun S1_2 h => ?_)
  refine z_dup (C.1 1 (Nat.le_of_ble_eq_true rfl)) dX7_isWord_11 rfl 12 rfl ?_
  refine z_iconst (C.1 1 (Nat.le_of_ble_eq_true rfl)) 2 dX7_isWord_12 (by decide) 13 rfl ?_
  refine z_iload_n (C.1 1 (Nat.le_of_ble_eq_true rfl)) dX7_isWord_13 rfl 3 rfl 14 rfl ?_
  refine z_iast (C.1 1 (Nat.le_of_ble_eq_true rfl)) (fun z => wX7 T a0 S0 ++ wAI 5 T a1 z) S1_2 0 (hD.zaddr rfl) 18 rfl rfl (fun _ => rfl) dX7_isWord_14 15 rfl h (fun S1_3 h => ?_)
  refine z_dup (C.1 1 (Nat.le_of_ble_eq_true rfl)) dX7_isWord_15 rfl 16 rfl ?_
  refine z_iconst (C.1 1 (Nat.le_of_ble_eq_true rfl)) 3 dX7_isWord_16 (by decide) 17 rfl ?_
  refine z_iload (C.1 1 (Nat.le_of_ble_eq_true rfl)) dX7_isWord_17 4 rfl 19 rfl ?_
  refine z_iast (C.1 1 (Nat.le_of_ble_eq_true rfl)) (fun z => wX7 T a0 S0 ++ wAI 5 T a1 z) S1_3 0 (hD.zaddr rfl) 18 rfl rfl (fun _ => rfl) dX7_isWord_19 20 rfl h (fun S1_4 h => ?_)
  refine z_dup (C.1 1 (Nat.le_of_ble_eq_true rfl)) dX7_isWord_20 rfl 21 rfl ?_
  refine z_iconst (C.1 1 (Nat.le_of_ble_eq_true rfl)) 4 dX7_isWord_21 (by decide) 22 rfl ?_
  refine z_iload (C.1 1 (Nat.le_of_ble_eq_true rfl)) dX7_isWord_22 5 rfl 24 rfl ?_
  refine z_iast (C.1 1 (Nat.le_of_ble_eq_true rfl)) (fun z => wX7 T a0 S0 ++ wAI 5 T a1 z) S1_4 0 (hD.zaddr rfl) 18 rfl rfl (fun _ => rfl) dX7_isWord_24 25 rfl h (fun S1_5 h => ?_)
  refine z_astore (C.1 1 (Nat.le_of_ble_eq_true rfl)) [(0, .ref (a0 99)), (1, .int v1), (2, .int v2), (3, .int v3), (4, .int v4), (5, .int v5), (6, .ref (a1 0))] dX7_isWord_25 (Nat.le_of_ble_eq_true rfl) [1, 2, 3, 4, 5, 6, 0] rfl 27 rfl ?_
  refine z_aload_n (C.1 1 (Nat.le_of_ble_eq_true rfl)) dX7_isWord_27 rfl 0 rfl 28 rfl ?_
  refine z_get (C.1 1 (Nat.le_of_ble_eq_true rfl)) (in_X7_isWord_X7) 0 rfl rfl 16 (by decide) (List.mem_of_getElem? (i := 2) rfl) rfl rfl dX7_isWord_28 31 rfl ?_
  refine z_iconst (C.1 1 (Nat.le_of_ble_eq_true rfl)) 1 dX7_isWord_31 (by decide) 32 rfl ?_
  refine z_icmp_ne (C.1 1 (Nat.le_of_ble_eq_true rfl)) 52 dX7_isWord_32 (by decide) 35 rfl h (fun h => ?_) (fun h => ?_)
  · exact z_locals (ks := [0, 6]) rfl (p_X7_isWord_J52 C hA hr S0 S1_5 (hD.zaddr rfl) h)
  · refine z_aload_n (C.1 1 (Nat.le_of_ble_eq_true rfl)) dX7_isWord_35 rfl 0 rfl 36 rfl ?_
    refine z_get (C.1 1 (Nat.le_of_ble_eq_true rfl)) (in_X7_isWord_X7) 0 rfl rfl 15 (by decide) (List.mem_of_getElem? (i := 3) rfl) rfl rfl dX7_isWord_36 39 rfl ?_
    refine z_aload_n (C.1 1 (Nat.le_of_ble_eq_true rfl)) dX7_isWord_39 rfl 0 rfl 40 rfl ?_
    refine z_get (C.1 1 (Nat.le_of_ble_eq_true rfl)) (in_X7_isWord_X7) 0 rfl rfl 14 (by decide) (List.mem_of_getElem? (i := 4) rfl) rfl rfl dX7_isWord_40 43 rfl ?_
    refine z_isub (C.1 1 (Nat.le_of_ble_eq_true rfl)) dX7_isWord_43 44 rfl ?_
    refine z_iconst (C.1 1 (Nat.le_of_ble_eq_true rfl)) 5 dX7_isWord_44 (by decide) 45 rfl ?_
    refine z_icmp_gt (C.1 1 (Nat.le_of_ble_eq_true rfl)) 52 dX7_isWord_45 (by decide) 48 rfl h (fun h => ?_) (fun h => ?_)
    · exact z_locals (ks := [0, 6]) rfl (p_X7_isWord_J52 C hA hr S0 S1_5 (hD.zaddr rfl) h)
    · refine z_iconst (C.1 1 (Nat.le_of_ble_eq_true rfl)) 1 dX7_isWord_48 (by decide) 49 rfl ?_
      refine z_goto (C.1 1 (Nat.le_of_ble_eq_true rfl)) 53 dX7_isWord_49 (by decide) ?_
      exact z_locals (ks := [0, 6]) rfl (p_X7_isWord_J53 C hA hr S0 S1_5 1 (hD.zaddr rfl) h)

end
/-! StreamTreeModel.line ()Z -/
section
variable {p : Program} {l : Launch} {e : Env} {R : Room} {s : State} {m : MethodId} {args : Array Value} {below : List Frame} {meth : Method} {c : Code} {Q : State → Prop} {A : Nat → Prop} {D : va_G} {T : Nat → ClassId} {a0 : Nat → Nat}
theorem in_X7_line_X7 : ∀ w ∈ u_ws RX7 TX7 35, w ∈ wsX7_line := fun _ h => (List.mem_cons_of_mem _ (List.mem_append_right _ h))
def f_X7_line (S0 : Nat → Nat → Int32)  : Option (Int32 × (Nat → Nat → Int32)) := (f_X7_isWord S0 112 108 97 99 101).bind fun r_1 => if r_1 = 0 then ((f_X7_isWord S0 114 111 99 107 115).bind fun r_2 => if r_2 = 0 then ((f_X7_isWord S0 98 97 115 101 0).bind fun r_3 => if r_3 = 0 then ((f_X7_isWord S0 98 101 110 100 0).bind fun r_4 => if r_4 = 0 then ((f_X7_isWord S0 114 101 97 99 104).bind fun r_5 => if r_5 = 0 then ((f_X7_bad S0 1 (S0 14 0)).bind fun r_6 => zbo r_6.1 (some (r_6.1, r_6.2))) else ((f_X7_setLine S0 2).bind fun r_7 => zbo r_7.1 (some (r_7.1, r_7.2)))) else ((f_X7_setLine S0 1).bind fun r_8 => zbo r_8.1 (some (r_8.1, r_8.2)))) else ((f_X7_setLine S0 0).bind fun r_9 => zbo r_9.1 (some (r_9.1, r_9.2)))) else ((f_X7_rocksLine S0).bind fun r_10 => zbo r_10.1 (some (r_10.1, r_10.2)))) else ((f_X7_placeLine S0).bind fun r_11 => zbo r_11.1 (some (r_11.1, r_11.2)))
theorem dd_X7_line : RX7 ≠ "java/lang/invoke/MethodHandle" ∧ RX7 ≠ "java/lang/invoke/VarHandle" ∧ (parseMethodDescriptor yX7_line.desc).map (fun d => d.parameters.length) = some 0 := by decide +kernel
set_option maxHeartbeats 4000000 in
set_option maxRecDepth 100000 in
theorem c_X7_line (l : Launch) (D : va_G) (T : Nat → ClassId) (a0 : Nat → Nat) (S0 : Nat → Nat → Int32)  (ex : Int32 × (Nat → Nat → Int32)) (h : f_X7_line S0 = some ex) (sz : Nat) : zWN l yX7_line wsX7_line 5 109 D T [.ref (a0 99)] (wX7 T a0 S0) sz ex.1 (wX7 T a0 ex.2) 5 := by
  refine z_beginN (cc := cX7_line) (nL := 1) (own := RX7) (ret := some .boolean) (by decide) rfl (Nat.le_of_ble_eq_true rfl) [(0, .ref (a0 99))] rfl rfl ?_
  intro p e s m args below meth c C hr hD hA
  have hD := zAn.hD (sz := sz) hD
  unfold f_X7_line at h
  refine z_aload_n (C.1 0 (Nat.zero_le _)) dX7_line_0 rfl 0 rfl 1 rfl ?_
  refine z_bipush (C.1 0 (Nat.zero_le _)) 112 dX7_line_1 (by decide) 3 rfl ?_
  refine z_bipush (C.1 0 (Nat.zero_le _)) 108 dX7_line_3 (by decide) 5 rfl ?_
  refine z_bipush (C.1 0 (Nat.zero_le _)) 97 dX7_line_5 (by decide) 7 rfl ?_
  refine z_bipush (C.1 0 (Nat.zero_le _)) 99 dX7_line_7 (by decide) 9 rfl ?_
  refine z_bipush (C.1 0 (Nat.zero_le _)) 101 dX7_line_9 (by decide) 11 rfl ?_
  refine z_callN (k := 0) (kc := 1) C (wX7 T a0 S0) (fun z => z) (fun z => wX7 T a0 S0) (fun sz z h => c_X7_isWord l D T a0  S0 112 108 97 99 101 z h sz) (z_cwVN (rm := ({ frames := 1, cells := 1, slots := 5 * 1, locals := 21 } : Room)) (C.1 0 (Nat.zero_le _)) 5 gX7_line_X7_isWord rfl rfl dd_X7_isWord ⟨(Nat.le_of_ble_eq_true rfl), (Nat.le_of_ble_eq_true rfl)⟩) (Nat.le_of_ble_eq_true rfl) (hD.zaddr rfl) hA ⟨a0 99, [.int 112, .int 108, .int 97, .int 99, .int 101], 6, 0, _, _, rfl, rfl, rfl, rfl, rfl⟩ rfl (Nat.le_of_ble_eq_true rfl) dX7_line_11 1 rfl 14 rfl h (fun r_1 h => ?_)
  refine z_if_eq (C.1 1 (Nat.le_of_ble_eq_true rfl)) 22 dX7_line_14 (by decide) 17 rfl h (fun h => ?_) (fun h => ?_)
  · refine z_aload_n (C.1 1 (Nat.le_of_ble_eq_true rfl)) dX7_line_22 rfl 0 rfl 23 rfl ?_
    refine z_bipush (C.1 1 (Nat.le_of_ble_eq_true rfl)) 114 dX7_line_23 (by decide) 25 rfl ?_
    refine z_bipush (C.1 1 (Nat.le_of_ble_eq_true rfl)) 111 dX7_line_25 (by decide) 27 rfl ?_
    refine z_bipush (C.1 1 (Nat.le_of_ble_eq_true rfl)) 99 dX7_line_27 (by decide) 29 rfl ?_
    refine z_bipush (C.1 1 (Nat.le_of_ble_eq_true rfl)) 107 dX7_line_29 (by decide) 31 rfl ?_
    refine z_bipush (C.1 1 (Nat.le_of_ble_eq_true rfl)) 115 dX7_line_31 (by decide) 33 rfl ?_
    refine z_callN (k := 1) (kc := 1) C (wX7 T a0 S0) (fun z => z) (fun z => wX7 T a0 S0) (fun sz z h => c_X7_isWord l D T a0  S0 114 111 99 107 115 z h sz) (z_cwVN (rm := ({ frames := 1, cells := 1, slots := 5 * 1, locals := 21 } : Room)) (C.1 1 (Nat.le_of_ble_eq_true rfl)) 5 gX7_line_X7_isWord rfl rfl dd_X7_isWord ⟨(Nat.le_of_ble_eq_true rfl), (Nat.le_of_ble_eq_true rfl)⟩) (Nat.le_of_ble_eq_true rfl) (hD.zaddr rfl) hA ⟨a0 99, [.int 114, .int 111, .int 99, .int 107, .int 115], 6, 0, _, _, rfl, rfl, rfl, rfl, rfl⟩ rfl (Nat.le_of_ble_eq_true rfl) dX7_line_33 2 rfl 36 rfl h (fun r_2 h => ?_)
    refine z_if_eq (C.1 2 (Nat.le_of_ble_eq_true rfl)) 44 dX7_line_36 (by decide) 39 rfl h (fun h => ?_) (fun h => ?_)
    · refine z_aload_n (C.1 2 (Nat.le_of_ble_eq_true rfl)) dX7_line_44 rfl 0 rfl 45 rfl ?_
      refine z_bipush (C.1 2 (Nat.le_of_ble_eq_true rfl)) 98 dX7_line_45 (by decide) 47 rfl ?_
      refine z_bipush (C.1 2 (Nat.le_of_ble_eq_true rfl)) 97 dX7_line_47 (by decide) 49 rfl ?_
      refine z_bipush (C.1 2 (Nat.le_of_ble_eq_true rfl)) 115 dX7_line_49 (by decide) 51 rfl ?_
      refine z_bipush (C.1 2 (Nat.le_of_ble_eq_true rfl)) 101 dX7_line_51 (by decide) 53 rfl ?_
      refine z_iconst (C.1 2 (Nat.le_of_ble_eq_true rfl)) 0 dX7_line_53 (by decide) 54 rfl ?_
      refine z_callN (k := 2) (kc := 1) C (wX7 T a0 S0) (fun z => z) (fun z => wX7 T a0 S0) (fun sz z h => c_X7_isWord l D T a0  S0 98 97 115 101 0 z h sz) (z_cwVN (rm := ({ frames := 1, cells := 1, slots := 5 * 1, locals := 21 } : Room)) (C.1 2 (Nat.le_of_ble_eq_true rfl)) 5 gX7_line_X7_isWord rfl rfl dd_X7_isWord ⟨(Nat.le_of_ble_eq_true rfl), (Nat.le_of_ble_eq_true rfl)⟩) (Nat.le_of_ble_eq_true rfl) (hD.zaddr rfl) hA ⟨a0 99, [.int 98, .int 97, .int 115, .int 101, .int 0], 6, 0, _, _, rfl, rfl, rfl, rfl, rfl⟩ rfl (Nat.le_of_ble_eq_true rfl) dX7_line_54 3 rfl 57 rfl h (fun r_3 h => ?_)
      refine z_if_eq (C.1 3 (Nat.le_of_ble_eq_true rfl)) 66 dX7_line_57 (by decide) 60 rfl h (fun h => ?_) (fun h => ?_)
      · refine z_aload_n (C.1 3 (Nat.le_of_ble_eq_true rfl)) dX7_line_66 rfl 0 rfl 67 rfl ?_
        refine z_bipush (C.1 3 (Nat.le_of_ble_eq_true rfl)) 98 dX7_line_67 (by decide) 69 rfl ?_
        refine z_bipush (C.1 3 (Nat.le_of_ble_eq_true rfl)) 101 dX7_line_69 (by decide) 71 rfl ?_
        refine z_bipush (C.1 3 (Nat.le_of_ble_eq_true rfl)) 110 dX7_line_71 (by decide) 73 rfl ?_
        refine z_bipush (C.1 3 (Nat.le_of_ble_eq_true rfl)) 100 dX7_line_73 (by decide) 75 rfl ?_
        refine z_iconst (C.1 3 (Nat.le_of_ble_eq_true rfl)) 0 dX7_line_75 (by decide) 76 rfl ?_
        refine z_callN (k := 3) (kc := 1) C (wX7 T a0 S0) (fun z => z) (fun z => wX7 T a0 S0) (fun sz z h => c_X7_isWord l D T a0  S0 98 101 110 100 0 z h sz) (z_cwVN (rm := ({ frames := 1, cells := 1, slots := 5 * 1, locals := 21 } : Room)) (C.1 3 (Nat.le_of_ble_eq_true rfl)) 5 gX7_line_X7_isWord rfl rfl dd_X7_isWord ⟨(Nat.le_of_ble_eq_true rfl), (Nat.le_of_ble_eq_true rfl)⟩) (Nat.le_of_ble_eq_true rfl) (hD.zaddr rfl) hA ⟨a0 99, [.int 98, .int 101, .int 110, .int 100, .int 0], 6, 0, _, _, rfl, rfl, rfl, rfl, rfl⟩ rfl (Nat.le_of_ble_eq_true rfl) dX7_line_76 4 rfl 79 rfl h (fun r_4 h => ?_)
        refine z_if_eq (C.1 4 (Nat.le_of_ble_eq_true rfl)) 88 dX7_line_79 (by decide) 82 rfl h (fun h => ?_) (fun h => ?_)
        · refine z_aload_n (C.1 4 (Nat.le_of_ble_eq_true rfl)) dX7_line_88 rfl 0 rfl 89 rfl ?_
          refine z_bipush (C.1 4 (Nat.le_of_ble_eq_true rfl)) 114 dX7_line_89 (by decide) 91 rfl ?_
          refine z_bipush (C.1 4 (Nat.le_of_ble_eq_true rfl)) 101 dX7_line_91 (by decide) 93 rfl ?_
          refine z_bipush (C.1 4 (Nat.le_of_ble_eq_true rfl)) 97 dX7_line_93 (by decide) 95 rfl ?_
          refine z_bipush (C.1 4 (Nat.le_of_ble_eq_true rfl)) 99 dX7_line_95 (by decide) 97 rfl ?_
          refine z_bipush (C.1 4 (Nat.le_of_ble_eq_true rfl)) 104 dX7_line_97 (by decide) 99 rfl ?_
          refine z_callN (k := 4) (kc := 1) C (wX7 T a0 S0) (fun z => z) (fun z => wX7 T a0 S0) (fun sz z h => c_X7_isWord l D T a0  S0 114 101 97 99 104 z h sz) (z_cwVN (rm := ({ frames := 1, cells := 1, slots := 5 * 1, locals := 21 } : Room)) (C.1 4 (Nat.le_of_ble_eq_true rfl)) 5 gX7_line_X7_isWord rfl rfl dd_X7_isWord ⟨(Nat.le_of_ble_eq_true rfl), (Nat.le_of_ble_eq_true rfl)⟩) (Nat.le_of_ble_eq_true rfl) (hD.zaddr rfl) hA ⟨a0 99, [.int 114, .int 101, .int 97, .int 99, .int 104], 6, 0, _, _, rfl, rfl, rfl, rfl, rfl⟩ rfl (Nat.le_of_ble_eq_true rfl) dX7_line_99 5 rfl 102 rfl h (fun r_5 h => ?_)
          refine z_if_eq (C.1 5 (Nat.le_of_ble_eq_true rfl)) 113 dX7_line_102 (by decide) 105 rfl h (fun h => ?_) (fun h => ?_)
          · refine z_aload_n (C.1 5 (Nat.le_of_ble_eq_true rfl)) dX7_line_113 rfl 0 rfl 114 rfl ?_
            refine z_iconst (C.1 5 (Nat.le_of_ble_eq_true rfl)) 1 dX7_line_114 (by decide) 115 rfl ?_
            refine z_aload_n (C.1 5 (Nat.le_of_ble_eq_true rfl)) dX7_line_115 rfl 0 rfl 116 rfl ?_
            refine z_get (C.1 5 (Nat.le_of_ble_eq_true rfl)) (in_X7_line_X7) 0 rfl rfl 14 (by decide) (List.mem_of_getElem? (i := 1) rfl) rfl rfl dX7_line_116 119 rfl ?_
            refine z_callW (C.1 5 (Nat.le_of_ble_eq_true rfl)) (wX7 T a0 S0) (([] : va_W)) (fun z => z.1) (fun z => wX7 T a0 z.2) (fun z => wX7 T a0 z.2) (fun z h => c_X7_bad l D T a0  S0 1 (S0 14 0) z h) ⟨rfl, rfl⟩ (z_cwV (C.1 5 (Nat.le_of_ble_eq_true rfl)) 2 gX7_line_X7_bad rfl rfl dd_X7_bad ⟨(Nat.le_of_ble_eq_true rfl), (Nat.le_of_ble_eq_true rfl)⟩) (hD.zaddr rfl) [0, 1, 2, 3, 4, 5, 6, 7, 8, 9, 10, 11, 12, 13, 14, 15, 16, 17] [] [0, 1, 2, 3, 4, 5, 6, 7, 8, 9, 10, 11, 12, 13, 14, 15, 16, 17] rfl rfl rfl (by decide) (fun _ => rfl) (fun _ => ⟨a0 99, [.int 1, .int (S0 14 0)], 6, 0, _, _, rfl, rfl, rfl, rfl, rfl⟩) (fun h => absurd rfl h) rfl (Nat.le_of_ble_eq_true rfl) dX7_line_119 122 rfl h (fun r_6 h => ?_)
            exact z_zretN (x := r_6.2) (ex := ex) (fun z => wX7 T a0 z) C (Nat.le_of_ble_eq_true rfl) hr dX7_line_122 h rfl
          · refine z_aload_n (C.1 5 (Nat.le_of_ble_eq_true rfl)) dX7_line_105 rfl 0 rfl 106 rfl ?_
            refine z_iconst (C.1 5 (Nat.le_of_ble_eq_true rfl)) 2 dX7_line_106 (by decide) 107 rfl ?_
            refine z_callW (C.1 5 (Nat.le_of_ble_eq_true rfl)) (wX7 T a0 S0) (([] : va_W)) (fun z => z.1) (fun z => wX7 T a0 z.2) (fun z => wX7 T a0 z.2) (fun z h => c_X7_setLine l D T a0  S0 2 z h) ⟨rfl, rfl⟩ (z_cwV (C.1 5 (Nat.le_of_ble_eq_true rfl)) 1 gX7_line_X7_setLine rfl rfl dd_X7_setLine ⟨(Nat.le_of_ble_eq_true rfl), (Nat.le_of_ble_eq_true rfl)⟩) (hD.zaddr rfl) [0, 1, 2, 3, 4, 5, 6, 7, 8, 9, 10, 11, 12, 13, 14, 15, 16, 17] [] [0, 1, 2, 3, 4, 5, 6, 7, 8, 9, 10, 11, 12, 13, 14, 15, 16, 17] rfl rfl rfl (by decide) (fun _ => rfl) (fun _ => ⟨a0 99, [.int 2], 6, 0, _, _, rfl, rfl, rfl, rfl, rfl⟩) (fun h => absurd rfl h) rfl (Nat.le_of_ble_eq_true rfl) dX7_line_107 110 rfl h (fun r_7 h => ?_)
            refine z_goto (C.1 5 (Nat.le_of_ble_eq_true rfl)) 122 dX7_line_110 (by decide) ?_
            exact z_zretN (x := r_7.2) (ex := ex) (fun z => wX7 T a0 z) C (Nat.le_of_ble_eq_true rfl) hr dX7_line_122 h rfl
        · refine z_aload_n (C.1 4 (Nat.le_of_ble_eq_true rfl)) dX7_line_82 rfl 0 rfl 83 rfl ?_
          refine z_iconst (C.1 4 (Nat.le_of_ble_eq_true rfl)) 1 dX7_line_83 (by decide) 84 rfl ?_
          refine z_callW (C.1 4 (Nat.le_of_ble_eq_true rfl)) (wX7 T a0 S0) (([] : va_W)) (fun z => z.1) (fun z => wX7 T a0 z.2) (fun z => wX7 T a0 z.2) (fun z h => c_X7_setLine l D T a0  S0 1 z h) ⟨rfl, rfl⟩ (z_cwV (C.1 4 (Nat.le_of_ble_eq_true rfl)) 1 gX7_line_X7_setLine rfl rfl dd_X7_setLine ⟨(Nat.le_of_ble_eq_true rfl), (Nat.le_of_ble_eq_true rfl)⟩) (hD.zaddr rfl) [0, 1, 2, 3, 4, 5, 6, 7, 8, 9, 10, 11, 12, 13, 14, 15, 16, 17] [] [0, 1, 2, 3, 4, 5, 6, 7, 8, 9, 10, 11, 12, 13, 14, 15, 16, 17] rfl rfl rfl (by decide) (fun _ => rfl) (fun _ => ⟨a0 99, [.int 1], 6, 0, _, _, rfl, rfl, rfl, rfl, rfl⟩) (fun h => absurd rfl h) rfl (Nat.le_of_ble_eq_true rfl) dX7_line_84 87 rfl h (fun r_8 h => ?_)
          exact z_zretN (x := r_8.2) (ex := ex) (fun z => wX7 T a0 z) C (Nat.le_of_ble_eq_true rfl) hr dX7_line_87 h rfl
      · refine z_aload_n (C.1 3 (Nat.le_of_ble_eq_true rfl)) dX7_line_60 rfl 0 rfl 61 rfl ?_
        refine z_iconst (C.1 3 (Nat.le_of_ble_eq_true rfl)) 0 dX7_line_61 (by decide) 62 rfl ?_
        refine z_callW (C.1 3 (Nat.le_of_ble_eq_true rfl)) (wX7 T a0 S0) (([] : va_W)) (fun z => z.1) (fun z => wX7 T a0 z.2) (fun z => wX7 T a0 z.2) (fun z h => c_X7_setLine l D T a0  S0 0 z h) ⟨rfl, rfl⟩ (z_cwV (C.1 3 (Nat.le_of_ble_eq_true rfl)) 1 gX7_line_X7_setLine rfl rfl dd_X7_setLine ⟨(Nat.le_of_ble_eq_true rfl), (Nat.le_of_ble_eq_true rfl)⟩) (hD.zaddr rfl) [0, 1, 2, 3, 4, 5, 6, 7, 8, 9, 10, 11, 12, 13, 14, 15, 16, 17] [] [0, 1, 2, 3, 4, 5, 6, 7, 8, 9, 10, 11, 12, 13, 14, 15, 16, 17] rfl rfl rfl (by decide) (fun _ => rfl) (fun _ => ⟨a0 99, [.int 0], 6, 0, _, _, rfl, rfl, rfl, rfl, rfl⟩) (fun h => absurd rfl h) rfl (Nat.le_of_ble_eq_true rfl) dX7_line_62 65 rfl h (fun r_9 h => ?_)
        exact z_zretN (x := r_9.2) (ex := ex) (fun z => wX7 T a0 z) C (Nat.le_of_ble_eq_true rfl) hr dX7_line_65 h rfl
    · refine z_aload_n (C.1 2 (Nat.le_of_ble_eq_true rfl)) dX7_line_39 rfl 0 rfl 40 rfl ?_
      refine z_callW (C.1 2 (Nat.le_of_ble_eq_true rfl)) (wX7 T a0 S0) (([] : va_W)) (fun z => z.1) (fun z => wX7 T a0 z.2) (fun z => wX7 T a0 z.2) (fun z h => c_X7_rocksLine l D T a0  S0  z h) ⟨rfl, rfl⟩ (z_cwV (C.1 2 (Nat.le_of_ble_eq_true rfl)) 0 gX7_line_X7_rocksLine rfl rfl dd_X7_rocksLine ⟨(Nat.le_of_ble_eq_true rfl), (Nat.le_of_ble_eq_true rfl)⟩) (hD.zaddr rfl) [0, 1, 2, 3, 4, 5, 6, 7, 8, 9, 10, 11, 12, 13, 14, 15, 16, 17] [] [0, 1, 2, 3, 4, 5, 6, 7, 8, 9, 10, 11, 12, 13, 14, 15, 16, 17] rfl rfl rfl (by decide) (fun _ => rfl) (fun _ => ⟨a0 99, [], 6, 0, _, _, rfl, rfl, rfl, rfl, rfl⟩) (fun h => absurd rfl h) rfl (Nat.le_of_ble_eq_true rfl) dX7_line_40 43 rfl h (fun r_10 h => ?_)
      exact z_zretN (x := r_10.2) (ex := ex) (fun z => wX7 T a0 z) C (Nat.le_of_ble_eq_true rfl) hr dX7_line_43 h rfl
  · refine z_aload_n (C.1 1 (Nat.le_of_ble_eq_true rfl)) dX7_line_17 rfl 0 rfl 18 rfl ?_
    refine z_callW (C.1 1 (Nat.le_of_ble_eq_true rfl)) (wX7 T a0 S0) (([] : va_W)) (fun z => z.1) (fun z => wX7 T a0 z.2) (fun z => wX7 T a0 z.2) (fun z h => c_X7_placeLine l D T a0  S0  z h) ⟨rfl, rfl⟩ (z_cwV (C.1 1 (Nat.le_of_ble_eq_true rfl)) 0 gX7_line_X7_placeLine rfl rfl dd_X7_placeLine ⟨(Nat.le_of_ble_eq_true rfl), (Nat.le_of_ble_eq_true rfl)⟩) (hD.zaddr rfl) [0, 1, 2, 3, 4, 5, 6, 7, 8, 9, 10, 11, 12, 13, 14, 15, 16, 17] [] [0, 1, 2, 3, 4, 5, 6, 7, 8, 9, 10, 11, 12, 13, 14, 15, 16, 17] rfl rfl rfl (by decide) (fun _ => rfl) (fun _ => ⟨a0 99, [], 6, 0, _, _, rfl, rfl, rfl, rfl, rfl⟩) (fun h => absurd rfl h) rfl (Nat.le_of_ble_eq_true rfl) dX7_line_18 21 rfl h (fun r_11 h => ?_)
    exact z_zretN (x := r_11.2) (ex := ex) (fun z => wX7 T a0 z) C (Nat.le_of_ble_eq_true rfl) hr dX7_line_21 h rfl

end
/-! StreamTreeModel.reads ()Z -/
section
variable {p : Program} {l : Launch} {e : Env} {R : Room} {s : State} {m : MethodId} {args : Array Value} {below : List Frame} {meth : Method} {c : Code} {Q : State → Prop} {A : Nat → Prop} {D : va_G} {T : Nat → ClassId} {a0 : Nat → Nat} {kK : Nat}
theorem in_X7_reads_X7 : ∀ w ∈ u_ws RX7 TX7 35, w ∈ wsX7_reads := fun _ h => (List.mem_cons_of_mem _ (List.mem_append_right _ h))
def f_X7_reads_L72b (kK : Nat)   (rec : ((Nat → Nat → Int32) × Nat) → Option (Nat × (Nat → Nat → Int32) × Nat)) (a : (Nat → Nat → Int32) × Nat) : Option (Nat × (Nat → Nat → Int32) × Nat) := zcap a.2 kK (if (a.1 16 0) = 3 then ((f_X7_go a.1).bind fun r_8 => zcap (a.2 + 5) kK ((f_X7_line r_8).bind fun r_9 => if r_9.1 = 0 then (some (0, r_9.2, (a.2 + 5))) else (rec (r_9.2, (a.2 + 5))))) else (some (1, a.1, a.2)))
def f_X7_reads_L72 (kK : Nat)   : Nat → ((Nat → Nat → Int32) × Nat) → Option (Nat × (Nat → Nat → Int32) × Nat) := zloop (fun rec a => f_X7_reads_L72b kK  rec a)
set_option maxHeartbeats 4000000 in
set_option maxRecDepth 100000 in
theorem p_X7_reads_L72 (C : zCN p R s m args meth c cX7_reads 1 RX7 wsX7_reads D T 6 129 kK) (hA : ∀ q, s.heap.size ≤ q → A q) (S0 : Nat → Nat → Int32)  (hD : va_D A (wX7 T a0 S0)) : ∀ (n : Nat) (c0 : Nat → Nat → Int32) (c1 : Nat) (b : Nat × (Nat → Nat → Int32) × Nat), f_X7_reads_L72 kK  n (c0, c1) = some b → ((b.1 = 0 → zt p l e R s m args below meth c 1 A D b.2.2 (5 * b.2.2) Q (wX7 T a0 b.2.1) [] 91 []) ∧ (b.1 = 1 → zt p l e R s m args below meth c 1 A D b.2.2 (5 * b.2.2) Q (wX7 T a0 b.2.1) [(0, .ref (a0 99))] 93 [])) → zt p l e R s m args below meth c 1 A D c1 (5 * c1) Q (wX7 T a0 c0) [(0, .ref (a0 99))] 72 [] := by
  intro n c0 c1 b h K
  refine zloop_ind (P := fun a b => ((b.1 = 0 → zt p l e R s m args below meth c 1 A D b.2.2 (5 * b.2.2) Q (wX7 T a0 b.2.1) [] 91 []) ∧ (b.1 = 1 → zt p l e R s m args below meth c 1 A D b.2.2 (5 * b.2.2) Q (wX7 T a0 b.2.1) [(0, .ref (a0 99))] 93 [])) → zt p l e R s m args below meth c 1 A D a.2 (5 * a.2) Q (wX7 T a0 a.1) [(0, .ref (a0 99))] 72 []) ?_ n (c0, c1) b h K
  clear h K b c0 c1
  intro rec hrec a b h K
  have hrec : ∀ (c0 : Nat → Nat → Int32) (c1 : Nat) (b : Nat × (Nat → Nat → Int32) × Nat), rec (c0, c1) = some b → ((b.1 = 0 → zt p l e R s m args below meth c 1 A D b.2.2 (5 * b.2.2) Q (wX7 T a0 b.2.1) [] 91 []) ∧ (b.1 = 1 → zt p l e R s m args below meth c 1 A D b.2.2 (5 * b.2.2) Q (wX7 T a0 b.2.1) [(0, .ref (a0 99))] 93 [])) → zt p l e R s m args below meth c 1 A D c1 (5 * c1) Q (wX7 T a0 c0) [(0, .ref (a0 99))] 72 [] := fun c0 c1 b h K => hrec (c0, c1) b h K
  unfold f_X7_reads_L72b at h
  obtain ⟨hk, h⟩ := zcap_some h
  refine z_aload_n (C.1 a.2 hk) dX7_reads_72 rfl 0 rfl 73 rfl ?_
  refine z_get (C.1 a.2 hk) (in_X7_reads_X7) 0 rfl rfl 16 (by decide) (List.mem_of_getElem? (i := 5) rfl) rfl rfl dX7_reads_73 76 rfl ?_
  refine z_iconst (C.1 a.2 hk) 3 dX7_reads_76 (by decide) 77 rfl ?_
  refine z_icmp_ne (C.1 a.2 hk) 93 dX7_reads_77 (by decide) 80 rfl h (fun h => ?_) (fun h => ?_)
  · refine z_locals (ks := [0]) (lv' := [(0, .ref (a0 99))]) rfl ?_
    exact zexT2 (F := (fun e0 e1 => zt p l e R s m args below meth c 1 A D e1 (5 * e1) Q (wX7 T a0 e0) [(0, .ref (a0 99))] 93 [])) h K.2
  · refine z_aload_n (C.1 a.2 hk) dX7_reads_80 rfl 0 rfl 81 rfl ?_
    refine z_callV (C.1 a.2 hk) (wX7 T a0 a.1) (([] : va_W)) (fun z => wX7 T a0 z) (fun z => wX7 T a0 z) (fun z h => c_X7_go l D T a0  a.1  z h) ⟨rfl, rfl⟩ (z_cwV (C.1 a.2 hk) 0 gX7_reads_X7_go rfl rfl dd_X7_go ⟨(Nat.le_of_ble_eq_true rfl), (Nat.le_of_ble_eq_true rfl)⟩) (hD.zaddr rfl) [0, 1, 2, 3, 4, 5, 6, 7, 8, 9, 10, 11, 12, 13, 14, 15, 16, 17] [] [0, 1, 2, 3, 4, 5, 6, 7, 8, 9, 10, 11, 12, 13, 14, 15, 16, 17] rfl rfl rfl (by decide) (fun _ => rfl) (fun _ => ⟨a0 99, [], 6, 0, _, _, rfl, rfl, rfl, rfl, rfl⟩) (fun h => absurd rfl h) rfl (Nat.le_of_ble_eq_true rfl) dX7_reads_81 84 rfl h (fun r_8 h => ?_)
    refine z_aload_n (C.1 a.2 hk) dX7_reads_84 rfl 0 rfl 85 rfl ?_
    obtain ⟨hk_10, h⟩ := zcap_some h
    refine z_callN (k := a.2) (kc := 5) C (wX7 T a0 r_8) (fun z => z.1) (fun z => wX7 T a0 z.2) (fun sz z h => c_X7_line l D T a0  r_8  z h sz) (z_cwVN (rm := ({ frames := 5, cells := 5, slots := 5 * 5, locals := 109 } : Room)) (C.1 a.2 hk) 0 gX7_reads_X7_line rfl rfl dd_X7_line ⟨(Nat.le_of_ble_eq_true rfl), (Nat.le_of_ble_eq_true rfl)⟩) hk_10 (hD.zaddr rfl) hA ⟨a0 99, [], 6, 0, _, _, rfl, rfl, rfl, rfl, rfl⟩ rfl (Nat.le_of_ble_eq_true rfl) dX7_reads_85 (a.2 + 5) rfl 88 rfl h (fun r_9 h => ?_)
    refine z_if_ne (C.1 (a.2 + 5) hk_10) 72 dX7_reads_88 (by decide) 91 rfl h (fun h => ?_) (fun h => ?_)
    · exact z_locals (ks := [0]) rfl (hrec _ _ _ h K)
    · refine z_locals (ks := []) (lv' := []) rfl ?_
      exact zexT2 (F := (fun e0 e1 => zt p l e R s m args below meth c 1 A D e1 (5 * e1) Q (wX7 T a0 e0) [] 91 [])) h K.1

def f_X7_reads (kK : Nat) (S0 : Nat → Nat → Int32)  : Option (Int32 × (Nat → Nat → Int32)) := zcap 1 kK ((f_X7_isWord S0 99 104 97 114 116).bind fun r_1 => if r_1 = 0 then ((f_X7_bad S0 1 (S0 14 0)).bind fun r_13 => zbo r_13.1 (some (r_13.1, r_13.2))) else ((f_X7_go S0).bind fun r_3 => (f_X7_number r_3 2 9).bind fun r_4 => if r_4.1 = 0 then (some (0, r_4.2)) else (zlet (zst r_4.2 19 0 (r_4.2 25 0)) fun S0_5 => (f_X7_number S0_5 6 24).bind fun r_6 => if r_6.1 = 0 then (some (0, r_6.2)) else (zlet (zst r_6.2 20 0 (r_6.2 25 0)) fun S0_7 => (f_X7_reads_L72 kK  zfuel (S0_7, 1)).bind fun y_11 => zcap y_11.2.2 kK (if y_11.1 = 0 then (some (0, y_11.2.1)) else (if (y_11.2.1 16 0) = 0 then (some (1, y_11.2.1)) else ((f_X7_bad y_11.2.1 1 (y_11.2.1 14 0)).bind fun r_12 => if r_12.1 = 0 then (some (0, r_12.2)) else (some (1, r_12.2)))))))))
theorem dd_X7_reads : RX7 ≠ "java/lang/invoke/MethodHandle" ∧ RX7 ≠ "java/lang/invoke/VarHandle" ∧ (parseMethodDescriptor yX7_reads.desc).map (fun d => d.parameters.length) = some 0 := by decide +kernel
set_option maxHeartbeats 4000000 in
set_option maxRecDepth 100000 in
theorem c_X7_reads (l : Launch) (D : va_G) (T : Nat → ClassId) (a0 : Nat → Nat) (kK : Nat) (S0 : Nat → Nat → Int32)  (ex : Int32 × (Nat → Nat → Int32)) (h : f_X7_reads kK S0 = some ex) (sz : Nat) : zWN l yX7_reads wsX7_reads 6 129 D T [.ref (a0 99)] (wX7 T a0 S0) sz ex.1 (wX7 T a0 ex.2) kK := by
  refine z_beginN (cc := cX7_reads) (nL := 1) (own := RX7) (ret := some .boolean) (by decide) rfl (Nat.le_of_ble_eq_true rfl) [(0, .ref (a0 99))] rfl rfl ?_
  intro p e s m args below meth c C hr hD hA
  have hD := zAn.hD (sz := sz) hD
  unfold f_X7_reads at h
  refine z_aload_n (C.1 0 (Nat.zero_le _)) dX7_reads_0 rfl 0 rfl 1 rfl ?_
  refine z_bipush (C.1 0 (Nat.zero_le _)) 99 dX7_reads_1 (by decide) 3 rfl ?_
  refine z_bipush (C.1 0 (Nat.zero_le _)) 104 dX7_reads_3 (by decide) 5 rfl ?_
  refine z_bipush (C.1 0 (Nat.zero_le _)) 97 dX7_reads_5 (by decide) 7 rfl ?_
  refine z_bipush (C.1 0 (Nat.zero_le _)) 114 dX7_reads_7 (by decide) 9 rfl ?_
  refine z_bipush (C.1 0 (Nat.zero_le _)) 116 dX7_reads_9 (by decide) 11 rfl ?_
  obtain ⟨hk_2, h⟩ := zcap_some h
  refine z_callN (k := 0) (kc := 1) C (wX7 T a0 S0) (fun z => z) (fun z => wX7 T a0 S0) (fun sz z h => c_X7_isWord l D T a0  S0 99 104 97 114 116 z h sz) (z_cwVN (rm := ({ frames := 1, cells := 1, slots := 5 * 1, locals := 21 } : Room)) (C.1 0 (Nat.zero_le _)) 5 gX7_reads_X7_isWord rfl rfl dd_X7_isWord ⟨(Nat.le_of_ble_eq_true rfl), (Nat.le_of_ble_eq_true rfl)⟩) hk_2 (hD.zaddr rfl) hA ⟨a0 99, [.int 99, .int 104, .int 97, .int 114, .int 116], 6, 0, _, _, rfl, rfl, rfl, rfl, rfl⟩ rfl (Nat.le_of_ble_eq_true rfl) dX7_reads_11 1 rfl 14 rfl h (fun r_1 h => ?_)
  refine z_if_ne (C.1 1 hk_2) 27 dX7_reads_14 (by decide) 17 rfl h (fun h => ?_) (fun h => ?_)
  · refine z_aload_n (C.1 1 hk_2) dX7_reads_27 rfl 0 rfl 28 rfl ?_
    refine z_callV (C.1 1 hk_2) (wX7 T a0 S0) (([] : va_W)) (fun z => wX7 T a0 z) (fun z => wX7 T a0 z) (fun z h => c_X7_go l D T a0  S0  z h) ⟨rfl, rfl⟩ (z_cwV (C.1 1 hk_2) 0 gX7_reads_X7_go rfl rfl dd_X7_go ⟨(Nat.le_of_ble_eq_true rfl), (Nat.le_of_ble_eq_true rfl)⟩) (hD.zaddr rfl) [0, 1, 2, 3, 4, 5, 6, 7, 8, 9, 10, 11, 12, 13, 14, 15, 16, 17] [] [0, 1, 2, 3, 4, 5, 6, 7, 8, 9, 10, 11, 12, 13, 14, 15, 16, 17] rfl rfl rfl (by decide) (fun _ => rfl) (fun _ => ⟨a0 99, [], 6, 0, _, _, rfl, rfl, rfl, rfl, rfl⟩) (fun h => absurd rfl h) rfl (Nat.le_of_ble_eq_true rfl) dX7_reads_28 31 rfl h (fun r_3 h => ?_)
    refine z_aload_n (C.1 1 hk_2) dX7_reads_31 rfl 0 rfl 32 rfl ?_
    refine z_iconst (C.1 1 hk_2) 2 dX7_reads_32 (by decide) 33 rfl ?_
    refine z_bipush (C.1 1 hk_2) 9 dX7_reads_33 (by decide) 35 rfl ?_
    refine z_callW (C.1 1 hk_2) (wX7 T a0 r_3) (([] : va_W)) (fun z => z.1) (fun z => wX7 T a0 z.2) (fun z => wX7 T a0 z.2) (fun z h => c_X7_number l D T a0  r_3 2 9 z h) ⟨rfl, rfl⟩ (z_cwV (C.1 1 hk_2) 2 gX7_reads_X7_number rfl rfl dd_X7_number ⟨(Nat.le_of_ble_eq_true rfl), (Nat.le_of_ble_eq_true rfl)⟩) (hD.zaddr rfl) [0, 1, 2, 3, 4, 5, 6, 7, 8, 9, 10, 11, 12, 13, 14, 15, 16, 17] [] [0, 1, 2, 3, 4, 5, 6, 7, 8, 9, 10, 11, 12, 13, 14, 15, 16, 17] rfl rfl rfl (by decide) (fun _ => rfl) (fun _ => ⟨a0 99, [.int 2, .int 9], 6, 0, _, _, rfl, rfl, rfl, rfl, rfl⟩) (fun h => absurd rfl h) rfl (Nat.le_of_ble_eq_true rfl) dX7_reads_35 38 rfl h (fun r_4 h => ?_)
    refine z_if_ne (C.1 1 hk_2) 43 dX7_reads_38 (by decide) 41 rfl h (fun h => ?_) (fun h => ?_)
    · refine z_aload_n (C.1 1 hk_2) dX7_reads_43 rfl 0 rfl 44 rfl ?_
      refine z_aload_n (C.1 1 hk_2) dX7_reads_44 rfl 0 rfl 45 rfl ?_
      refine z_get (C.1 1 hk_2) (in_X7_reads_X7) 0 rfl rfl 25 (by decide) (List.mem_of_getElem? (i := 2) rfl) rfl rfl dX7_reads_45 48 rfl ?_
      refine z_put (ty := .int) (C.1 1 hk_2) (fun z => wX7 T a0 z) r_4.2 (hD.zaddr rfl) (in_X7_reads_X7) tyX7 tyX7_ok nmX7 0 rfl rfl 19 (by decide) (List.mem_of_getElem? (i := 3) rfl) rfl rfl (by decide +kernel) rfl rfl (Nat.le_of_ble_eq_true rfl) rfl dX7_reads_48 51 rfl h (fun S0_5 h => ?_)
      refine z_aload_n (C.1 1 hk_2) dX7_reads_51 rfl 0 rfl 52 rfl ?_
      refine z_bipush (C.1 1 hk_2) 6 dX7_reads_52 (by decide) 54 rfl ?_
      refine z_bipush (C.1 1 hk_2) 24 dX7_reads_54 (by decide) 56 rfl ?_
      refine z_callW (C.1 1 hk_2) (wX7 T a0 S0_5) (([] : va_W)) (fun z => z.1) (fun z => wX7 T a0 z.2) (fun z => wX7 T a0 z.2) (fun z h => c_X7_number l D T a0  S0_5 6 24 z h) ⟨rfl, rfl⟩ (z_cwV (C.1 1 hk_2) 2 gX7_reads_X7_number rfl rfl dd_X7_number ⟨(Nat.le_of_ble_eq_true rfl), (Nat.le_of_ble_eq_true rfl)⟩) (hD.zaddr rfl) [0, 1, 2, 3, 4, 5, 6, 7, 8, 9, 10, 11, 12, 13, 14, 15, 16, 17] [] [0, 1, 2, 3, 4, 5, 6, 7, 8, 9, 10, 11, 12, 13, 14, 15, 16, 17] rfl rfl rfl (by decide) (fun _ => rfl) (fun _ => ⟨a0 99, [.int 6, .int 24], 6, 0, _, _, rfl, rfl, rfl, rfl, rfl⟩) (fun h => absurd rfl h) rfl (Nat.le_of_ble_eq_true rfl) dX7_reads_56 59 rfl h (fun r_6 h => ?_)
      refine z_if_ne (C.1 1 hk_2) 64 dX7_reads_59 (by decide) 62 rfl h (fun h => ?_) (fun h => ?_)
      · refine z_aload_n (C.1 1 hk_2) dX7_reads_64 rfl 0 rfl 65 rfl ?_
        refine z_aload_n (C.1 1 hk_2) dX7_reads_65 rfl 0 rfl 66 rfl ?_
        refine z_get (C.1 1 hk_2) (in_X7_reads_X7) 0 rfl rfl 25 (by decide) (List.mem_of_getElem? (i := 2) rfl) rfl rfl dX7_reads_66 69 rfl ?_
        refine z_put (ty := .int) (C.1 1 hk_2) (fun z => wX7 T a0 z) r_6.2 (hD.zaddr rfl) (in_X7_reads_X7) tyX7 tyX7_ok nmX7 0 rfl rfl 20 (by decide) (List.mem_of_getElem? (i := 4) rfl) rfl rfl (by decide +kernel) rfl rfl (Nat.le_of_ble_eq_true rfl) rfl dX7_reads_69 72 rfl h (fun S0_7 h => ?_)
        obtain ⟨y_11, hl_y_11, h⟩ := Option.bind_eq_some_iff.mp h
        obtain ⟨hk_y_11, h⟩ := zcap_some h
        refine z_locals (ks := [0]) rfl (p_X7_reads_L72 C hA S0_7  (hD.zaddr rfl) _ _ _ _ hl_y_11 ⟨fun ht => ?_, fun ht => ?_⟩)
        · replace h := z_pos ht h
          refine z_iconst (C.1 y_11.2.2 hk_y_11) 0 dX7_reads_91 (by decide) 92 rfl ?_
          exact z_zretNc (x := y_11.2.1) (ex := ex) (fun z => wX7 T a0 z) C hk_y_11 hr dX7_reads_92 (Or.inl rfl) h rfl
        · replace h := z_neg (by rw [ht]; decide) h
          refine z_aload_n (C.1 y_11.2.2 hk_y_11) dX7_reads_93 rfl 0 rfl 94 rfl ?_
          refine z_get (C.1 y_11.2.2 hk_y_11) (in_X7_reads_X7) 0 rfl rfl 16 (by decide) (List.mem_of_getElem? (i := 5) rfl) rfl rfl dX7_reads_94 97 rfl ?_
          refine z_if_eq (C.1 y_11.2.2 hk_y_11) 112 dX7_reads_97 (by decide) 100 rfl h (fun h => ?_) (fun h => ?_)
          · refine z_iconst (C.1 y_11.2.2 hk_y_11) 1 dX7_reads_112 (by decide) 113 rfl ?_
            refine z_goto (C.1 y_11.2.2 hk_y_11) 117 dX7_reads_113 (by decide) ?_
            exact z_zretNc (x := y_11.2.1) (ex := ex) (fun z => wX7 T a0 z) C hk_y_11 hr dX7_reads_117 (Or.inr rfl) h rfl
          · refine z_aload_n (C.1 y_11.2.2 hk_y_11) dX7_reads_100 rfl 0 rfl 101 rfl ?_
            refine z_iconst (C.1 y_11.2.2 hk_y_11) 1 dX7_reads_101 (by decide) 102 rfl ?_
            refine z_aload_n (C.1 y_11.2.2 hk_y_11) dX7_reads_102 rfl 0 rfl 103 rfl ?_
            refine z_get (C.1 y_11.2.2 hk_y_11) (in_X7_reads_X7) 0 rfl rfl 14 (by decide) (List.mem_of_getElem? (i := 1) rfl) rfl rfl dX7_reads_103 106 rfl ?_
            refine z_callW (C.1 y_11.2.2 hk_y_11) (wX7 T a0 y_11.2.1) (([] : va_W)) (fun z => z.1) (fun z => wX7 T a0 z.2) (fun z => wX7 T a0 z.2) (fun z h => c_X7_bad l D T a0  y_11.2.1 1 (y_11.2.1 14 0) z h) ⟨rfl, rfl⟩ (z_cwV (C.1 y_11.2.2 hk_y_11) 2 gX7_reads_X7_bad rfl rfl dd_X7_bad ⟨(Nat.le_of_ble_eq_true rfl), (Nat.le_of_ble_eq_true rfl)⟩) (hD.zaddr rfl) [0, 1, 2, 3, 4, 5, 6, 7, 8, 9, 10, 11, 12, 13, 14, 15, 16, 17] [] [0, 1, 2, 3, 4, 5, 6, 7, 8, 9, 10, 11, 12, 13, 14, 15, 16, 17] rfl rfl rfl (by decide) (fun _ => rfl) (fun _ => ⟨a0 99, [.int 1, .int (y_11.2.1 14 0)], 6, 0, _, _, rfl, rfl, rfl, rfl, rfl⟩) (fun h => absurd rfl h) rfl (Nat.le_of_ble_eq_true rfl) dX7_reads_106 109 rfl h (fun r_12 h => ?_)
            refine z_if_eq (C.1 y_11.2.2 hk_y_11) 116 dX7_reads_109 (by decide) 112 rfl h (fun h => ?_) (fun h => ?_)
            · refine z_iconst (C.1 y_11.2.2 hk_y_11) 0 dX7_reads_116 (by decide) 117 rfl ?_
              exact z_zretNc (x := r_12.2) (ex := ex) (fun z => wX7 T a0 z) C hk_y_11 hr dX7_reads_117 (Or.inl rfl) h rfl
            · refine z_iconst (C.1 y_11.2.2 hk_y_11) 1 dX7_reads_112 (by decide) 113 rfl ?_
              refine z_goto (C.1 y_11.2.2 hk_y_11) 117 dX7_reads_113 (by decide) ?_
              exact z_zretNc (x := r_12.2) (ex := ex) (fun z => wX7 T a0 z) C hk_y_11 hr dX7_reads_117 (Or.inr rfl) h rfl
      · refine z_iconst (C.1 1 hk_2) 0 dX7_reads_62 (by decide) 63 rfl ?_
        exact z_zretNc (x := r_6.2) (ex := ex) (fun z => wX7 T a0 z) C hk_2 hr dX7_reads_63 (Or.inl rfl) h rfl
    · refine z_iconst (C.1 1 hk_2) 0 dX7_reads_41 (by decide) 42 rfl ?_
      exact z_zretNc (x := r_4.2) (ex := ex) (fun z => wX7 T a0 z) C hk_2 hr dX7_reads_42 (Or.inl rfl) h rfl
  · refine z_aload_n (C.1 1 hk_2) dX7_reads_17 rfl 0 rfl 18 rfl ?_
    refine z_iconst (C.1 1 hk_2) 1 dX7_reads_18 (by decide) 19 rfl ?_
    refine z_aload_n (C.1 1 hk_2) dX7_reads_19 rfl 0 rfl 20 rfl ?_
    refine z_get (C.1 1 hk_2) (in_X7_reads_X7) 0 rfl rfl 14 (by decide) (List.mem_of_getElem? (i := 1) rfl) rfl rfl dX7_reads_20 23 rfl ?_
    refine z_callW (C.1 1 hk_2) (wX7 T a0 S0) (([] : va_W)) (fun z => z.1) (fun z => wX7 T a0 z.2) (fun z => wX7 T a0 z.2) (fun z h => c_X7_bad l D T a0  S0 1 (S0 14 0) z h) ⟨rfl, rfl⟩ (z_cwV (C.1 1 hk_2) 2 gX7_reads_X7_bad rfl rfl dd_X7_bad ⟨(Nat.le_of_ble_eq_true rfl), (Nat.le_of_ble_eq_true rfl)⟩) (hD.zaddr rfl) [0, 1, 2, 3, 4, 5, 6, 7, 8, 9, 10, 11, 12, 13, 14, 15, 16, 17] [] [0, 1, 2, 3, 4, 5, 6, 7, 8, 9, 10, 11, 12, 13, 14, 15, 16, 17] rfl rfl rfl (by decide) (fun _ => rfl) (fun _ => ⟨a0 99, [.int 1, .int (S0 14 0)], 6, 0, _, _, rfl, rfl, rfl, rfl, rfl⟩) (fun h => absurd rfl h) rfl (Nat.le_of_ble_eq_true rfl) dX7_reads_23 26 rfl h (fun r_13 h => ?_)
    exact z_zretN (x := r_13.2) (ex := ex) (fun z => wX7 T a0 z) C hk_2 hr dX7_reads_26 h rfl

end
/-! StreamTreeModel.text (I)I -/
section
variable {p : Program} {l : Launch} {e : Env} {R : Room} {s : State} {m : MethodId} {args : Array Value} {below : List Frame} {meth : Method} {c : Code} {Q : State → Prop} {A : Nat → Prop} {D : va_G} {T : Nat → ClassId} {a0 : Nat → Nat} {kK : Nat}
theorem in_X7_text_X7 : ∀ w ∈ u_ws RX7 TX7 35, w ∈ wsX7_text := fun _ h => (List.mem_cons_of_mem _ (List.mem_append_right _ h))
def f_X7_text_L68b (kK : Nat)   (rec : (Int32 × (Nat → Nat → Int32)) → Option ((Nat → Nat → Int32))) (a : Int32 × (Nat → Nat → Int32)) : Option ((Nat → Nat → Int32)) := if 240 ≤ a.1 then (some a.2) else (zix a.1 240 fun j => zlet (zst a.2 23 j 0) fun S0_11 => rec ((a.1 + 1), S0_11))
def f_X7_text_L68 (kK : Nat)   : Nat → (Int32 × (Nat → Nat → Int32)) → Option ((Nat → Nat → Int32)) := zloop (fun rec a => f_X7_text_L68b kK  rec a)
set_option maxHeartbeats 4000000 in
set_option maxRecDepth 100000 in
theorem p_X7_text_L68 (C : zCN p R s m args meth c cX7_text 3 RX7 wsX7_text D T 7 149 kK) (hA : ∀ q, s.heap.size ≤ q → A q) (S0 : Nat → Nat → Int32)  (hD : va_D A (wX7 T a0 S0)) : ∀ (n : Nat) (c0 : Int32) (c1 : Nat → Nat → Int32) (b : (Nat → Nat → Int32)), f_X7_text_L68 kK  n (c0, c1) = some b → (zt p l e R s m args below meth c 3 A D 0 (5 * 0) Q (wX7 T a0 b) [(0, .ref (a0 99))] 88 []) → zt p l e R s m args below meth c 3 A D 0 (5 * 0) Q (wX7 T a0 c1) [(0, .ref (a0 99)), (2, .int c0)] 68 [] := by
  intro n c0 c1 b h K
  refine zloop_ind (P := fun a b => (zt p l e R s m args below meth c 3 A D 0 (5 * 0) Q (wX7 T a0 b) [(0, .ref (a0 99))] 88 []) → zt p l e R s m args below meth c 3 A D 0 (5 * 0) Q (wX7 T a0 a.2) [(0, .ref (a0 99)), (2, .int a.1)] 68 []) ?_ n (c0, c1) b h K
  clear h K b c0 c1
  intro rec hrec a b h K
  have hrec : ∀ (c0 : Int32) (c1 : Nat → Nat → Int32) (b : (Nat → Nat → Int32)), rec (c0, c1) = some b → (zt p l e R s m args below meth c 3 A D 0 (5 * 0) Q (wX7 T a0 b) [(0, .ref (a0 99))] 88 []) → zt p l e R s m args below meth c 3 A D 0 (5 * 0) Q (wX7 T a0 c1) [(0, .ref (a0 99)), (2, .int c0)] 68 [] := fun c0 c1 b h K => hrec (c0, c1) b h K
  unfold f_X7_text_L68b at h
  refine z_iload_n (C.1 0 (Nat.zero_le _)) dX7_text_68 rfl 1 rfl 69 rfl ?_
  refine z_sipush (C.1 0 (Nat.zero_le _)) 240 dX7_text_69 (by decide) 72 rfl ?_
  refine z_icmp_ge (C.1 0 (Nat.zero_le _)) 88 dX7_text_72 (by decide) 75 rfl h (fun h => ?_) (fun h => ?_)
  · refine z_locals (ks := [0]) (lv' := [(0, .ref (a0 99))]) rfl ?_
    exact zex1 (F := (fun e0 => zt p l e R s m args below meth c 3 A D 0 (5 * 0) Q (wX7 T a0 e0) [(0, .ref (a0 99))] 88 [])) h K
  · refine z_aload_n (C.1 0 (Nat.zero_le _)) dX7_text_75 rfl 0 rfl 76 rfl ?_
    refine z_get (C.1 0 (Nat.zero_le _)) (in_X7_text_X7) 0 rfl rfl 23 (by decide) (List.mem_of_getElem? (i := 8) rfl) rfl rfl dX7_text_76 79 rfl ?_
    refine z_iload_n (C.1 0 (Nat.zero_le _)) dX7_text_79 rfl 1 rfl 80 rfl ?_
    refine z_iconst (C.1 0 (Nat.zero_le _)) 0 dX7_text_80 (by decide) 81 rfl ?_
    refine z_zastc (Or.inl rfl) (C.1 0 (Nat.zero_le _)) (fun z => wX7 T a0 z) a.2 23 (hD.zaddr rfl) 7 rfl rfl (fun _ => rfl) dX7_text_81 82 rfl h (fun S0_11 h => ?_)
    refine z_iinc (C.1 0 (Nat.zero_le _)) (a.1 + 1) [(0, .ref (a0 99)), (2, .int (a.1 + 1))] dX7_text_82 1 rfl rfl (Nat.le_of_ble_eq_true rfl) [1, 0] rfl 85 rfl ?_
    refine z_goto (C.1 0 (Nat.zero_le _)) 68 dX7_text_85 (by decide) ?_
    exact z_locals (ks := [0, 1]) rfl (hrec _ _ _ h K)

def f_X7_text_L121b (kK : Nat)   (rec : (Int32 × (Nat → Nat → Int32)) → Option ((Nat → Nat → Int32))) (a : Int32 × (Nat → Nat → Int32)) : Option ((Nat → Nat → Int32)) := if (a.2 21 0) ≤ a.1 then (some a.2) else (zix (3 * a.1) 21 fun _ => zix ((3 * a.1) + 1) 21 fun _ => zix ((3 * a.1) + 2) 21 fun _ => (f_X7_adds a.2 (a.2 22 (Int32.toNatClampNeg (3 * a.1))) (a.2 22 (Int32.toNatClampNeg ((3 * a.1) + 1))) (a.2 22 (Int32.toNatClampNeg ((3 * a.1) + 2)))).bind fun r_16 => rec ((a.1 + 1), r_16))
def f_X7_text_L121 (kK : Nat)   : Nat → (Int32 × (Nat → Nat → Int32)) → Option ((Nat → Nat → Int32)) := zloop (fun rec a => f_X7_text_L121b kK  rec a)
set_option maxHeartbeats 4000000 in
set_option maxRecDepth 100000 in
theorem p_X7_text_L121 (C : zCN p R s m args meth c cX7_text 3 RX7 wsX7_text D T 7 149 kK) (hA : ∀ q, s.heap.size ≤ q → A q) (S0 : Nat → Nat → Int32)  (hD : va_D A (wX7 T a0 S0)) : ∀ (n : Nat) (c0 : Int32) (c1 : Nat → Nat → Int32) (b : (Nat → Nat → Int32)), f_X7_text_L121 kK  n (c0, c1) = some b → (zt p l e R s m args below meth c 3 A D kK (5 * kK) Q (wX7 T a0 b) [(0, .ref (a0 99))] 167 []) → zt p l e R s m args below meth c 3 A D kK (5 * kK) Q (wX7 T a0 c1) [(0, .ref (a0 99)), (2, .int c0)] 121 [] := by
  intro n c0 c1 b h K
  refine zloop_ind (P := fun a b => (zt p l e R s m args below meth c 3 A D kK (5 * kK) Q (wX7 T a0 b) [(0, .ref (a0 99))] 167 []) → zt p l e R s m args below meth c 3 A D kK (5 * kK) Q (wX7 T a0 a.2) [(0, .ref (a0 99)), (2, .int a.1)] 121 []) ?_ n (c0, c1) b h K
  clear h K b c0 c1
  intro rec hrec a b h K
  have hrec : ∀ (c0 : Int32) (c1 : Nat → Nat → Int32) (b : (Nat → Nat → Int32)), rec (c0, c1) = some b → (zt p l e R s m args below meth c 3 A D kK (5 * kK) Q (wX7 T a0 b) [(0, .ref (a0 99))] 167 []) → zt p l e R s m args below meth c 3 A D kK (5 * kK) Q (wX7 T a0 c1) [(0, .ref (a0 99)), (2, .int c0)] 121 [] := fun c0 c1 b h K => hrec (c0, c1) b h K
  unfold f_X7_text_L121b at h
  refine z_iload_n (C.1 kK (Nat.le_refl _)) dX7_text_121 rfl 1 rfl 122 rfl ?_
  refine z_aload_n (C.1 kK (Nat.le_refl _)) dX7_text_122 rfl 0 rfl 123 rfl ?_
  refine z_get (C.1 kK (Nat.le_refl _)) (in_X7_text_X7) 0 rfl rfl 21 (by decide) (List.mem_of_getElem? (i := 6) rfl) rfl rfl dX7_text_123 126 rfl ?_
  refine z_icmp_ge (C.1 kK (Nat.le_refl _)) 167 dX7_text_126 (by decide) 129 rfl h (fun h => ?_) (fun h => ?_)
  · refine z_locals (ks := [0]) (lv' := [(0, .ref (a0 99))]) rfl ?_
    exact zex1 (F := (fun e0 => zt p l e R s m args below meth c 3 A D kK (5 * kK) Q (wX7 T a0 e0) [(0, .ref (a0 99))] 167 [])) h K
  · refine z_aload_n (C.1 kK (Nat.le_refl _)) dX7_text_129 rfl 0 rfl 130 rfl ?_
    refine z_aload_n (C.1 kK (Nat.le_refl _)) dX7_text_130 rfl 0 rfl 131 rfl ?_
    refine z_get (C.1 kK (Nat.le_refl _)) (in_X7_text_X7) 0 rfl rfl 22 (by decide) (List.mem_of_getElem? (i := 11) rfl) rfl rfl dX7_text_131 134 rfl ?_
    refine z_iconst (C.1 kK (Nat.le_refl _)) 3 dX7_text_134 (by decide) 135 rfl ?_
    refine z_iload_n (C.1 kK (Nat.le_refl _)) dX7_text_135 rfl 1 rfl 136 rfl ?_
    refine z_imul (C.1 kK (Nat.le_refl _)) dX7_text_136 137 rfl ?_
    refine z_iald (C.1 kK (Nat.le_refl _)) 6 rfl rfl dX7_text_137 138 rfl h (fun h => ?_)
    refine z_aload_n (C.1 kK (Nat.le_refl _)) dX7_text_138 rfl 0 rfl 139 rfl ?_
    refine z_get (C.1 kK (Nat.le_refl _)) (in_X7_text_X7) 0 rfl rfl 22 (by decide) (List.mem_of_getElem? (i := 11) rfl) rfl rfl dX7_text_139 142 rfl ?_
    refine z_iconst (C.1 kK (Nat.le_refl _)) 3 dX7_text_142 (by decide) 143 rfl ?_
    refine z_iload_n (C.1 kK (Nat.le_refl _)) dX7_text_143 rfl 1 rfl 144 rfl ?_
    refine z_imul (C.1 kK (Nat.le_refl _)) dX7_text_144 145 rfl ?_
    refine z_iconst (C.1 kK (Nat.le_refl _)) 1 dX7_text_145 (by decide) 146 rfl ?_
    refine z_iadd (C.1 kK (Nat.le_refl _)) dX7_text_146 147 rfl ?_
    refine z_iald (C.1 kK (Nat.le_refl _)) 6 rfl rfl dX7_text_147 148 rfl h (fun h => ?_)
    refine z_aload_n (C.1 kK (Nat.le_refl _)) dX7_text_148 rfl 0 rfl 149 rfl ?_
    refine z_get (C.1 kK (Nat.le_refl _)) (in_X7_text_X7) 0 rfl rfl 22 (by decide) (List.mem_of_getElem? (i := 11) rfl) rfl rfl dX7_text_149 152 rfl ?_
    refine z_iconst (C.1 kK (Nat.le_refl _)) 3 dX7_text_152 (by decide) 153 rfl ?_
    refine z_iload_n (C.1 kK (Nat.le_refl _)) dX7_text_153 rfl 1 rfl 154 rfl ?_
    refine z_imul (C.1 kK (Nat.le_refl _)) dX7_text_154 155 rfl ?_
    refine z_iconst (C.1 kK (Nat.le_refl _)) 2 dX7_text_155 (by decide) 156 rfl ?_
    refine z_iadd (C.1 kK (Nat.le_refl _)) dX7_text_156 157 rfl ?_
    refine z_iald (C.1 kK (Nat.le_refl _)) 6 rfl rfl dX7_text_157 158 rfl h (fun h => ?_)
    refine z_callV (C.1 kK (Nat.le_refl _)) (wX7 T a0 a.2) (([] : va_W)) (fun z => wX7 T a0 z) (fun z => wX7 T a0 z) (fun z h => c_X7_adds l D T a0  a.2 (a.2 22 (Int32.toNatClampNeg (3 * a.1))) (a.2 22 (Int32.toNatClampNeg ((3 * a.1) + 1))) (a.2 22 (Int32.toNatClampNeg ((3 * a.1) + 2))) z h) ⟨rfl, rfl⟩ (z_cwV (C.1 kK (Nat.le_refl _)) 3 gX7_text_X7_adds rfl rfl dd_X7_adds ⟨(Nat.le_of_ble_eq_true rfl), (Nat.le_of_ble_eq_true rfl)⟩) (hD.zaddr rfl) [0, 1, 2, 3, 4, 5, 6, 7, 8, 9, 10, 11, 12, 13, 14, 15, 16, 17] [] [0, 1, 2, 3, 4, 5, 6, 7, 8, 9, 10, 11, 12, 13, 14, 15, 16, 17] rfl rfl rfl (by decide) (fun _ => rfl) (fun _ => ⟨a0 99, [.int (a.2 22 (Int32.toNatClampNeg (3 * a.1))), .int (a.2 22 (Int32.toNatClampNeg ((3 * a.1) + 1))), .int (a.2 22 (Int32.toNatClampNeg ((3 * a.1) + 2)))], 6, 0, _, _, rfl, rfl, rfl, rfl, rfl⟩) (fun h => absurd rfl h) rfl (Nat.le_of_ble_eq_true rfl) dX7_text_158 161 rfl h (fun r_16 h => ?_)
    refine z_iinc (C.1 kK (Nat.le_refl _)) (a.1 + 1) [(0, .ref (a0 99)), (2, .int (a.1 + 1))] dX7_text_161 1 rfl rfl (Nat.le_of_ble_eq_true rfl) [1, 0] rfl 164 rfl ?_
    refine z_goto (C.1 kK (Nat.le_refl _)) 121 dX7_text_164 (by decide) ?_
    exact z_locals (ks := [0, 1]) rfl (hrec _ _ _ h K)

def f_X7_text_L169b (kK : Nat)   (rec : (Int32 × (Nat → Nat → Int32)) → Option ((Nat → Nat → Int32))) (a : Int32 × (Nat → Nat → Int32)) : Option ((Nat → Nat → Int32)) := if 240 ≤ a.1 then (some a.2) else (zix a.1 240 fun _ => zbo (a.2 23 (Int32.toNatClampNeg a.1)) (zix a.1 240 fun j => zlet (zst a.2 10 j (a.2 23 (Int32.toNatClampNeg a.1))) fun S0_18 => rec ((a.1 + 1), S0_18)))
def f_X7_text_L169 (kK : Nat)   : Nat → (Int32 × (Nat → Nat → Int32)) → Option ((Nat → Nat → Int32)) := zloop (fun rec a => f_X7_text_L169b kK  rec a)
set_option maxHeartbeats 4000000 in
set_option maxRecDepth 100000 in
theorem p_X7_text_L169 (C : zCN p R s m args meth c cX7_text 3 RX7 wsX7_text D T 7 149 kK) (hA : ∀ q, s.heap.size ≤ q → A q) (S0 : Nat → Nat → Int32)  (hD : va_D A (wX7 T a0 S0)) : ∀ (n : Nat) (c0 : Int32) (c1 : Nat → Nat → Int32) (b : (Nat → Nat → Int32)), f_X7_text_L169 kK  n (c0, c1) = some b → (zt p l e R s m args below meth c 3 A D kK (5 * kK) Q (wX7 T a0 b) [(0, .ref (a0 99))] 194 []) → zt p l e R s m args below meth c 3 A D kK (5 * kK) Q (wX7 T a0 c1) [(0, .ref (a0 99)), (2, .int c0)] 169 [] := by
  intro n c0 c1 b h K
  refine zloop_ind (P := fun a b => (zt p l e R s m args below meth c 3 A D kK (5 * kK) Q (wX7 T a0 b) [(0, .ref (a0 99))] 194 []) → zt p l e R s m args below meth c 3 A D kK (5 * kK) Q (wX7 T a0 a.2) [(0, .ref (a0 99)), (2, .int a.1)] 169 []) ?_ n (c0, c1) b h K
  clear h K b c0 c1
  intro rec hrec a b h K
  have hrec : ∀ (c0 : Int32) (c1 : Nat → Nat → Int32) (b : (Nat → Nat → Int32)), rec (c0, c1) = some b → (zt p l e R s m args below meth c 3 A D kK (5 * kK) Q (wX7 T a0 b) [(0, .ref (a0 99))] 194 []) → zt p l e R s m args below meth c 3 A D kK (5 * kK) Q (wX7 T a0 c1) [(0, .ref (a0 99)), (2, .int c0)] 169 [] := fun c0 c1 b h K => hrec (c0, c1) b h K
  unfold f_X7_text_L169b at h
  refine z_iload_n (C.1 kK (Nat.le_refl _)) dX7_text_169 rfl 1 rfl 170 rfl ?_
  refine z_sipush (C.1 kK (Nat.le_refl _)) 240 dX7_text_170 (by decide) 173 rfl ?_
  refine z_icmp_ge (C.1 kK (Nat.le_refl _)) 194 dX7_text_173 (by decide) 176 rfl h (fun h => ?_) (fun h => ?_)
  · refine z_locals (ks := [0]) (lv' := [(0, .ref (a0 99))]) rfl ?_
    exact zex1 (F := (fun e0 => zt p l e R s m args below meth c 3 A D kK (5 * kK) Q (wX7 T a0 e0) [(0, .ref (a0 99))] 194 [])) h K
  · refine z_aload_n (C.1 kK (Nat.le_refl _)) dX7_text_176 rfl 0 rfl 177 rfl ?_
    refine z_get (C.1 kK (Nat.le_refl _)) (in_X7_text_X7) 0 rfl rfl 10 (by decide) (List.mem_of_getElem? (i := 12) rfl) rfl rfl dX7_text_177 180 rfl ?_
    refine z_iload_n (C.1 kK (Nat.le_refl _)) dX7_text_180 rfl 1 rfl 181 rfl ?_
    refine z_aload_n (C.1 kK (Nat.le_refl _)) dX7_text_181 rfl 0 rfl 182 rfl ?_
    refine z_get (C.1 kK (Nat.le_refl _)) (in_X7_text_X7) 0 rfl rfl 23 (by decide) (List.mem_of_getElem? (i := 8) rfl) rfl rfl dX7_text_182 185 rfl ?_
    refine z_iload_n (C.1 kK (Nat.le_refl _)) dX7_text_185 rfl 1 rfl 186 rfl ?_
    refine z_zald (C.1 kK (Nat.le_refl _)) 7 rfl rfl dX7_text_186 187 rfl h (fun h => ?_)
    refine z_zast (C.1 kK (Nat.le_refl _)) (fun z => wX7 T a0 z) a.2 10 (hD.zaddr rfl) 4 rfl rfl (fun _ => rfl) dX7_text_187 188 rfl h (fun S0_18 h => ?_)
    refine z_iinc (C.1 kK (Nat.le_refl _)) (a.1 + 1) [(0, .ref (a0 99)), (2, .int (a.1 + 1))] dX7_text_188 1 rfl rfl (Nat.le_of_ble_eq_true rfl) [1, 0] rfl 191 rfl ?_
    refine z_goto (C.1 kK (Nat.le_refl _)) 169 dX7_text_191 (by decide) ?_
    exact z_locals (ks := [0, 1]) rfl (hrec _ _ _ h K)

def f_X7_text (kK : Nat) (S0 : Nat → Nat → Int32) (v1 : Int32) : Option (Int32 × (Nat → Nat → Int32)) := zlet (zst S0 0 0 0) fun S0_1 => (f_X7_within v1 0 (S0_1 12 0)).bind fun r_2 => if r_2 = 0 then (some ((-1), S0_1)) else (zlet (zst S0_1 13 0 v1) fun S0_3 => zlet (zst S0_3 12 0 0) fun S0_4 => zlet (zst S0_4 15 0 0) fun S0_5 => zlet (zst S0_5 18 0 0) fun S0_6 => zlet (zst S0_6 21 0 0) fun S0_7 => zix 0 3 fun j => zlet (zst S0_7 24 j 10) fun S0_8 => zix 1 3 fun j => zlet (zst S0_8 24 j 4) fun S0_9 => zix 2 3 fun j => zlet (zst S0_9 24 j 3) fun S0_10 => (f_X7_text_L68 kK  zfuel (0, S0_10)).bind fun y_12 => (f_X7_go y_12).bind fun r_13 => (f_X7_reads kK r_13).bind fun r_14 => if r_14.1 = 0 then (some (((-2) - (r_14.2 18 0)), r_14.2)) else ((f_X7_begins r_14.2 (r_14.2 19 0) (r_14.2 20 0)).bind fun r_15 => (f_X7_text_L121 kK  zfuel (0, r_15)).bind fun y_17 => (f_X7_text_L169 kK  zfuel (0, y_17)).bind fun y_19 => zix 0 3 fun _ => zlet (zst y_19 3 0 (y_19 24 (Int32.toNatClampNeg 0))) fun S0_20 => zix 1 3 fun _ => zlet (zst S0_20 4 0 (S0_20 24 (Int32.toNatClampNeg 1))) fun S0_21 => zix 2 3 fun _ => zlet (zst S0_21 5 0 (S0_21 24 (Int32.toNatClampNeg 2))) fun S0_22 => some ((S0_22 9 0), S0_22)))
theorem dd_X7_text : RX7 ≠ "java/lang/invoke/MethodHandle" ∧ RX7 ≠ "java/lang/invoke/VarHandle" ∧ (parseMethodDescriptor yX7_text.desc).map (fun d => d.parameters.length) = some 1 := by decide +kernel
set_option maxHeartbeats 4000000 in
set_option maxRecDepth 100000 in
theorem c_X7_text (l : Launch) (D : va_G) (T : Nat → ClassId) (a0 : Nat → Nat) (kK : Nat) (S0 : Nat → Nat → Int32) (v1 : Int32) (ex : Int32 × (Nat → Nat → Int32)) (h : f_X7_text kK S0 v1 = some ex) (sz : Nat) : zWN l yX7_text wsX7_text 7 149 D T [.ref (a0 99), .int v1] (wX7 T a0 S0) sz ex.1 (wX7 T a0 ex.2) kK := by
  refine z_beginN (cc := cX7_text) (nL := 3) (own := RX7) (ret := some .int) (by decide) rfl (Nat.le_of_ble_eq_true rfl) [(0, .ref (a0 99)), (1, .int v1)] rfl rfl ?_
  intro p e s m args below meth c C hr hD hA
  have hD := zAn.hD (sz := sz) hD
  unfold f_X7_text at h
  refine z_aload_n (C.1 0 (Nat.zero_le _)) dX7_text_0 rfl 0 rfl 1 rfl ?_
  refine z_iconst (C.1 0 (Nat.zero_le _)) 0 dX7_text_1 (by decide) 2 rfl ?_
  refine z_put (ty := .int) (C.1 0 (Nat.zero_le _)) (fun z => wX7 T a0 z) S0 (hD.zaddr rfl) (in_X7_text_X7) tyX7 tyX7_ok nmX7 0 rfl rfl 0 (by decide) (List.mem_of_getElem? (i := 1) rfl) rfl rfl (by decide +kernel) rfl rfl (Nat.le_of_ble_eq_true rfl) rfl dX7_text_2 5 rfl h (fun S0_1 h => ?_)
  refine z_iload_n (C.1 0 (Nat.zero_le _)) dX7_text_5 rfl 1 rfl 6 rfl ?_
  refine z_iconst (C.1 0 (Nat.zero_le _)) 0 dX7_text_6 (by decide) 7 rfl ?_
  refine z_aload_n (C.1 0 (Nat.zero_le _)) dX7_text_7 rfl 0 rfl 8 rfl ?_
  refine z_get (C.1 0 (Nat.zero_le _)) (in_X7_text_X7) 0 rfl rfl 12 (by decide) (List.mem_of_getElem? (i := 2) rfl) rfl rfl dX7_text_8 11 rfl ?_
  refine z_callR (C.1 0 (Nat.zero_le _)) ([]) (fun v h => c_X7_within l D T    v1 0 (S0_1 12 0) v h) ⟨rfl, rfl⟩ (z_cwS (C.1 0 (Nat.zero_le _)) 3 gX7_text_X7_within rfl dd_X7_within ⟨(Nat.le_of_ble_eq_true rfl), (Nat.le_of_ble_eq_true rfl)⟩) (hD.zaddr rfl) [] rfl rfl (fun h => absurd h (by decide)) (fun _ => rfl) rfl (Nat.le_of_ble_eq_true rfl) dX7_text_11 14 rfl h (fun r_2 h => ?_)
  refine z_if_ne (C.1 0 (Nat.zero_le _)) 19 dX7_text_14 (by decide) 17 rfl h (fun h => ?_) (fun h => ?_)
  · refine z_aload_n (C.1 0 (Nat.zero_le _)) dX7_text_19 rfl 0 rfl 20 rfl ?_
    refine z_iload_n (C.1 0 (Nat.zero_le _)) dX7_text_20 rfl 1 rfl 21 rfl ?_
    refine z_put (ty := .int) (C.1 0 (Nat.zero_le _)) (fun z => wX7 T a0 z) S0_1 (hD.zaddr rfl) (in_X7_text_X7) tyX7 tyX7_ok nmX7 0 rfl rfl 13 (by decide) (List.mem_of_getElem? (i := 3) rfl) rfl rfl (by decide +kernel) rfl rfl (Nat.le_of_ble_eq_true rfl) rfl dX7_text_21 24 rfl h (fun S0_3 h => ?_)
    refine z_aload_n (C.1 0 (Nat.zero_le _)) dX7_text_24 rfl 0 rfl 25 rfl ?_
    refine z_iconst (C.1 0 (Nat.zero_le _)) 0 dX7_text_25 (by decide) 26 rfl ?_
    refine z_put (ty := .int) (C.1 0 (Nat.zero_le _)) (fun z => wX7 T a0 z) S0_3 (hD.zaddr rfl) (in_X7_text_X7) tyX7 tyX7_ok nmX7 0 rfl rfl 12 (by decide) (List.mem_of_getElem? (i := 2) rfl) rfl rfl (by decide +kernel) rfl rfl (Nat.le_of_ble_eq_true rfl) rfl dX7_text_26 29 rfl h (fun S0_4 h => ?_)
    refine z_aload_n (C.1 0 (Nat.zero_le _)) dX7_text_29 rfl 0 rfl 30 rfl ?_
    refine z_iconst (C.1 0 (Nat.zero_le _)) 0 dX7_text_30 (by decide) 31 rfl ?_
    refine z_put (ty := .int) (C.1 0 (Nat.zero_le _)) (fun z => wX7 T a0 z) S0_4 (hD.zaddr rfl) (in_X7_text_X7) tyX7 tyX7_ok nmX7 0 rfl rfl 15 (by decide) (List.mem_of_getElem? (i := 4) rfl) rfl rfl (by decide +kernel) rfl rfl (Nat.le_of_ble_eq_true rfl) rfl dX7_text_31 34 rfl h (fun S0_5 h => ?_)
    refine z_aload_n (C.1 0 (Nat.zero_le _)) dX7_text_34 rfl 0 rfl 35 rfl ?_
    refine z_iconst (C.1 0 (Nat.zero_le _)) 0 dX7_text_35 (by decide) 36 rfl ?_
    refine z_put (ty := .int) (C.1 0 (Nat.zero_le _)) (fun z => wX7 T a0 z) S0_5 (hD.zaddr rfl) (in_X7_text_X7) tyX7 tyX7_ok nmX7 0 rfl rfl 18 (by decide) (List.mem_of_getElem? (i := 5) rfl) rfl rfl (by decide +kernel) rfl rfl (Nat.le_of_ble_eq_true rfl) rfl dX7_text_36 39 rfl h (fun S0_6 h => ?_)
    refine z_aload_n (C.1 0 (Nat.zero_le _)) dX7_text_39 rfl 0 rfl 40 rfl ?_
    refine z_iconst (C.1 0 (Nat.zero_le _)) 0 dX7_text_40 (by decide) 41 rfl ?_
    refine z_put (ty := .int) (C.1 0 (Nat.zero_le _)) (fun z => wX7 T a0 z) S0_6 (hD.zaddr rfl) (in_X7_text_X7) tyX7 tyX7_ok nmX7 0 rfl rfl 21 (by decide) (List.mem_of_getElem? (i := 6) rfl) rfl rfl (by decide +kernel) rfl rfl (Nat.le_of_ble_eq_true rfl) rfl dX7_text_41 44 rfl h (fun S0_7 h => ?_)
    refine z_aload_n (C.1 0 (Nat.zero_le _)) dX7_text_44 rfl 0 rfl 45 rfl ?_
    refine z_get (C.1 0 (Nat.zero_le _)) (in_X7_text_X7) 0 rfl rfl 24 (by decide) (List.mem_of_getElem? (i := 7) rfl) rfl rfl dX7_text_45 48 rfl ?_
    refine z_iconst (C.1 0 (Nat.zero_le _)) 0 dX7_text_48 (by decide) 49 rfl ?_
    refine z_bipush (C.1 0 (Nat.zero_le _)) 10 dX7_text_49 (by decide) 51 rfl ?_
    refine z_iast (C.1 0 (Nat.zero_le _)) (fun z => wX7 T a0 z) S0_7 24 (hD.zaddr rfl) 8 rfl rfl (fun _ => rfl) dX7_text_51 52 rfl h (fun S0_8 h => ?_)
    refine z_aload_n (C.1 0 (Nat.zero_le _)) dX7_text_52 rfl 0 rfl 53 rfl ?_
    refine z_get (C.1 0 (Nat.zero_le _)) (in_X7_text_X7) 0 rfl rfl 24 (by decide) (List.mem_of_getElem? (i := 7) rfl) rfl rfl dX7_text_53 56 rfl ?_
    refine z_iconst (C.1 0 (Nat.zero_le _)) 1 dX7_text_56 (by decide) 57 rfl ?_
    refine z_iconst (C.1 0 (Nat.zero_le _)) 4 dX7_text_57 (by decide) 58 rfl ?_
    refine z_iast (C.1 0 (Nat.zero_le _)) (fun z => wX7 T a0 z) S0_8 24 (hD.zaddr rfl) 8 rfl rfl (fun _ => rfl) dX7_text_58 59 rfl h (fun S0_9 h => ?_)
    refine z_aload_n (C.1 0 (Nat.zero_le _)) dX7_text_59 rfl 0 rfl 60 rfl ?_
    refine z_get (C.1 0 (Nat.zero_le _)) (in_X7_text_X7) 0 rfl rfl 24 (by decide) (List.mem_of_getElem? (i := 7) rfl) rfl rfl dX7_text_60 63 rfl ?_
    refine z_iconst (C.1 0 (Nat.zero_le _)) 2 dX7_text_63 (by decide) 64 rfl ?_
    refine z_iconst (C.1 0 (Nat.zero_le _)) 3 dX7_text_64 (by decide) 65 rfl ?_
    refine z_iast (C.1 0 (Nat.zero_le _)) (fun z => wX7 T a0 z) S0_9 24 (hD.zaddr rfl) 8 rfl rfl (fun _ => rfl) dX7_text_65 66 rfl h (fun S0_10 h => ?_)
    refine z_iconst (C.1 0 (Nat.zero_le _)) 0 dX7_text_66 (by decide) 67 rfl ?_
    refine z_istore_n (C.1 0 (Nat.zero_le _)) [(0, .ref (a0 99)), (1, .int v1), (2, .int 0)] dX7_text_67 rfl (Nat.le_of_ble_eq_true rfl) [1, 2, 0] rfl 68 rfl ?_
    obtain ⟨y_12, hl_y_12, h⟩ := Option.bind_eq_some_iff.mp h
    refine z_locals (ks := [0, 2]) rfl (p_X7_text_L68 C hA S0_10  (hD.zaddr rfl) _ _ _ _ hl_y_12 ?_)
    refine z_aload_n (C.1 0 (Nat.zero_le _)) dX7_text_88 rfl 0 rfl 89 rfl ?_
    refine z_callV (C.1 0 (Nat.zero_le _)) (wX7 T a0 y_12) (([] : va_W)) (fun z => wX7 T a0 z) (fun z => wX7 T a0 z) (fun z h => c_X7_go l D T a0  y_12  z h) ⟨rfl, rfl⟩ (z_cwV (C.1 0 (Nat.zero_le _)) 0 gX7_text_X7_go rfl rfl dd_X7_go ⟨(Nat.le_of_ble_eq_true rfl), (Nat.le_of_ble_eq_true rfl)⟩) (hD.zaddr rfl) [0, 1, 2, 3, 4, 5, 6, 7, 8, 9, 10, 11, 12, 13, 14, 15, 16, 17] [] [0, 1, 2, 3, 4, 5, 6, 7, 8, 9, 10, 11, 12, 13, 14, 15, 16, 17] rfl rfl rfl (by decide) (fun _ => rfl) (fun _ => ⟨a0 99, [], 6, 0, _, _, rfl, rfl, rfl, rfl, rfl⟩) (fun h => absurd rfl h) rfl (Nat.le_of_ble_eq_true rfl) dX7_text_89 92 rfl h (fun r_13 h => ?_)
    refine z_aload_n (C.1 0 (Nat.zero_le _)) dX7_text_92 rfl 0 rfl 93 rfl ?_
    refine z_callN (k := 0) (kc := kK) C (wX7 T a0 r_13) (fun z => z.1) (fun z => wX7 T a0 z.2) (fun sz z h => c_X7_reads l D T a0 kK r_13  z h sz) (z_cwVN (rm := ({ frames := 6, cells := kK, slots := 5 * kK, locals := 129 } : Room)) (C.1 0 (Nat.zero_le _)) 0 gX7_text_X7_reads rfl rfl dd_X7_reads ⟨(Nat.le_of_ble_eq_true rfl), (Nat.le_of_ble_eq_true rfl)⟩) (Nat.le_of_eq (Nat.zero_add _)) (hD.zaddr rfl) hA ⟨a0 99, [], 6, 0, _, _, rfl, rfl, rfl, rfl, rfl⟩ rfl (Nat.le_of_ble_eq_true rfl) dX7_text_93 kK (Nat.zero_add _) 96 rfl h (fun r_14 h => ?_)
    refine z_if_ne (C.1 kK (Nat.le_refl _)) 107 dX7_text_96 (by decide) 99 rfl h (fun h => ?_) (fun h => ?_)
    · refine z_aload_n (C.1 kK (Nat.le_refl _)) dX7_text_107 rfl 0 rfl 108 rfl ?_
      refine z_aload_n (C.1 kK (Nat.le_refl _)) dX7_text_108 rfl 0 rfl 109 rfl ?_
      refine z_get (C.1 kK (Nat.le_refl _)) (in_X7_text_X7) 0 rfl rfl 19 (by decide) (List.mem_of_getElem? (i := 9) rfl) rfl rfl dX7_text_109 112 rfl ?_
      refine z_aload_n (C.1 kK (Nat.le_refl _)) dX7_text_112 rfl 0 rfl 113 rfl ?_
      refine z_get (C.1 kK (Nat.le_refl _)) (in_X7_text_X7) 0 rfl rfl 20 (by decide) (List.mem_of_getElem? (i := 10) rfl) rfl rfl dX7_text_113 116 rfl ?_
      refine z_callV (C.1 kK (Nat.le_refl _)) (wX7 T a0 r_14.2) (([] : va_W)) (fun z => wX7 T a0 z) (fun z => wX7 T a0 z) (fun z h => c_X7_begins l D T a0  r_14.2 (r_14.2 19 0) (r_14.2 20 0) z h) ⟨rfl, rfl⟩ (z_cwV (C.1 kK (Nat.le_refl _)) 2 gX7_text_X7_begins rfl rfl dd_X7_begins ⟨(Nat.le_of_ble_eq_true rfl), (Nat.le_of_ble_eq_true rfl)⟩) (hD.zaddr rfl) [0, 1, 2, 3, 4, 5, 6, 7, 8, 9, 10, 11, 12, 13, 14, 15, 16, 17] [] [0, 1, 2, 3, 4, 5, 6, 7, 8, 9, 10, 11, 12, 13, 14, 15, 16, 17] rfl rfl rfl (by decide) (fun _ => rfl) (fun _ => ⟨a0 99, [.int (r_14.2 19 0), .int (r_14.2 20 0)], 6, 0, _, _, rfl, rfl, rfl, rfl, rfl⟩) (fun h => absurd rfl h) rfl (Nat.le_of_ble_eq_true rfl) dX7_text_116 119 rfl h (fun r_15 h => ?_)
      refine z_iconst (C.1 kK (Nat.le_refl _)) 0 dX7_text_119 (by decide) 120 rfl ?_
      refine z_istore_n (C.1 kK (Nat.le_refl _)) [(0, .ref (a0 99)), (2, .int 0)] dX7_text_120 rfl (Nat.le_of_ble_eq_true rfl) [1, 0] rfl 121 rfl ?_
      obtain ⟨y_17, hl_y_17, h⟩ := Option.bind_eq_some_iff.mp h
      refine z_locals (ks := [0, 1]) rfl (p_X7_text_L121 C hA r_15  (hD.zaddr rfl) _ _ _ _ hl_y_17 ?_)
      refine z_iconst (C.1 kK (Nat.le_refl _)) 0 dX7_text_167 (by decide) 168 rfl ?_
      refine z_istore_n (C.1 kK (Nat.le_refl _)) [(0, .ref (a0 99)), (2, .int 0)] dX7_text_168 rfl (Nat.le_of_ble_eq_true rfl) [1, 0] rfl 169 rfl ?_
      obtain ⟨y_19, hl_y_19, h⟩ := Option.bind_eq_some_iff.mp h
      refine z_locals (ks := [0, 1]) rfl (p_X7_text_L169 C hA y_17  (hD.zaddr rfl) _ _ _ _ hl_y_19 ?_)
      refine z_aload_n (C.1 kK (Nat.le_refl _)) dX7_text_194 rfl 0 rfl 195 rfl ?_
      refine z_aload_n (C.1 kK (Nat.le_refl _)) dX7_text_195 rfl 0 rfl 196 rfl ?_
      refine z_get (C.1 kK (Nat.le_refl _)) (in_X7_text_X7) 0 rfl rfl 24 (by decide) (List.mem_of_getElem? (i := 7) rfl) rfl rfl dX7_text_196 199 rfl ?_
      refine z_iconst (C.1 kK (Nat.le_refl _)) 0 dX7_text_199 (by decide) 200 rfl ?_
      refine z_iald (C.1 kK (Nat.le_refl _)) 8 rfl rfl dX7_text_200 201 rfl h (fun h => ?_)
      refine z_put (ty := .int) (C.1 kK (Nat.le_refl _)) (fun z => wX7 T a0 z) y_19 (hD.zaddr rfl) (in_X7_text_X7) tyX7 tyX7_ok nmX7 0 rfl rfl 3 (by decide) (List.mem_of_getElem? (i := 13) rfl) rfl rfl (by decide +kernel) rfl rfl (Nat.le_of_ble_eq_true rfl) rfl dX7_text_201 204 rfl h (fun S0_20 h => ?_)
      refine z_aload_n (C.1 kK (Nat.le_refl _)) dX7_text_204 rfl 0 rfl 205 rfl ?_
      refine z_aload_n (C.1 kK (Nat.le_refl _)) dX7_text_205 rfl 0 rfl 206 rfl ?_
      refine z_get (C.1 kK (Nat.le_refl _)) (in_X7_text_X7) 0 rfl rfl 24 (by decide) (List.mem_of_getElem? (i := 7) rfl) rfl rfl dX7_text_206 209 rfl ?_
      refine z_iconst (C.1 kK (Nat.le_refl _)) 1 dX7_text_209 (by decide) 210 rfl ?_
      refine z_iald (C.1 kK (Nat.le_refl _)) 8 rfl rfl dX7_text_210 211 rfl h (fun h => ?_)
      refine z_put (ty := .int) (C.1 kK (Nat.le_refl _)) (fun z => wX7 T a0 z) S0_20 (hD.zaddr rfl) (in_X7_text_X7) tyX7 tyX7_ok nmX7 0 rfl rfl 4 (by decide) (List.mem_of_getElem? (i := 14) rfl) rfl rfl (by decide +kernel) rfl rfl (Nat.le_of_ble_eq_true rfl) rfl dX7_text_211 214 rfl h (fun S0_21 h => ?_)
      refine z_aload_n (C.1 kK (Nat.le_refl _)) dX7_text_214 rfl 0 rfl 215 rfl ?_
      refine z_aload_n (C.1 kK (Nat.le_refl _)) dX7_text_215 rfl 0 rfl 216 rfl ?_
      refine z_get (C.1 kK (Nat.le_refl _)) (in_X7_text_X7) 0 rfl rfl 24 (by decide) (List.mem_of_getElem? (i := 7) rfl) rfl rfl dX7_text_216 219 rfl ?_
      refine z_iconst (C.1 kK (Nat.le_refl _)) 2 dX7_text_219 (by decide) 220 rfl ?_
      refine z_iald (C.1 kK (Nat.le_refl _)) 8 rfl rfl dX7_text_220 221 rfl h (fun h => ?_)
      refine z_put (ty := .int) (C.1 kK (Nat.le_refl _)) (fun z => wX7 T a0 z) S0_21 (hD.zaddr rfl) (in_X7_text_X7) tyX7 tyX7_ok nmX7 0 rfl rfl 5 (by decide) (List.mem_of_getElem? (i := 15) rfl) rfl rfl (by decide +kernel) rfl rfl (Nat.le_of_ble_eq_true rfl) rfl dX7_text_221 224 rfl h (fun S0_22 h => ?_)
      refine z_aload_n (C.1 kK (Nat.le_refl _)) dX7_text_224 rfl 0 rfl 225 rfl ?_
      refine z_get (C.1 kK (Nat.le_refl _)) (in_X7_text_X7) 0 rfl rfl 9 (by decide) (List.mem_of_getElem? (i := 16) rfl) rfl rfl dX7_text_225 228 rfl ?_
      exact z_iretN (x := S0_22) (ex := ex) (fun z => wX7 T a0 z) C (Nat.le_refl _) hr dX7_text_228 h rfl
    · refine z_bipush (C.1 kK (Nat.le_refl _)) (-2) dX7_text_99 (by decide) 101 rfl ?_
      refine z_aload_n (C.1 kK (Nat.le_refl _)) dX7_text_101 rfl 0 rfl 102 rfl ?_
      refine z_get (C.1 kK (Nat.le_refl _)) (in_X7_text_X7) 0 rfl rfl 18 (by decide) (List.mem_of_getElem? (i := 5) rfl) rfl rfl dX7_text_102 105 rfl ?_
      refine z_isub (C.1 kK (Nat.le_refl _)) dX7_text_105 106 rfl ?_
      exact z_iretN (x := r_14.2) (ex := ex) (fun z => wX7 T a0 z) C (Nat.le_refl _) hr dX7_text_106 h rfl
  · refine z_iconst (C.1 0 (Nat.zero_le _)) (-1) dX7_text_17 (by decide) 18 rfl ?_
    exact z_iretN (x := S0_1) (ex := ex) (fun z => wX7 T a0 z) C (Nat.zero_le _) hr dX7_text_18 h rfl

end
