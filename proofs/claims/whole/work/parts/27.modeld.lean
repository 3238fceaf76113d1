/-! StreamTreeModel.follows (III)V -/
section
variable {p : Program} {l : Launch} {e : Env} {R : Room} {s : State} {m : MethodId} {args : Array Value} {below : List Frame} {meth : Method} {c : Code} {Q : State → Prop} {A : Nat → Prop} {D : va_G} {T : Nat → ClassId} {a0 : Nat → Nat}
theorem dd_X7_follows : RX7 ≠ "java/lang/invoke/MethodHandle" ∧ RX7 ≠ "java/lang/invoke/VarHandle" ∧ (parseMethodDescriptor yX7_follows.desc).map (fun d => d.parameters.length) = some 3 := by decide +kernel
theorem in_X7_follows_X7 : ∀ w ∈ u_ws RX7 TX7 35, w ∈ wsX7_follows := fun _ h => (List.mem_cons_of_mem _ (List.mem_append_right _ h))
def f_X7_follows_J133 (slf : (Nat → Nat → Int32) → Int32 → Int32 → Int32 → Option (Nat → Nat → Int32)) (S0 : Nat → Nat → Int32) (x1 : Int32) (x3 : Int32) (x5 : Int32) (x6 : Int32) (k1 : Int32) (k2 : Int32) : Option ((Nat → Nat → Int32)) := zix k1 240 fun j => zlet (zst S0 26 j k2) fun S0_5 => zix x3 128 fun _ => zix x6 240 fun j => zlet (zst S0_5 27 j (S0_5 30 (Int32.toNatClampNeg x3))) fun S0_6 => (slf S0_6 (x1 + 1) x5 x3).bind fun r_7 => some r_7
set_option maxHeartbeats 4000000 in
set_option maxRecDepth 100000 in
theorem p_X7_follows_J133 {w0 : va_W} {n : Nat} {slf : (Nat → Nat → Int32) → Int32 → Int32 → Int32 → Option (Nat → Nat → Int32)} (ih : ∀ (S0 : Nat → Nat → Int32) (v1 v2 v3 : Int32) (ex : Nat → Nat → Int32), slf S0 v1 v2 v3 = some ex → zWV l yX7_follows wsX7_follows ({ frames := n + 1, cells := 0, slots := 0, locals := 40 * n + 60 } : Room) D T [.ref (a0 99), .int v1, .int v2, .int v3] (wX7 T a0 S0) (wX7 T a0 ex)) (C : zC p R s m args meth c cX7_follows 7 RX7 wsX7_follows D T (n + 2) (40 * (n + 1) + 60) 0 0) (hr : meth.sig.returnType = none) (S0 : Nat → Nat → Int32) (x1 : Int32) (x3 : Int32) (x5 : Int32) (x6 : Int32) (k1 : Int32) (k2 : Int32) (hD : va_D (zA w0) (wX7 T a0 S0)) {ex : (Nat → Nat → Int32)} (h : f_X7_follows_J133 slf S0 x1 x3 x5 x6 k1 k2 = some ex) : zt p l e R s m args below meth c 7 (zA w0) D 0 0 (MQ below (zQV D w0 (wX7 T a0 ex)) args s 0 0 (zA w0)) (wX7 T a0 S0) [(0, .ref (a0 99)), (1, .int x1), (3, .int x3), (5, .int x5), (6, .int x6)] 133 [.int k2, .int k1, .ref (a0 26)] := by
  unfold f_X7_follows_J133 at h
  refine z_iast C (fun z => wX7 T a0 z) S0 26 (hD.zaddr rfl) 9 rfl rfl (fun _ => rfl) dX7_follows_133 134 rfl h (fun S0_5 h => ?_)
  refine z_aload_n C dX7_follows_134 rfl 0 rfl 135 rfl ?_
  refine z_get C (in_X7_follows_X7) 0 rfl rfl 27 (by decide) (List.mem_of_getElem? (i := 3) rfl) rfl rfl dX7_follows_135 138 rfl ?_
  refine z_iload C dX7_follows_138 4 rfl 140 rfl ?_
  refine z_aload_n C dX7_follows_140 rfl 0 rfl 141 rfl ?_
  refine z_get C (in_X7_follows_X7) 0 rfl rfl 30 (by decide) (List.mem_of_getElem? (i := 4) rfl) rfl rfl dX7_follows_141 144 rfl ?_
  refine z_iload_n C dX7_follows_144 rfl 2 rfl 145 rfl ?_
  refine z_iald C 13 rfl rfl dX7_follows_145 146 rfl h (fun h => ?_)
  refine z_iast C (fun z => wX7 T a0 z) S0_5 27 (hD.zaddr rfl) 10 rfl rfl (fun _ => rfl) dX7_follows_146 147 rfl h (fun S0_6 h => ?_)
  refine z_aload_n C dX7_follows_147 rfl 0 rfl 148 rfl ?_
  refine z_iload_n C dX7_follows_148 rfl 1 rfl 149 rfl ?_
  refine z_iconst C 1 dX7_follows_149 (by decide) 150 rfl ?_
  refine z_iadd C dX7_follows_150 151 rfl ?_
  refine z_iload C dX7_follows_151 3 rfl 153 rfl ?_
  refine z_iload_n C dX7_follows_153 rfl 2 rfl 154 rfl ?_
  refine z_callV C (wX7 T a0 S0_6) (([] : va_W)) (fun z => wX7 T a0 z) (fun z => wX7 T a0 z) (fun z h => ih S0_6 (x1 + 1) x5 x3 z h) ⟨rfl, rfl⟩ (z_cwV C 3 gX7_follows_X7_follows rfl rfl dd_X7_follows ⟨Nat.le_refl _, by show 8 + (7 + 11) + (40 * n + 60) ≤ 40 * (n + 1) + 60; omega⟩) (hD.zaddr rfl) [0, 1, 2, 3, 4, 5, 6, 7, 8, 9, 10, 11, 12, 13, 14, 15, 16, 17] [] [0, 1, 2, 3, 4, 5, 6, 7, 8, 9, 10, 11, 12, 13, 14, 15, 16, 17] rfl rfl rfl (by decide) (fun _ => rfl) (fun _ => ⟨a0 99, [.int (x1 + 1), .int x5, .int x3], 6, 0, _, _, rfl, rfl, rfl, rfl, rfl⟩) (fun h => absurd rfl h) rfl (Nat.le_of_ble_eq_true rfl) dX7_follows_154 157 rfl h (fun r_7 h => ?_)
  exact z_vretW (x := r_7) (ex := ex) (fun z => wX7 T a0 z) C hr dX7_follows_157 h rfl

def f_X7_follows_J118 (slf : (Nat → Nat → Int32) → Int32 → Int32 → Int32 → Option (Nat → Nat → Int32)) (S0 : Nat → Nat → Int32) (x1 : Int32) (x3 : Int32) (x5 : Int32) (x6 : Int32) (k1 : Int32) : Option ((Nat → Nat → Int32)) := f_X7_follows_J133 slf S0 x1 x3 x5 x6 k1 0
set_option maxHeartbeats 4000000 in
set_option maxRecDepth 100000 in
theorem p_X7_follows_J118 {w0 : va_W} {n : Nat} {slf : (Nat → Nat → Int32) → Int32 → Int32 → Int32 → Option (Nat → Nat → Int32)} (ih : ∀ (S0 : Nat → Nat → Int32) (v1 v2 v3 : Int32) (ex : Nat → Nat → Int32), slf S0 v1 v2 v3 = some ex → zWV l yX7_follows wsX7_follows ({ frames := n + 1, cells := 0, slots := 0, locals := 40 * n + 60 } : Room) D T [.ref (a0 99), .int v1, .int v2, .int v3] (wX7 T a0 S0) (wX7 T a0 ex)) (C : zC p R s m args meth c cX7_follows 7 RX7 wsX7_follows D T (n + 2) (40 * (n + 1) + 60) 0 0) (hr : meth.sig.returnType = none) (S0 : Nat → Nat → Int32) (x1 : Int32) (x3 : Int32) (x5 : Int32) (x6 : Int32) (k1 : Int32) (hD : va_D (zA w0) (wX7 T a0 S0)) {ex : (Nat → Nat → Int32)} (h : f_X7_follows_J118 slf S0 x1 x3 x5 x6 k1 = some ex) : zt p l e R s m args below meth c 7 (zA w0) D 0 0 (MQ below (zQV D w0 (wX7 T a0 ex)) args s 0 0 (zA w0)) (wX7 T a0 S0) [(0, .ref (a0 99)), (1, .int x1), (3, .int x3), (5, .int x5), (6, .int x6)] 118 [.int k1, .ref (a0 26)] := by
  unfold f_X7_follows_J118 at h
  refine z_iconst C 0 dX7_follows_118 (by decide) 119 rfl ?_
  refine z_goto C 133 dX7_follows_119 (by decide) ?_
  exact z_locals (ks := [0, 1, 2, 3, 4]) rfl (p_X7_follows_J133 ih C hr S0 x1 x3 x5 x6 k1 0 (hD.zaddr rfl) h)

def f_X7_follows_J90 (slf : (Nat → Nat → Int32) → Int32 → Int32 → Int32 → Option (Nat → Nat → Int32)) (S0 : Nat → Nat → Int32) (x1 : Int32) (x3 : Int32) (x4 : Int32) (k0 : Int32) : Option ((Nat → Nat → Int32)) := (f_X7_cell (x1 + 1) k0).bind fun r_4 => if x1 = 0 then (f_X7_follows_J118 slf S0 x1 x3 k0 r_4 r_4) else (if x4 = 1 then (f_X7_follows_J118 slf S0 x1 x3 k0 r_4 r_4) else (if x4 = 2 then (f_X7_follows_J133 slf S0 x1 x3 k0 r_4 r_4 2) else (f_X7_follows_J133 slf S0 x1 x3 k0 r_4 r_4 1)))
set_option maxHeartbeats 4000000 in
set_option maxRecDepth 100000 in
theorem p_X7_follows_J90 {w0 : va_W} {n : Nat} {slf : (Nat → Nat → Int32) → Int32 → Int32 → Int32 → Option (Nat → Nat → Int32)} (ih : ∀ (S0 : Nat → Nat → Int32) (v1 v2 v3 : Int32) (ex : Nat → Nat → Int32), slf S0 v1 v2 v3 = some ex → zWV l yX7_follows wsX7_follows ({ frames := n + 1, cells := 0, slots := 0, locals := 40 * n + 60 } : Room) D T [.ref (a0 99), .int v1, .int v2, .int v3] (wX7 T a0 S0) (wX7 T a0 ex)) (C : zC p R s m args meth c cX7_follows 7 RX7 wsX7_follows D T (n + 2) (40 * (n + 1) + 60) 0 0) (hr : meth.sig.returnType = none) (S0 : Nat → Nat → Int32) (x1 : Int32) (x3 : Int32) (x4 : Int32) (k0 : Int32) (hD : va_D (zA w0) (wX7 T a0 S0)) {ex : (Nat → Nat → Int32)} (h : f_X7_follows_J90 slf S0 x1 x3 x4 k0 = some ex) : zt p l e R s m args below meth c 7 (zA w0) D 0 0 (MQ below (zQV D w0 (wX7 T a0 ex)) args s 0 0 (zA w0)) (wX7 T a0 S0) [(0, .ref (a0 99)), (1, .int x1), (3, .int x3), (4, .int x4)] 90 [.int k0] := by
  unfold f_X7_follows_J90 at h
  refine z_istore C [(0, .ref (a0 99)), (1, .int x1), (3, .int x3), (4, .int x4), (5, .int k0)] dX7_follows_90 (Nat.le_of_ble_eq_true rfl) [1, 2, 3, 4, 0] rfl 92 rfl ?_
  refine z_iload_n C dX7_follows_92 rfl 1 rfl 93 rfl ?_
  refine z_iconst C 1 dX7_follows_93 (by decide) 94 rfl ?_
  refine z_iadd C dX7_follows_94 95 rfl ?_
  refine z_iload C dX7_follows_95 4 rfl 97 rfl ?_
  refine z_callR C ([]) (fun v h => c_X7_cell l D T    (x1 + 1) k0 v h) ⟨rfl, rfl⟩ (z_cwS C 2 gX7_follows_X7_cell rfl dd_X7_cell ⟨by show 0 + 1 ≤ n + 2; omega, by show 8 + (2 + 11) + 0 ≤ 40 * (n + 1) + 60; omega⟩) (hD.zaddr rfl) [] rfl rfl (fun h => absurd h (by decide)) (fun _ => rfl) rfl (Nat.le_of_ble_eq_true rfl) dX7_follows_97 100 rfl h (fun r_4 h => ?_)
  refine z_istore C [(0, .ref (a0 99)), (1, .int x1), (3, .int x3), (4, .int x4), (5, .int k0), (6, .int r_4)] dX7_follows_100 (Nat.le_of_ble_eq_true rfl) [1, 2, 3, 4, 5, 0] rfl 102 rfl ?_
  refine z_aload_n C dX7_follows_102 rfl 0 rfl 103 rfl ?_
  refine z_get C (in_X7_follows_X7) 0 rfl rfl 26 (by decide) (List.mem_of_getElem? (i := 2) rfl) rfl rfl dX7_follows_103 106 rfl ?_
  refine z_iload C dX7_follows_106 5 rfl 108 rfl ?_
  refine z_iload_n C dX7_follows_108 rfl 1 rfl 109 rfl ?_
  refine z_if_eq C 118 dX7_follows_109 (by decide) 112 rfl h (fun h => ?_) (fun h => ?_)
  · exact z_locals (ks := [0, 1, 2, 4, 5]) rfl (p_X7_follows_J118 ih C hr S0 x1 x3 k0 r_4 r_4 (hD.zaddr rfl) h)
  · refine z_iload C dX7_follows_112 3 rfl 114 rfl ?_
    refine z_iconst C 1 dX7_follows_114 (by decide) 115 rfl ?_
    refine z_icmp_ne C 122 dX7_follows_115 (by decide) 118 rfl h (fun h => ?_) (fun h => ?_)
    · refine z_iload C dX7_follows_122 3 rfl 124 rfl ?_
      refine z_iconst C 2 dX7_follows_124 (by decide) 125 rfl ?_
      refine z_icmp_ne C 132 dX7_follows_125 (by decide) 128 rfl h (fun h => ?_) (fun h => ?_)
      · refine z_iconst C 1 dX7_follows_132 (by decide) 133 rfl ?_
        exact z_locals (ks := [0, 1, 2, 4, 5]) rfl (p_X7_follows_J133 ih C hr S0 x1 x3 k0 r_4 r_4 1 (hD.zaddr rfl) h)
      · refine z_iconst C 2 dX7_follows_128 (by decide) 129 rfl ?_
        refine z_goto C 133 dX7_follows_129 (by decide) ?_
        exact z_locals (ks := [0, 1, 2, 4, 5]) rfl (p_X7_follows_J133 ih C hr S0 x1 x3 k0 r_4 r_4 2 (hD.zaddr rfl) h)
    · exact z_locals (ks := [0, 1, 2, 4, 5]) rfl (p_X7_follows_J118 ih C hr S0 x1 x3 k0 r_4 r_4 (hD.zaddr rfl) h)

def f_X7_follows_J87 (slf : (Nat → Nat → Int32) → Int32 → Int32 → Int32 → Option (Nat → Nat → Int32)) (S0 : Nat → Nat → Int32) (x1 : Int32) (x3 : Int32) (x4 : Int32) (k1 : Int32) : Option ((Nat → Nat → Int32)) := (f_X7_around S0 k1).bind fun r_3 => f_X7_follows_J90 slf S0 x1 x3 x4 r_3
set_option maxHeartbeats 4000000 in
set_option maxRecDepth 100000 in
theorem p_X7_follows_J87 {w0 : va_W} {n : Nat} {slf : (Nat → Nat → Int32) → Int32 → Int32 → Int32 → Option (Nat → Nat → Int32)} (ih : ∀ (S0 : Nat → Nat → Int32) (v1 v2 v3 : Int32) (ex : Nat → Nat → Int32), slf S0 v1 v2 v3 = some ex → zWV l yX7_follows wsX7_follows ({ frames := n + 1, cells := 0, slots := 0, locals := 40 * n + 60 } : Room) D T [.ref (a0 99), .int v1, .int v2, .int v3] (wX7 T a0 S0) (wX7 T a0 ex)) (C : zC p R s m args meth c cX7_follows 7 RX7 wsX7_follows D T (n + 2) (40 * (n + 1) + 60) 0 0) (hr : meth.sig.returnType = none) (S0 : Nat → Nat → Int32) (x1 : Int32) (x3 : Int32) (x4 : Int32) (k1 : Int32) (hD : va_D (zA w0) (wX7 T a0 S0)) {ex : (Nat → Nat → Int32)} (h : f_X7_follows_J87 slf S0 x1 x3 x4 k1 = some ex) : zt p l e R s m args below meth c 7 (zA w0) D 0 0 (MQ below (zQV D w0 (wX7 T a0 ex)) args s 0 0 (zA w0)) (wX7 T a0 S0) [(0, .ref (a0 99)), (1, .int x1), (3, .int x3), (4, .int x4)] 87 [.int k1, .ref (a0 99)] := by
  unfold f_X7_follows_J87 at h
  refine z_callR C (wX7 T a0 S0) (fun v h => c_X7_around l D T a0  S0 k1 v h) ⟨rfl, rfl⟩ (z_cwV C 1 gX7_follows_X7_around rfl rfl dd_X7_around ⟨by show 0 + 1 ≤ n + 2; omega, by show 8 + (2 + 11) + 0 ≤ 40 * (n + 1) + 60; omega⟩) (hD.zaddr rfl) [0, 1, 2, 3, 4, 5, 6, 7, 8, 9, 10, 11, 12, 13, 14, 15, 16, 17] rfl rfl (fun _ => ⟨a0 99, [.int k1], 6, 0, _, _, rfl, rfl, rfl, rfl, rfl⟩) (fun h => absurd rfl h) rfl (Nat.le_of_ble_eq_true rfl) dX7_follows_87 90 rfl h (fun r_3 h => ?_)
  exact z_locals (ks := [0, 1, 2, 3]) rfl (p_X7_follows_J90 ih C hr S0 x1 x3 x4 r_3 (hD.zaddr rfl) h)

def f_X7_follows_b (slf : (Nat → Nat → Int32) → Int32 → Int32 → Int32 → Option (Nat → Nat → Int32)) (S0 : Nat → Nat → Int32) (v1 : Int32) (v2 : Int32) (v3 : Int32) : Option ((Nat → Nat → Int32)) := (f_X7_cell v1 v2).bind fun r_1 => zix ((128 * r_1) + v3) 30720 fun _ => zlet (S0 29 (Int32.toNatClampNeg ((128 * r_1) + v3))) fun u_2 => if 0 ≤ u_2 then (if u_2 ≤ 0 then (some S0) else (if v1 = 0 then (f_X7_follows_J90 slf S0 v1 v3 u_2 (u_2 - 1)) else (if u_2 = 1 then (f_X7_follows_J90 slf S0 v1 v3 u_2 v2) else (if u_2 = 2 then (f_X7_follows_J87 slf S0 v1 v3 u_2 (v2 - 1)) else (f_X7_follows_J87 slf S0 v1 v3 u_2 (v2 + 1)))))) else ((slf S0 v1 v2 (-u_2)).bind fun r_8 => (slf r_8 v1 v2 (v3 + u_2)).bind fun r_9 => some r_9)
def f_X7_follows : Nat → (Nat → Nat → Int32) → Int32 → Int32 → Int32 → Option (Nat → Nat → Int32)
  | 0, _, _, _, _ => none
  | n + 1, S0, v1, v2, v3 => f_X7_follows_b (f_X7_follows n) S0 v1 v2 v3
set_option maxHeartbeats 4000000 in
set_option maxRecDepth 100000 in
theorem c_X7_follows (l : Launch) (D : va_G) (T : Nat → ClassId) (a0 : Nat → Nat) : ∀ (n : Nat) (S0 : Nat → Nat → Int32) (v1 : Int32) (v2 : Int32) (v3 : Int32) (ex : (Nat → Nat → Int32)), f_X7_follows n S0 v1 v2 v3 = some ex → zWV l yX7_follows wsX7_follows ({ frames := n + 1, cells := 0, slots := 0, locals := 40 * n + 60 } : Room) D T [.ref (a0 99), .int v1, .int v2, .int v3] (wX7 T a0 S0) (wX7 T a0 ex) := by
  intro n
  induction n with
  | zero => intro S0 v1 v2 v3 ex h; cases h
  | succ n ih =>
    intro S0 v1 v2 v3 ex h
    refine z_begin (cc := cX7_follows) (nL := 7) (own := RX7) (fr := n + 2) (lc := 40 * (n + 1) + 60) (ret := none) (by decide) rfl (Nat.le_of_ble_eq_true rfl) (zA (wX7 T a0 S0)) rfl [(0, .ref (a0 99)), (1, .int v1), (2, .int v2), (3, .int v3)] rfl ⟨rfl, rfl⟩ rfl ?_
    intro p e s m args below meth c C hr hD
    have hD := hD.zself
    unfold f_X7_follows f_X7_follows_b at h
    refine z_aload_n C dX7_follows_0 rfl 0 rfl 1 rfl ?_
    refine z_get C (in_X7_follows_X7) 0 rfl rfl 29 (by decide) (List.mem_of_getElem? (i := 1) rfl) rfl rfl dX7_follows_1 4 rfl ?_
    refine z_sipush C 128 dX7_follows_4 (by decide) 7 rfl ?_
    refine z_iload_n C dX7_follows_7 rfl 1 rfl 8 rfl ?_
    refine z_iload_n C dX7_follows_8 rfl 2 rfl 9 rfl ?_
    refine z_callR C ([]) (fun v h => c_X7_cell l D T    v1 v2 v h) ⟨rfl, rfl⟩ (z_cwS C 2 gX7_follows_X7_cell rfl dd_X7_cell ⟨by show 0 + 1 ≤ n + 2; omega, by show 8 + (2 + 11) + 0 ≤ 40 * (n + 1) + 60; omega⟩) (hD.zaddr rfl) [] rfl rfl (fun h => absurd h (by decide)) (fun _ => rfl) rfl (Nat.le_of_ble_eq_true rfl) dX7_follows_9 12 rfl h (fun r_1 h => ?_)
    refine z_imul C dX7_follows_12 13 rfl ?_
    refine z_iload_n C dX7_follows_13 rfl 3 rfl 14 rfl ?_
    refine z_iadd C dX7_follows_14 15 rfl ?_
    refine z_iald C 12 rfl rfl dX7_follows_15 16 rfl h (fun h => ?_)
    refine z_top h (fun u_2 h => ?_)
    refine z_istore C [(0, .ref (a0 99)), (1, .int v1), (2, .int v2), (3, .int v3), (4, .int u_2)] dX7_follows_16 (Nat.le_of_ble_eq_true rfl) [1, 2, 3, 4, 0] rfl 18 rfl ?_
    refine z_iload C dX7_follows_18 4 rfl 20 rfl ?_
    refine z_if_ge C 45 dX7_follows_20 (by decide) 23 rfl h (fun h => ?_) (fun h => ?_)
    · refine z_iload C dX7_follows_45 4 rfl 47 rfl ?_
      refine z_if_le C 157 dX7_follows_47 (by decide) 50 rfl h (fun h => ?_) (fun h => ?_)
      · exact z_vretW (x := S0) (ex := ex) (fun z => wX7 T a0 z) C hr dX7_follows_157 h rfl
      · refine z_iload_n C dX7_follows_50 rfl 1 rfl 51 rfl ?_
        refine z_if_ne C 61 dX7_follows_51 (by decide) 54 rfl h (fun h => ?_) (fun h => ?_)
        · refine z_iload C dX7_follows_61 4 rfl 63 rfl ?_
          refine z_iconst C 1 dX7_follows_63 (by decide) 64 rfl ?_
          refine z_icmp_ne C 71 dX7_follows_64 (by decide) 67 rfl h (fun h => ?_) (fun h => ?_)
          · refine z_aload_n C dX7_follows_71 rfl 0 rfl 72 rfl ?_
            refine z_iload C dX7_follows_72 4 rfl 74 rfl ?_
            refine z_iconst C 2 dX7_follows_74 (by decide) 75 rfl ?_
            refine z_icmp_ne C 84 dX7_follows_75 (by decide) 78 rfl h (fun h => ?_) (fun h => ?_)
            · refine z_iload_n C dX7_follows_84 rfl 2 rfl 85 rfl ?_
              refine z_iconst C 1 dX7_follows_85 (by decide) 86 rfl ?_
              refine z_iadd C dX7_follows_86 87 rfl ?_
              exact z_locals (ks := [0, 1, 3, 4]) rfl (p_X7_follows_J87 ih C hr S0 v1 v3 u_2 (v2 + 1) (hD.zaddr rfl) h)
            · refine z_iload_n C dX7_follows_78 rfl 2 rfl 79 rfl ?_
              refine z_iconst C 1 dX7_follows_79 (by decide) 80 rfl ?_
              refine z_isub C dX7_follows_80 81 rfl ?_
              refine z_goto C 87 dX7_follows_81 (by decide) ?_
              exact z_locals (ks := [0, 1, 3, 4]) rfl (p_X7_follows_J87 ih C hr S0 v1 v3 u_2 (v2 - 1) (hD.zaddr rfl) h)
          · refine z_iload_n C dX7_follows_67 rfl 2 rfl 68 rfl ?_
            refine z_goto C 90 dX7_follows_68 (by decide) ?_
            exact z_locals (ks := [0, 1, 3, 4]) rfl (p_X7_follows_J90 ih C hr S0 v1 v3 u_2 v2 (hD.zaddr rfl) h)
        · refine z_iload C dX7_follows_54 4 rfl 56 rfl ?_
          refine z_iconst C 1 dX7_follows_56 (by decide) 57 rfl ?_
          refine z_isub C dX7_follows_57 58 rfl ?_
          refine z_goto C 90 dX7_follows_58 (by decide) ?_
          exact z_locals (ks := [0, 1, 3, 4]) rfl (p_X7_follows_J90 ih C hr S0 v1 v3 u_2 (u_2 - 1) (hD.zaddr rfl) h)
    · refine z_aload_n C dX7_follows_23 rfl 0 rfl 24 rfl ?_
      refine z_iload_n C dX7_follows_24 rfl 1 rfl 25 rfl ?_
      refine z_iload_n C dX7_follows_25 rfl 2 rfl 26 rfl ?_
      refine z_iload C dX7_follows_26 4 rfl 28 rfl ?_
      refine z_ineg C dX7_follows_28 29 rfl ?_
      refine z_callV C (wX7 T a0 S0) (([] : va_W)) (fun z => wX7 T a0 z) (fun z => wX7 T a0 z) (fun z h => ih S0 v1 v2 (-u_2) z h) ⟨rfl, rfl⟩ (z_cwV C 3 gX7_follows_X7_follows rfl rfl dd_X7_follows ⟨Nat.le_refl _, by show 8 + (7 + 11) + (40 * n + 60) ≤ 40 * (n + 1) + 60; omega⟩) (hD.zaddr rfl) [0, 1, 2, 3, 4, 5, 6, 7, 8, 9, 10, 11, 12, 13, 14, 15, 16, 17] [] [0, 1, 2, 3, 4, 5, 6, 7, 8, 9, 10, 11, 12, 13, 14, 15, 16, 17] rfl rfl rfl (by decide) (fun _ => rfl) (fun _ => ⟨a0 99, [.int v1, .int v2, .int (-u_2)], 6, 0, _, _, rfl, rfl, rfl, rfl, rfl⟩) (fun h => absurd rfl h) rfl (Nat.le_of_ble_eq_true rfl) dX7_follows_29 32 rfl h (fun r_8 h => ?_)
      refine z_aload_n C dX7_follows_32 rfl 0 rfl 33 rfl ?_
      refine z_iload_n C dX7_follows_33 rfl 1 rfl 34 rfl ?_
      refine z_iload_n C dX7_follows_34 rfl 2 rfl 35 rfl ?_
      refine z_iload_n C dX7_follows_35 rfl 3 rfl 36 rfl ?_
      refine z_iload C dX7_follows_36 4 rfl 38 rfl ?_
      refine z_iadd C dX7_follows_38 39 rfl ?_
      refine z_callV C (wX7 T a0 r_8) (([] : va_W)) (fun z => wX7 T a0 z) (fun z => wX7 T a0 z) (fun z h => ih r_8 v1 v2 (v3 + u_2) z h) ⟨rfl, rfl⟩ (z_cwV C 3 gX7_follows_X7_follows rfl rfl dd_X7_follows ⟨Nat.le_refl _, by show 8 + (7 + 11) + (40 * n + 60) ≤ 40 * (n + 1) + 60; omega⟩) (hD.zaddr rfl) [0, 1, 2, 3, 4, 5, 6, 7, 8, 9, 10, 11, 12, 13, 14, 15, 16, 17] [] [0, 1, 2, 3, 4, 5, 6, 7, 8, 9, 10, 11, 12, 13, 14, 15, 16, 17] rfl rfl rfl (by decide) (fun _ => rfl) (fun _ => ⟨a0 99, [.int v1, .int v2, .int (v3 + u_2)], 6, 0, _, _, rfl, rfl, rfl, rfl, rfl⟩) (fun h => absurd rfl h) rfl (Nat.le_of_ble_eq_true rfl) dX7_follows_39 42 rfl h (fun r_9 h => ?_)
      refine z_goto C 157 dX7_follows_42 (by decide) ?_
      exact z_vretW (x := r_9) (ex := ex) (fun z => wX7 T a0 z) C hr dX7_follows_157 h rfl

end
/-! StreamTreeModel.laysLeast ()Z -/
section
variable {p : Program} {l : Launch} {e : Env} {R : Room} {s : State} {m : MethodId} {args : Array Value} {below : List Frame} {meth : Method} {c : Code} {Q : State → Prop} {A : Nat → Prop} {D : va_G} {T : Nat → ClassId} {a0 : Nat → Nat}
theorem in_X7_laysLeast_X7 : ∀ w ∈ u_ws RX7 TX7 35, w ∈ wsX7_laysLeast := fun _ h => (List.mem_cons_of_mem _ (List.mem_append_right _ h))
def f_X7_laysLeast (S0 : Nat → Nat → Int32)  : Option (Int32 × (Nat → Nat → Int32)) := (f_X7_leastInk S0).bind fun r_1 => if r_1.1 = (-2) then (some (0, r_1.2)) else (if (r_1.2 9 0) ≤ 0 then (some (1, r_1.2)) else ((f_X7_all r_1.2).bind fun r_2 => (f_X7_follows 40 r_1.2 0 0 r_2).bind fun r_3 => (f_X7_all r_3).bind fun r_4 => zix r_4 128 fun _ => zix 0 240 fun j => zlet (zst r_3 27 j (r_3 30 (Int32.toNatClampNeg r_4))) fun S0_5 => some (1, S0_5)))
theorem dd_X7_laysLeast : RX7 ≠ "java/lang/invoke/MethodHandle" ∧ RX7 ≠ "java/lang/invoke/VarHandle" ∧ (parseMethodDescriptor yX7_laysLeast.desc).map (fun d => d.parameters.length) = some 0 := by decide +kernel
set_option maxHeartbeats 4000000 in
set_option maxRecDepth 100000 in
theorem c_X7_laysLeast (l : Launch) (D : va_G) (T : Nat → ClassId) (a0 : Nat → Nat) (S0 : Nat → Nat → Int32)  (ex : Int32 × (Nat → Nat → Int32)) (h : f_X7_laysLeast S0 = some ex) : zWI l yX7_laysLeast wsX7_laysLeast ({ frames := 42, cells := 0, slots := 0, locals := 1686 } : Room) D T [.ref (a0 99)] (wX7 T a0 S0) ex.1 (wX7 T a0 ex.2) := by
  refine z_begin (cc := cX7_laysLeast) (nL := 1) (own := RX7) (fr := 42) (lc := 1686) (ret := some .boolean) (by decide) rfl (Nat.le_of_ble_eq_true rfl) (zA (wX7 T a0 S0)) rfl [(0, .ref (a0 99))] rfl ⟨rfl, rfl⟩ rfl ?_
  intro p e s m args below meth c C hr hD
  have hD := hD.zself
  unfold f_X7_laysLeast at h
  refine z_aload_n C dX7_laysLeast_0 rfl 0 rfl 1 rfl ?_
  refine z_callW C (wX7 T a0 S0) (([] : va_W)) (fun z => z.1) (fun z => wX7 T a0 z.2) (fun z => wX7 T a0 z.2) (fun z h => c_X7_leastInk l D T a0  S0  z h) ⟨rfl, rfl⟩ (z_cwV C 0 gX7_laysLeast_X7_leastInk rfl rfl dd_X7_leastInk ⟨(Nat.le_of_ble_eq_true rfl), (Nat.le_of_ble_eq_true rfl)⟩) (hD.zaddr rfl) [0, 1, 2, 3, 4, 5, 6, 7, 8, 9, 10, 11, 12, 13, 14, 15, 16, 17] [] [0, 1, 2, 3, 4, 5, 6, 7, 8, 9, 10, 11, 12, 13, 14, 15, 16, 17] rfl rfl rfl (by decide) (fun _ => rfl) (fun _ => ⟨a0 99, [], 6, 0, _, _, rfl, rfl, rfl, rfl, rfl⟩) (fun h => absurd rfl h) rfl (Nat.le_of_ble_eq_true rfl) dX7_laysLeast_1 4 rfl h (fun r_1 h => ?_)
  refine z_bipush C (-2) dX7_laysLeast_4 (by decide) 6 rfl ?_
  refine z_icmp_ne C 11 dX7_laysLeast_6 (by decide) 9 rfl h (fun h => ?_) (fun h => ?_)
  · refine z_aload_n C dX7_laysLeast_11 rfl 0 rfl 12 rfl ?_
    refine z_get C (in_X7_laysLeast_X7) 0 rfl rfl 9 (by decide) (List.mem_of_getElem? (i := 1) rfl) rfl rfl dX7_laysLeast_12 15 rfl ?_
    refine z_if_le C 43 dX7_laysLeast_15 (by decide) 18 rfl h (fun h => ?_) (fun h => ?_)
    · refine z_iconst C 1 dX7_laysLeast_43 (by decide) 44 rfl ?_
      exact z_zretWc (x := r_1.2) (ex := ex) (fun z => wX7 T a0 z) C hr dX7_laysLeast_44 (Or.inr rfl) h rfl
    · refine z_aload_n C dX7_laysLeast_18 rfl 0 rfl 19 rfl ?_
      refine z_iconst C 0 dX7_laysLeast_19 (by decide) 20 rfl ?_
      refine z_iconst C 0 dX7_laysLeast_20 (by decide) 21 rfl ?_
      refine z_aload_n C dX7_laysLeast_21 rfl 0 rfl 22 rfl ?_
      refine z_callR C (wX7 T a0 r_1.2) (fun v h => c_X7_all l D T a0  r_1.2  v h) ⟨rfl, rfl⟩ (z_cwV C 0 gX7_laysLeast_X7_all rfl rfl dd_X7_all ⟨(Nat.le_of_ble_eq_true rfl), (Nat.le_of_ble_eq_true rfl)⟩) (hD.zaddr rfl) [0, 1, 2, 3, 4, 5, 6, 7, 8, 9, 10, 11, 12, 13, 14, 15, 16, 17] rfl rfl (fun _ => ⟨a0 99, [], 6, 0, _, _, rfl, rfl, rfl, rfl, rfl⟩) (fun h => absurd rfl h) rfl (Nat.le_of_ble_eq_true rfl) dX7_laysLeast_22 25 rfl h (fun r_2 h => ?_)
      refine z_callV C (wX7 T a0 r_1.2) (([] : va_W)) (fun z => wX7 T a0 z) (fun z => wX7 T a0 z) (fun z h => c_X7_follows l D T a0 40 r_1.2 0 0 r_2 z h) ⟨rfl, rfl⟩ (z_cwV C 3 gX7_laysLeast_X7_follows rfl rfl dd_X7_follows ⟨(Nat.le_of_ble_eq_true rfl), (Nat.le_of_ble_eq_true rfl)⟩) (hD.zaddr rfl) [0, 1, 2, 3, 4, 5, 6, 7, 8, 9, 10, 11, 12, 13, 14, 15, 16, 17] [] [0, 1, 2, 3, 4, 5, 6, 7, 8, 9, 10, 11, 12, 13, 14, 15, 16, 17] rfl rfl rfl (by decide) (fun _ => rfl) (fun _ => ⟨a0 99, [.int 0, .int 0, .int r_2], 6, 0, _, _, rfl, rfl, rfl, rfl, rfl⟩) (fun h => absurd rfl h) rfl (Nat.le_of_ble_eq_true rfl) dX7_laysLeast_25 28 rfl h (fun r_3 h => ?_)
      refine z_aload_n C dX7_laysLeast_28 rfl 0 rfl 29 rfl ?_
      refine z_get C (in_X7_laysLeast_X7) 0 rfl rfl 27 (by decide) (List.mem_of_getElem? (i := 2) rfl) rfl rfl dX7_laysLeast_29 32 rfl ?_
      refine z_iconst C 0 dX7_laysLeast_32 (by decide) 33 rfl ?_
      refine z_aload_n C dX7_laysLeast_33 rfl 0 rfl 34 rfl ?_
      refine z_get C (in_X7_laysLeast_X7) 0 rfl rfl 30 (by decide) (List.mem_of_getElem? (i := 3) rfl) rfl rfl dX7_laysLeast_34 37 rfl ?_
      refine z_aload_n C dX7_laysLeast_37 rfl 0 rfl 38 rfl ?_
      refine z_callR C (wX7 T a0 r_3) (fun v h => c_X7_all l D T a0  r_3  v h) ⟨rfl, rfl⟩ (z_cwV C 0 gX7_laysLeast_X7_all rfl rfl dd_X7_all ⟨(Nat.le_of_ble_eq_true rfl), (Nat.le_of_ble_eq_true rfl)⟩) (hD.zaddr rfl) [0, 1, 2, 3, 4, 5, 6, 7, 8, 9, 10, 11, 12, 13, 14, 15, 16, 17] rfl rfl (fun _ => ⟨a0 99, [], 6, 0, _, _, rfl, rfl, rfl, rfl, rfl⟩) (fun h => absurd rfl h) rfl (Nat.le_of_ble_eq_true rfl) dX7_laysLeast_38 41 rfl h (fun r_4 h => ?_)
      refine z_iald C 13 rfl rfl dX7_laysLeast_41 42 rfl h (fun h => ?_)
      refine z_iast C (fun z => wX7 T a0 z) r_3 27 (hD.zaddr rfl) 10 rfl rfl (fun _ => rfl) dX7_laysLeast_42 43 rfl h (fun S0_5 h => ?_)
      refine z_iconst C 1 dX7_laysLeast_43 (by decide) 44 rfl ?_
      exact z_zretWc (x := S0_5) (ex := ex) (fun z => wX7 T a0 z) C hr dX7_laysLeast_44 (Or.inr rfl) h rfl
  · refine z_iconst C 0 dX7_laysLeast_9 (by decide) 10 rfl ?_
    exact z_zretWc (x := r_1.2) (ex := ex) (fun z => wX7 T a0 z) C hr dX7_laysLeast_10 (Or.inl rfl) h rfl

end
/-! StreamTreeModel.laysLengths ()V -/
section
variable {p : Program} {l : Launch} {e : Env} {R : Room} {s : State} {m : MethodId} {args : Array Value} {below : List Frame} {meth : Method} {c : Code} {Q : State → Prop} {A : Nat → Prop} {D : va_G} {T : Nat → ClassId} {a0 : Nat → Nat}
theorem in_X7_laysLengths_X7 : ∀ w ∈ u_ws RX7 TX7 35, w ∈ wsX7_laysLengths := fun _ h => (List.mem_cons_of_mem _ (List.mem_append_right _ h))
def f_X7_laysLengths_J105 (rec : (Int32 × Int32) → Option (Int32)) (S0 : Nat → Nat → Int32) (v1 : Int32) (v2 : Int32) (x4 : Int32) (k0 : Int32) : Option (Int32) := rec (k0, (x4 + 1))
set_option maxHeartbeats 4000000 in
set_option maxRecDepth 100000 in
theorem p_X7_laysLengths_J105 (C : zC p R s m args meth c cX7_laysLengths 6 RX7 wsX7_laysLengths D T 4 90 0 0) (S0 : Nat → Nat → Int32) {v1 : Int32} {v2 : Int32} (x4 : Int32) (k0 : Int32) (hD : va_D A (wX7 T a0 S0)) {rec : (Int32 × Int32) → Option (Int32)} (hrec : ∀ (c0 : Int32) (c1 : Int32) (b : Int32), rec (c0, c1) = some b → (zt p l e R s m args below meth c 6 A D 0 0 Q (wX7 T a0 S0) [(0, .ref (a0 99)), (1, .int v1), (2, .int v2), (3, .int b)] 112 []) → zt p l e R s m args below meth c 6 A D 0 0 Q (wX7 T a0 S0) [(0, .ref (a0 99)), (1, .int v1), (2, .int v2), (3, .int c0), (4, .int c1)] 33 []) {b : Int32} (K : zt p l e R s m args below meth c 6 A D 0 0 Q (wX7 T a0 S0) [(0, .ref (a0 99)), (1, .int v1), (2, .int v2), (3, .int b)] 112 []) (h : f_X7_laysLengths_J105 rec S0 v1 v2 x4 k0 = some b) : zt p l e R s m args below meth c 6 A D 0 0 Q (wX7 T a0 S0) [(0, .ref (a0 99)), (1, .int v1), (2, .int v2), (4, .int x4)] 105 [.int k0] := by
  unfold f_X7_laysLengths_J105 at h
  refine z_istore_n C [(0, .ref (a0 99)), (1, .int v1), (2, .int v2), (3, .int k0), (4, .int x4)] dX7_laysLengths_105 rfl (Nat.le_of_ble_eq_true rfl) [1, 2, 3, 0, 4] rfl 106 rfl ?_
  refine z_iinc C (x4 + 1) [(0, .ref (a0 99)), (1, .int v1), (2, .int v2), (3, .int k0), (4, .int (x4 + 1))] dX7_laysLengths_106 4 rfl rfl (Nat.le_of_ble_eq_true rfl) [1, 2, 3, 4, 0] rfl 109 rfl ?_
  refine z_goto C 33 dX7_laysLengths_109 (by decide) ?_
  exact z_locals (ks := [0, 1, 2, 3, 4]) rfl (hrec _ _ _ h K)

def f_X7_laysLengths_J104 (rec : (Int32 × Int32) → Option (Int32)) (S0 : Nat → Nat → Int32) (v1 : Int32) (v2 : Int32) (x3 : Int32) (x4 : Int32)  : Option (Int32) := f_X7_laysLengths_J105 rec S0 v1 v2 x4 x3
set_option maxHeartbeats 4000000 in
set_option maxRecDepth 100000 in
theorem p_X7_laysLengths_J104 (C : zC p R s m args meth c cX7_laysLengths 6 RX7 wsX7_laysLengths D T 4 90 0 0) (S0 : Nat → Nat → Int32) {v1 : Int32} {v2 : Int32} (x3 : Int32) (x4 : Int32)  (hD : va_D A (wX7 T a0 S0)) {rec : (Int32 × Int32) → Option (Int32)} (hrec : ∀ (c0 : Int32) (c1 : Int32) (b : Int32), rec (c0, c1) = some b → (zt p l e R s m args below meth c 6 A D 0 0 Q (wX7 T a0 S0) [(0, .ref (a0 99)), (1, .int v1), (2, .int v2), (3, .int b)] 112 []) → zt p l e R s m args below meth c 6 A D 0 0 Q (wX7 T a0 S0) [(0, .ref (a0 99)), (1, .int v1), (2, .int v2), (3, .int c0), (4, .int c1)] 33 []) {b : Int32} (K : zt p l e R s m args below meth c 6 A D 0 0 Q (wX7 T a0 S0) [(0, .ref (a0 99)), (1, .int v1), (2, .int v2), (3, .int b)] 112 []) (h : f_X7_laysLengths_J104 rec S0 v1 v2 x3 x4 = some b) : zt p l e R s m args below meth c 6 A D 0 0 Q (wX7 T a0 S0) [(0, .ref (a0 99)), (1, .int v1), (2, .int v2), (3, .int x3), (4, .int x4)] 104 [] := by
  unfold f_X7_laysLengths_J104 at h
  refine z_iload_n C dX7_laysLengths_104 rfl 3 rfl 105 rfl ?_
  exact z_locals (ks := [0, 1, 2, 4]) rfl (p_X7_laysLengths_J105 C S0 x4 x3 (hD.zaddr rfl) hrec K h)

def f_X7_laysLengths_J68 (rec : (Int32 × Int32) → Option (Int32)) (S0 : Nat → Nat → Int32) (v1 : Int32) (v2 : Int32) (x3 : Int32) (x4 : Int32) (k0 : Int32) : Option (Int32) := if 1000000000 ≤ k0 then (f_X7_laysLengths_J104 rec S0 v1 v2 x3 x4) else ((f_X7_lengthOf S0 v1 x4).bind fun r_3 => if x3 ≤ (k0 + r_3) then (f_X7_laysLengths_J104 rec S0 v1 v2 x3 x4) else ((f_X7_lengthOf S0 v1 x4).bind fun r_4 => f_X7_laysLengths_J105 rec S0 v1 v2 x4 (k0 + r_4)))
set_option maxHeartbeats 4000000 in
set_option maxRecDepth 100000 in
theorem p_X7_laysLengths_J68 (C : zC p R s m args meth c cX7_laysLengths 6 RX7 wsX7_laysLengths D T 4 90 0 0) (S0 : Nat → Nat → Int32) {v1 : Int32} {v2 : Int32} (x3 : Int32) (x4 : Int32) (k0 : Int32) (hD : va_D A (wX7 T a0 S0)) {rec : (Int32 × Int32) → Option (Int32)} (hrec : ∀ (c0 : Int32) (c1 : Int32) (b : Int32), rec (c0, c1) = some b → (zt p l e R s m args below meth c 6 A D 0 0 Q (wX7 T a0 S0) [(0, .ref (a0 99)), (1, .int v1), (2, .int v2), (3, .int b)] 112 []) → zt p l e R s m args below meth c 6 A D 0 0 Q (wX7 T a0 S0) [(0, .ref (a0 99)), (1, .int v1), (2, .int v2), (3, .int c0), (4, .int c1)] 33 []) {b : Int32} (K : zt p l e R s m args below meth c 6 A D 0 0 Q (wX7 T a0 S0) [(0, .ref (a0 99)), (1, .int v1), (2, .int v2), (3, .int b)] 112 []) (h : f_X7_laysLengths_J68 rec S0 v1 v2 x3 x4 k0 = some b) : zt p l e R s m args below meth c 6 A D 0 0 Q (wX7 T a0 S0) [(0, .ref (a0 99)), (1, .int v1), (2, .int v2), (3, .int x3), (4, .int x4)] 68 [.int k0] := by
  unfold f_X7_laysLengths_J68 at h
  refine z_istore C [(0, .ref (a0 99)), (1, .int v1), (2, .int v2), (3, .int x3), (4, .int x4), (5, .int k0)] dX7_laysLengths_68 (Nat.le_of_ble_eq_true rfl) [1, 2, 3, 4, 5, 0] rfl 70 rfl ?_
  refine z_iload C dX7_laysLengths_70 5 rfl 72 rfl ?_
  refine z_ldc C 1000000000 (List.mem_of_getElem? (i := 4) rfl) dX7_laysLengths_72 74 rfl ?_
  refine z_icmp_ge C 104 dX7_laysLengths_74 (by decide) 77 rfl h (fun h => ?_) (fun h => ?_)
  · exact z_locals (ks := [0, 1, 2, 3, 4]) rfl (p_X7_laysLengths_J104 C S0 x3 x4 (hD.zaddr rfl) hrec K h)
  · refine z_iload C dX7_laysLengths_77 5 rfl 79 rfl ?_
    refine z_aload_n C dX7_laysLengths_79 rfl 0 rfl 80 rfl ?_
    refine z_iload_n C dX7_laysLengths_80 rfl 1 rfl 81 rfl ?_
    refine z_iload C dX7_laysLengths_81 4 rfl 83 rfl ?_
    refine z_callR C (wX7 T a0 S0) (fun v h => c_X7_lengthOf l D T a0  S0 v1 x4 v h) ⟨rfl, rfl⟩ (z_cwV C 2 gX7_laysLengths_X7_lengthOf rfl rfl dd_X7_lengthOf ⟨(Nat.le_of_ble_eq_true rfl), (Nat.le_of_ble_eq_true rfl)⟩) (hD.zaddr rfl) [0, 1, 2, 3, 4, 5, 6, 7, 8, 9, 10, 11, 12, 13, 14, 15, 16, 17] rfl rfl (fun _ => ⟨a0 99, [.int v1, .int x4], 6, 0, _, _, rfl, rfl, rfl, rfl, rfl⟩) (fun h => absurd rfl h) rfl (Nat.le_of_ble_eq_true rfl) dX7_laysLengths_83 86 rfl h (fun r_3 h => ?_)
    refine z_iadd C dX7_laysLengths_86 87 rfl ?_
    refine z_iload_n C dX7_laysLengths_87 rfl 3 rfl 88 rfl ?_
    refine z_icmp_ge C 104 dX7_laysLengths_88 (by decide) 91 rfl h (fun h => ?_) (fun h => ?_)
    · exact z_locals (ks := [0, 1, 2, 3, 4]) rfl (p_X7_laysLengths_J104 C S0 x3 x4 (hD.zaddr rfl) hrec K h)
    · refine z_iload C dX7_laysLengths_91 5 rfl 93 rfl ?_
      refine z_aload_n C dX7_laysLengths_93 rfl 0 rfl 94 rfl ?_
      refine z_iload_n C dX7_laysLengths_94 rfl 1 rfl 95 rfl ?_
      refine z_iload C dX7_laysLengths_95 4 rfl 97 rfl ?_
      refine z_callR C (wX7 T a0 S0) (fun v h => c_X7_lengthOf l D T a0  S0 v1 x4 v h) ⟨rfl, rfl⟩ (z_cwV C 2 gX7_laysLengths_X7_lengthOf rfl rfl dd_X7_lengthOf ⟨(Nat.le_of_ble_eq_true rfl), (Nat.le_of_ble_eq_true rfl)⟩) (hD.zaddr rfl) [0, 1, 2, 3, 4, 5, 6, 7, 8, 9, 10, 11, 12, 13, 14, 15, 16, 17] rfl rfl (fun _ => ⟨a0 99, [.int v1, .int x4], 6, 0, _, _, rfl, rfl, rfl, rfl, rfl⟩) (fun h => absurd rfl h) rfl (Nat.le_of_ble_eq_true rfl) dX7_laysLengths_97 100 rfl h (fun r_4 h => ?_)
      refine z_iadd C dX7_laysLengths_100 101 rfl ?_
      refine z_goto C 105 dX7_laysLengths_101 (by decide) ?_
      exact z_locals (ks := [0, 1, 2, 4]) rfl (p_X7_laysLengths_J105 C S0 x4 (k0 + r_4) (hD.zaddr rfl) hrec K h)

def f_X7_laysLengths_L33b (S0 : Nat → Nat → Int32) (v1 : Int32) (v2 : Int32) (rec : (Int32 × Int32) → Option (Int32)) (a : Int32 × Int32) : Option (Int32) := if 2 < a.2 then (some a.1) else ((f_X7_isFree S0 v1 v2 a.2).bind fun r_2 => if r_2 = 0 then (f_X7_laysLengths_J68 rec S0 v1 v2 a.1 a.2 1000000000) else ((f_X7_target S0 v1 v2 a.2).bind fun r_5 => zix r_5 240 fun _ => f_X7_laysLengths_J68 rec S0 v1 v2 a.1 a.2 (S0 31 (Int32.toNatClampNeg r_5))))
def f_X7_laysLengths_L33 (S0 : Nat → Nat → Int32) (v1 : Int32) (v2 : Int32) : Nat → (Int32 × Int32) → Option (Int32) := zloop (fun rec a => f_X7_laysLengths_L33b S0 v1 v2 rec a)
set_option maxHeartbeats 4000000 in
set_option maxRecDepth 100000 in
theorem p_X7_laysLengths_L33 (C : zC p R s m args meth c cX7_laysLengths 6 RX7 wsX7_laysLengths D T 4 90 0 0) (S0 : Nat → Nat → Int32) (v1 : Int32) (v2 : Int32) (hD : va_D A (wX7 T a0 S0)) : ∀ (n : Nat) (c0 : Int32) (c1 : Int32) (b : Int32), f_X7_laysLengths_L33 S0 v1 v2 n (c0, c1) = some b → (zt p l e R s m args below meth c 6 A D 0 0 Q (wX7 T a0 S0) [(0, .ref (a0 99)), (1, .int v1), (2, .int v2), (3, .int b)] 112 []) → zt p l e R s m args below meth c 6 A D 0 0 Q (wX7 T a0 S0) [(0, .ref (a0 99)), (1, .int v1), (2, .int v2), (3, .int c0), (4, .int c1)] 33 [] := by
  intro n c0 c1 b h K
  refine zloop_ind (P := fun a b => (zt p l e R s m args below meth c 6 A D 0 0 Q (wX7 T a0 S0) [(0, .ref (a0 99)), (1, .int v1), (2, .int v2), (3, .int b)] 112 []) → zt p l e R s m args below meth c 6 A D 0 0 Q (wX7 T a0 S0) [(0, .ref (a0 99)), (1, .int v1), (2, .int v2), (3, .int a.1), (4, .int a.2)] 33 []) ?_ n (c0, c1) b h K
  clear h K b c0 c1
  intro rec hrec a b h K
  have hrec : ∀ (c0 : Int32) (c1 : Int32) (b : Int32), rec (c0, c1) = some b → (zt p l e R s m args below meth c 6 A D 0 0 Q (wX7 T a0 S0) [(0, .ref (a0 99)), (1, .int v1), (2, .int v2), (3, .int b)] 112 []) → zt p l e R s m args below meth c 6 A D 0 0 Q (wX7 T a0 S0) [(0, .ref (a0 99)), (1, .int v1), (2, .int v2), (3, .int c0), (4, .int c1)] 33 [] := fun c0 c1 b h K => hrec (c0, c1) b h K
  unfold f_X7_laysLengths_L33b at h
  refine z_iload C dX7_laysLengths_33 4 rfl 35 rfl ?_
  refine z_iconst C 2 dX7_laysLengths_35 (by decide) 36 rfl ?_
  refine z_icmp_gt C 112 dX7_laysLengths_36 (by decide) 39 rfl h (fun h => ?_) (fun h => ?_)
  · refine z_locals (ks := [0, 1, 2, 3]) (lv' := [(0, .ref (a0 99)), (1, .int v1), (2, .int v2), (3, .int a.1)]) rfl ?_
    exact zex1 (F := (fun e0 => zt p l e R s m args below meth c 6 A D 0 0 Q (wX7 T a0 S0) [(0, .ref (a0 99)), (1, .int v1), (2, .int v2), (3, .int e0)] 112 [])) h K
  · refine z_aload_n C dX7_laysLengths_39 rfl 0 rfl 40 rfl ?_
    refine z_iload_n C dX7_laysLengths_40 rfl 1 rfl 41 rfl ?_
    refine z_iload_n C dX7_laysLengths_41 rfl 2 rfl 42 rfl ?_
    refine z_iload C dX7_laysLengths_42 4 rfl 44 rfl ?_
    refine z_callR C (wX7 T a0 S0) (fun v h => c_X7_isFree l D T a0  S0 v1 v2 a.2 v h) ⟨rfl, rfl⟩ (z_cwV C 3 gX7_laysLengths_X7_isFree rfl rfl dd_X7_isFree ⟨(Nat.le_of_ble_eq_true rfl), (Nat.le_of_ble_eq_true rfl)⟩) (hD.zaddr rfl) [0, 1, 2, 3, 4, 5, 6, 7, 8, 9, 10, 11, 12, 13, 14, 15, 16, 17] rfl rfl (fun _ => ⟨a0 99, [.int v1, .int v2, .int a.2], 6, 0, _, _, rfl, rfl, rfl, rfl, rfl⟩) (fun h => absurd rfl h) rfl (Nat.le_of_ble_eq_true rfl) dX7_laysLengths_44 47 rfl h (fun r_2 h => ?_)
    refine z_if_eq C 66 dX7_laysLengths_47 (by decide) 50 rfl h (fun h => ?_) (fun h => ?_)
    · refine z_ldc C 1000000000 (List.mem_of_getElem? (i := 4) rfl) dX7_laysLengths_66 68 rfl ?_
      exact z_locals (ks := [0, 1, 2, 3, 4]) rfl (p_X7_laysLengths_J68 C S0 a.1 a.2 1000000000 (hD.zaddr rfl) hrec K h)
    · refine z_aload_n C dX7_laysLengths_50 rfl 0 rfl 51 rfl ?_
      refine z_get C (in_X7_laysLengths_X7) 0 rfl rfl 31 (by decide) (List.mem_of_getElem? (i := 1) rfl) rfl rfl dX7_laysLengths_51 54 rfl ?_
      refine z_aload_n C dX7_laysLengths_54 rfl 0 rfl 55 rfl ?_
      refine z_iload_n C dX7_laysLengths_55 rfl 1 rfl 56 rfl ?_
      refine z_iload_n C dX7_laysLengths_56 rfl 2 rfl 57 rfl ?_
      refine z_iload C dX7_laysLengths_57 4 rfl 59 rfl ?_
      refine z_callR C (wX7 T a0 S0) (fun v h => c_X7_target l D T a0  S0 v1 v2 a.2 v h) ⟨rfl, rfl⟩ (z_cwV C 3 gX7_laysLengths_X7_target rfl rfl dd_X7_target ⟨(Nat.le_of_ble_eq_true rfl), (Nat.le_of_ble_eq_true rfl)⟩) (hD.zaddr rfl) [0, 1, 2, 3, 4, 5, 6, 7, 8, 9, 10, 11, 12, 13, 14, 15, 16, 17] rfl rfl (fun _ => ⟨a0 99, [.int v1, .int v2, .int a.2], 6, 0, _, _, rfl, rfl, rfl, rfl, rfl⟩) (fun h => absurd rfl h) rfl (Nat.le_of_ble_eq_true rfl) dX7_laysLengths_59 62 rfl h (fun r_5 h => ?_)
      refine z_iald C 14 rfl rfl dX7_laysLengths_62 63 rfl h (fun h => ?_)
      refine z_goto C 68 dX7_laysLengths_63 (by decide) ?_
      exact z_locals (ks := [0, 1, 2, 3, 4]) rfl (p_X7_laysLengths_J68 C S0 a.1 a.2 (S0 31 (Int32.toNatClampNeg r_5)) (hD.zaddr rfl) hrec K h)

def f_X7_laysLengths_L19b  (v1 : Int32) (rec : (Int32 × (Nat → Nat → Int32)) → Option ((Nat → Nat → Int32))) (a : Int32 × (Nat → Nat → Int32)) : Option ((Nat → Nat → Int32)) := if (a.2 2 0) ≤ a.1 then (some a.2) else ((f_X7_laysLengths_L33 a.2 v1 a.1 zfuel (1000000000, 0)).bind fun y_6 => (f_X7_cell v1 a.1).bind fun r_7 => zix r_7 240 fun j => zlet (zst a.2 31 j y_6) fun S0_8 => rec ((a.1 + 1), S0_8))
def f_X7_laysLengths_L19  (v1 : Int32) : Nat → (Int32 × (Nat → Nat → Int32)) → Option ((Nat → Nat → Int32)) := zloop (fun rec a => f_X7_laysLengths_L19b v1 rec a)
set_option maxHeartbeats 4000000 in
set_option maxRecDepth 100000 in
theorem p_X7_laysLengths_L19 (C : zC p R s m args meth c cX7_laysLengths 6 RX7 wsX7_laysLengths D T 4 90 0 0) (S0 : Nat → Nat → Int32) (v1 : Int32) (hD : va_D A (wX7 T a0 S0)) : ∀ (n : Nat) (c0 : Int32) (c1 : Nat → Nat → Int32) (b : (Nat → Nat → Int32)), f_X7_laysLengths_L19 v1 n (c0, c1) = some b → (zt p l e R s m args below meth c 6 A D 0 0 Q (wX7 T a0 b) [(0, .ref (a0 99)), (1, .int v1)] 129 []) → zt p l e R s m args below meth c 6 A D 0 0 Q (wX7 T a0 c1) [(0, .ref (a0 99)), (1, .int v1), (2, .int c0)] 19 [] := by
  intro n c0 c1 b h K
  refine zloop_ind (P := fun a b => (zt p l e R s m args below meth c 6 A D 0 0 Q (wX7 T a0 b) [(0, .ref (a0 99)), (1, .int v1)] 129 []) → zt p l e R s m args below meth c 6 A D 0 0 Q (wX7 T a0 a.2) [(0, .ref (a0 99)), (1, .int v1), (2, .int a.1)] 19 []) ?_ n (c0, c1) b h K
  clear h K b c0 c1
  intro rec hrec a b h K
  have hrec : ∀ (c0 : Int32) (c1 : Nat → Nat → Int32) (b : (Nat → Nat → Int32)), rec (c0, c1) = some b → (zt p l e R s m args below meth c 6 A D 0 0 Q (wX7 T a0 b) [(0, .ref (a0 99)), (1, .int v1)] 129 []) → zt p l e R s m args below meth c 6 A D 0 0 Q (wX7 T a0 c1) [(0, .ref (a0 99)), (1, .int v1), (2, .int c0)] 19 [] := fun c0 c1 b h K => hrec (c0, c1) b h K
  unfold f_X7_laysLengths_L19b at h
  refine z_iload_n C dX7_laysLengths_19 rfl 2 rfl 20 rfl ?_
  refine z_aload_n C dX7_laysLengths_20 rfl 0 rfl 21 rfl ?_
  refine z_get C (in_X7_laysLengths_X7) 0 rfl rfl 2 (by decide) (List.mem_of_getElem? (i := 3) rfl) rfl rfl dX7_laysLengths_21 24 rfl ?_
  refine z_icmp_ge C 129 dX7_laysLengths_24 (by decide) 27 rfl h (fun h => ?_) (fun h => ?_)
  · refine z_locals (ks := [0, 1]) (lv' := [(0, .ref (a0 99)), (1, .int v1)]) rfl ?_
    exact zex1 (F := (fun e0 => zt p l e R s m args below meth c 6 A D 0 0 Q (wX7 T a0 e0) [(0, .ref (a0 99)), (1, .int v1)] 129 [])) h K
  · refine z_ldc C 1000000000 (List.mem_of_getElem? (i := 4) rfl) dX7_laysLengths_27 29 rfl ?_
    refine z_istore_n C [(0, .ref (a0 99)), (1, .int v1), (2, .int a.1), (3, .int 1000000000)] dX7_laysLengths_29 rfl (Nat.le_of_ble_eq_true rfl) [1, 2, 3, 0] rfl 30 rfl ?_
    refine z_iconst C 0 dX7_laysLengths_30 (by decide) 31 rfl ?_
    refine z_istore C [(0, .ref (a0 99)), (1, .int v1), (2, .int a.1), (3, .int 1000000000), (4, .int 0)] dX7_laysLengths_31 (Nat.le_of_ble_eq_true rfl) [1, 2, 3, 4, 0] rfl 33 rfl ?_
    obtain ⟨y_6, hl_y_6, h⟩ := Option.bind_eq_some_iff.mp h
    refine z_locals (ks := [0, 1, 2, 3, 4]) rfl (p_X7_laysLengths_L33 C a.2 v1 a.1 (hD.zaddr rfl) _ _ _ _ hl_y_6 ?_)
    refine z_aload_n C dX7_laysLengths_112 rfl 0 rfl 113 rfl ?_
    refine z_get C (in_X7_laysLengths_X7) 0 rfl rfl 31 (by decide) (List.mem_of_getElem? (i := 1) rfl) rfl rfl dX7_laysLengths_113 116 rfl ?_
    refine z_iload_n C dX7_laysLengths_116 rfl 1 rfl 117 rfl ?_
    refine z_iload_n C dX7_laysLengths_117 rfl 2 rfl 118 rfl ?_
    refine z_callR C ([]) (fun v h => c_X7_cell l D T    v1 a.1 v h) ⟨rfl, rfl⟩ (z_cwS C 2 gX7_laysLengths_X7_cell rfl dd_X7_cell ⟨(Nat.le_of_ble_eq_true rfl), (Nat.le_of_ble_eq_true rfl)⟩) (hD.zaddr rfl) [] rfl rfl (fun h => absurd h (by decide)) (fun _ => rfl) rfl (Nat.le_of_ble_eq_true rfl) dX7_laysLengths_118 121 rfl h (fun r_7 h => ?_)
    refine z_iload_n C dX7_laysLengths_121 rfl 3 rfl 122 rfl ?_
    refine z_iast C (fun z => wX7 T a0 z) a.2 31 (hD.zaddr rfl) 14 rfl rfl (fun _ => rfl) dX7_laysLengths_122 123 rfl h (fun S0_8 h => ?_)
    refine z_iinc C (a.1 + 1) [(0, .ref (a0 99)), (1, .int v1), (2, .int (a.1 + 1)), (3, .int y_6)] dX7_laysLengths_123 2 rfl rfl (Nat.le_of_ble_eq_true rfl) [1, 2, 0, 3] rfl 126 rfl ?_
    refine z_goto C 19 dX7_laysLengths_126 (by decide) ?_
    exact z_locals (ks := [0, 1, 2]) rfl (hrec _ _ _ h K)

def f_X7_laysLengths_L9b   (rec : (Int32 × (Nat → Nat → Int32)) → Option ((Nat → Nat → Int32))) (a : Int32 × (Nat → Nat → Int32)) : Option ((Nat → Nat → Int32)) := if (a.2 1 0) < a.1 then (some a.2) else ((f_X7_laysLengths_L19 a.1 zfuel (0, a.2)).bind fun y_9 => rec ((a.1 + 1), y_9))
def f_X7_laysLengths_L9   : Nat → (Int32 × (Nat → Nat → Int32)) → Option ((Nat → Nat → Int32)) := zloop (fun rec a => f_X7_laysLengths_L9b  rec a)
set_option maxHeartbeats 4000000 in
set_option maxRecDepth 100000 in
theorem p_X7_laysLengths_L9 (C : zC p R s m args meth c cX7_laysLengths 6 RX7 wsX7_laysLengths D T 4 90 0 0) (S0 : Nat → Nat → Int32)  (hD : va_D A (wX7 T a0 S0)) : ∀ (n : Nat) (c0 : Int32) (c1 : Nat → Nat → Int32) (b : (Nat → Nat → Int32)), f_X7_laysLengths_L9  n (c0, c1) = some b → (zt p l e R s m args below meth c 6 A D 0 0 Q (wX7 T a0 b) [] 135 []) → zt p l e R s m args below meth c 6 A D 0 0 Q (wX7 T a0 c1) [(0, .ref (a0 99)), (1, .int c0)] 9 [] := by
  intro n c0 c1 b h K
  refine zloop_ind (P := fun a b => (zt p l e R s m args below meth c 6 A D 0 0 Q (wX7 T a0 b) [] 135 []) → zt p l e R s m args below meth c 6 A D 0 0 Q (wX7 T a0 a.2) [(0, .ref (a0 99)), (1, .int a.1)] 9 []) ?_ n (c0, c1) b h K
  clear h K b c0 c1
  intro rec hrec a b h K
  have hrec : ∀ (c0 : Int32) (c1 : Nat → Nat → Int32) (b : (Nat → Nat → Int32)), rec (c0, c1) = some b → (zt p l e R s m args below meth c 6 A D 0 0 Q (wX7 T a0 b) [] 135 []) → zt p l e R s m args below meth c 6 A D 0 0 Q (wX7 T a0 c1) [(0, .ref (a0 99)), (1, .int c0)] 9 [] := fun c0 c1 b h K => hrec (c0, c1) b h K
  unfold f_X7_laysLengths_L9b at h
  refine z_iload_n C dX7_laysLengths_9 rfl 1 rfl 10 rfl ?_
  refine z_aload_n C dX7_laysLengths_10 rfl 0 rfl 11 rfl ?_
  refine z_get C (in_X7_laysLengths_X7) 0 rfl rfl 1 (by decide) (List.mem_of_getElem? (i := 2) rfl) rfl rfl dX7_laysLengths_11 14 rfl ?_
  refine z_icmp_gt C 135 dX7_laysLengths_14 (by decide) 17 rfl h (fun h => ?_) (fun h => ?_)
  · refine z_locals (ks := []) (lv' := []) rfl ?_
    exact zex1 (F := (fun e0 => zt p l e R s m args below meth c 6 A D 0 0 Q (wX7 T a0 e0) [] 135 [])) h K
  · refine z_iconst C 0 dX7_laysLengths_17 (by decide) 18 rfl ?_
    refine z_istore_n C [(0, .ref (a0 99)), (1, .int a.1), (2, .int 0)] dX7_laysLengths_18 rfl (Nat.le_of_ble_eq_true rfl) [1, 2, 0] rfl 19 rfl ?_
    obtain ⟨y_9, hl_y_9, h⟩ := Option.bind_eq_some_iff.mp h
    refine z_locals (ks := [0, 1, 2]) rfl (p_X7_laysLengths_L19 C a.2 a.1 (hD.zaddr rfl) _ _ _ _ hl_y_9 ?_)
    refine z_iinc C (a.1 + 1) [(0, .ref (a0 99)), (1, .int (a.1 + 1))] dX7_laysLengths_129 1 rfl rfl (Nat.le_of_ble_eq_true rfl) [1, 0] rfl 132 rfl ?_
    refine z_goto C 9 dX7_laysLengths_132 (by decide) ?_
    exact z_locals (ks := [0, 1]) rfl (hrec _ _ _ h K)

def f_X7_laysLengths (S0 : Nat → Nat → Int32)  : Option ((Nat → Nat → Int32)) := zix 0 240 fun j => zlet (zst S0 31 j 0) fun S0_1 => (f_X7_laysLengths_L9  zfuel (1, S0_1)).bind fun y_10 => some y_10
theorem dd_X7_laysLengths : RX7 ≠ "java/lang/invoke/MethodHandle" ∧ RX7 ≠ "java/lang/invoke/VarHandle" ∧ (parseMethodDescriptor yX7_laysLengths.desc).map (fun d => d.parameters.length) = some 0 := by decide +kernel
set_option maxHeartbeats 4000000 in
set_option maxRecDepth 100000 in
theorem c_X7_laysLengths (l : Launch) (D : va_G) (T : Nat → ClassId) (a0 : Nat → Nat) (S0 : Nat → Nat → Int32)  (ex : (Nat → Nat → Int32)) (h : f_X7_laysLengths S0 = some ex) : zWV l yX7_laysLengths wsX7_laysLengths ({ frames := 4, cells := 0, slots := 0, locals := 90 } : Room) D T [.ref (a0 99)] (wX7 T a0 S0) (wX7 T a0 ex) := by
  refine z_begin (cc := cX7_laysLengths) (nL := 6) (own := RX7) (fr := 4) (lc := 90) (ret := none) (by decide) rfl (Nat.le_of_ble_eq_true rfl) (zA (wX7 T a0 S0)) rfl [(0, .ref (a0 99))] rfl ⟨rfl, rfl⟩ rfl ?_
  intro p e s m args below meth c C hr hD
  have hD := hD.zself
  unfold f_X7_laysLengths at h
  refine z_aload_n C dX7_laysLengths_0 rfl 0 rfl 1 rfl ?_
  refine z_get C (in_X7_laysLengths_X7) 0 rfl rfl 31 (by decide) (List.mem_of_getElem? (i := 1) rfl) rfl rfl dX7_laysLengths_1 4 rfl ?_
  refine z_iconst C 0 dX7_laysLengths_4 (by decide) 5 rfl ?_
  refine z_iconst C 0 dX7_laysLengths_5 (by decide) 6 rfl ?_
  refine z_iast C (fun z => wX7 T a0 z) S0 31 (hD.zaddr rfl) 14 rfl rfl (fun _ => rfl) dX7_laysLengths_6 7 rfl h (fun S0_1 h => ?_)
  refine z_iconst C 1 dX7_laysLengths_7 (by decide) 8 rfl ?_
  refine z_istore_n C [(0, .ref (a0 99)), (1, .int 1)] dX7_laysLengths_8 rfl (Nat.le_of_ble_eq_true rfl) [1, 0] rfl 9 rfl ?_
  obtain ⟨y_10, hl_y_10, h⟩ := Option.bind_eq_some_iff.mp h
  refine z_locals (ks := [0, 1]) rfl (p_X7_laysLengths_L9 C S0_1  (hD.zaddr rfl) _ _ _ _ hl_y_10 ?_)
  exact z_vretW (x := y_10) (ex := ex) (fun z => wX7 T a0 z) C hr dX7_laysLengths_135 h rfl

end
/-! StreamTreeModel.aloneOf (I)I -/
section
variable {p : Program} {l : Launch} {e : Env} {R : Room} {s : State} {m : MethodId} {args : Array Value} {below : List Frame} {meth : Method} {c : Code} {Q : State → Prop} {A : Nat → Prop} {D : va_G} {T : Nat → ClassId} {a0 : Nat → Nat}
theorem in_X7_aloneOf_X7 : ∀ w ∈ u_ws RX7 TX7 35, w ∈ wsX7_aloneOf := fun _ h => (List.mem_cons_of_mem _ (List.mem_append_right _ h))
def f_X7_aloneOf (S0 : Nat → Nat → Int32) (v1 : Int32) : Option (Int32) := zix v1 8 fun _ => zix v1 8 fun _ => (f_X7_cell (S0 6 (Int32.toNatClampNeg v1)) (S0 7 (Int32.toNatClampNeg v1))).bind fun r_1 => zix r_1 240 fun _ => zlet (S0 31 (Int32.toNatClampNeg r_1)) fun u_2 => if 1000000000 ≤ u_2 then (some (-2)) else (zix v1 8 fun _ => some (u_2 * ((S0 3 0) + (S0 8 (Int32.toNatClampNeg v1)))))
theorem dd_X7_aloneOf : RX7 ≠ "java/lang/invoke/MethodHandle" ∧ RX7 ≠ "java/lang/invoke/VarHandle" ∧ (parseMethodDescriptor yX7_aloneOf.desc).map (fun d => d.parameters.length) = some 1 := by decide +kernel
set_option maxHeartbeats 4000000 in
set_option maxRecDepth 100000 in
theorem c_X7_aloneOf (l : Launch) (D : va_G) (T : Nat → ClassId) (a0 : Nat → Nat) (S0 : Nat → Nat → Int32) (v1 : Int32) (ex : Int32) (h : f_X7_aloneOf S0 v1 = some ex) : zRI l yX7_aloneOf wsX7_aloneOf ({ frames := 1, cells := 0, slots := 0, locals := 21 } : Room) D T [.ref (a0 99), .int v1] (wX7 T a0 S0) ex := by
  refine z_begin (cc := cX7_aloneOf) (nL := 3) (own := RX7) (fr := 1) (lc := 21) (ret := some .int) (by decide) rfl (Nat.le_of_ble_eq_true rfl) (fun _ => False) rfl [(0, .ref (a0 99)), (1, .int v1)] rfl ⟨rfl, rfl⟩ rfl ?_
  intro p e s m args below meth c C hr hD
  unfold f_X7_aloneOf at h
  refine z_aload_n C dX7_aloneOf_0 rfl 0 rfl 1 rfl ?_
  refine z_get C (in_X7_aloneOf_X7) 0 rfl rfl 31 (by decide) (List.mem_of_getElem? (i := 1) rfl) rfl rfl dX7_aloneOf_1 4 rfl ?_
  refine z_aload_n C dX7_aloneOf_4 rfl 0 rfl 5 rfl ?_
  refine z_get C (in_X7_aloneOf_X7) 0 rfl rfl 6 (by decide) (List.mem_of_getElem? (i := 2) rfl) rfl rfl dX7_aloneOf_5 8 rfl ?_
  refine z_iload_n C dX7_aloneOf_8 rfl 1 rfl 9 rfl ?_
  refine z_iald C 1 rfl rfl dX7_aloneOf_9 10 rfl h (fun h => ?_)
  refine z_aload_n C dX7_aloneOf_10 rfl 0 rfl 11 rfl ?_
  refine z_get C (in_X7_aloneOf_X7) 0 rfl rfl 7 (by decide) (List.mem_of_getElem? (i := 3) rfl) rfl rfl dX7_aloneOf_11 14 rfl ?_
  refine z_iload_n C dX7_aloneOf_14 rfl 1 rfl 15 rfl ?_
  refine z_iald C 2 rfl rfl dX7_aloneOf_15 16 rfl h (fun h => ?_)
  refine z_callR C ([]) (fun v h => c_X7_cell l D T    (S0 6 (Int32.toNatClampNeg v1)) (S0 7 (Int32.toNatClampNeg v1)) v h) ⟨rfl, rfl⟩ (z_cwS C 2 gX7_aloneOf_X7_cell rfl dd_X7_cell ⟨(Nat.le_of_ble_eq_true rfl), (Nat.le_of_ble_eq_true rfl)⟩) (hD.zaddr rfl) [] rfl rfl (fun h => absurd h (by decide)) (fun _ => rfl) rfl (Nat.le_of_ble_eq_true rfl) dX7_aloneOf_16 19 rfl h (fun r_1 h => ?_)
  refine z_iald C 14 rfl rfl dX7_aloneOf_19 20 rfl h (fun h => ?_)
  refine z_top h (fun u_2 h => ?_)
  refine z_istore_n C [(0, .ref (a0 99)), (1, .int v1), (2, .int u_2)] dX7_aloneOf_20 rfl (Nat.le_of_ble_eq_true rfl) [1, 2, 0] rfl 21 rfl ?_
  refine z_iload_n C dX7_aloneOf_21 rfl 2 rfl 22 rfl ?_
  refine z_ldc C 1000000000 (List.mem_of_getElem? (i := 4) rfl) dX7_aloneOf_22 24 rfl ?_
  refine z_icmp_ge C 43 dX7_aloneOf_24 (by decide) 27 rfl h (fun h => ?_) (fun h => ?_)
  · refine z_bipush C (-2) dX7_aloneOf_43 (by decide) 45 rfl ?_
    exact z_iretR C hr dX7_aloneOf_45 h
  · refine z_iload_n C dX7_aloneOf_27 rfl 2 rfl 28 rfl ?_
    refine z_aload_n C dX7_aloneOf_28 rfl 0 rfl 29 rfl ?_
    refine z_get C (in_X7_aloneOf_X7) 0 rfl rfl 3 (by decide) (List.mem_of_getElem? (i := 5) rfl) rfl rfl dX7_aloneOf_29 32 rfl ?_
    refine z_aload_n C dX7_aloneOf_32 rfl 0 rfl 33 rfl ?_
    refine z_get C (in_X7_aloneOf_X7) 0 rfl rfl 8 (by decide) (List.mem_of_getElem? (i := 6) rfl) rfl rfl dX7_aloneOf_33 36 rfl ?_
    refine z_iload_n C dX7_aloneOf_36 rfl 1 rfl 37 rfl ?_
    refine z_iald C 3 rfl rfl dX7_aloneOf_37 38 rfl h (fun h => ?_)
    refine z_iadd C dX7_aloneOf_38 39 rfl ?_
    refine z_imul C dX7_aloneOf_39 40 rfl ?_
    refine z_goto C 45 dX7_aloneOf_40 (by decide) ?_
    exact z_iretR C hr dX7_aloneOf_45 h

end
/-! StreamTreeModel.alone (I)I -/
section
variable {p : Program} {l : Launch} {e : Env} {R : Room} {s : State} {m : MethodId} {args : Array Value} {below : List Frame} {meth : Method} {c : Code} {Q : State → Prop} {A : Nat → Prop} {D : va_G} {T : Nat → ClassId} {a0 : Nat → Nat}
theorem in_X7_alone_X7 : ∀ w ∈ u_ws RX7 TX7 35, w ∈ wsX7_alone := fun _ h => (List.mem_cons_of_mem _ (List.mem_append_right _ h))
def f_X7_alone (S0 : Nat → Nat → Int32) (v1 : Int32) : Option (Int32 × (Nat → Nat → Int32)) := zlet (zst S0 0 0 0) fun S0_1 => (f_X7_within v1 0 ((S0_1 9 0) - 1)).bind fun r_2 => if r_2 = 0 then (some ((-1), S0_1)) else ((f_X7_laysLengths S0_1).bind fun r_3 => (f_X7_aloneOf r_3 v1).bind fun r_4 => some (r_4, r_3))
theorem dd_X7_alone : RX7 ≠ "java/lang/invoke/MethodHandle" ∧ RX7 ≠ "java/lang/invoke/VarHandle" ∧ (parseMethodDescriptor yX7_alone.desc).map (fun d => d.parameters.length) = some 1 := by decide +kernel
set_option maxHeartbeats 4000000 in
set_option maxRecDepth 100000 in
theorem c_X7_alone (l : Launch) (D : va_G) (T : Nat → ClassId) (a0 : Nat → Nat) (S0 : Nat → Nat → Int32) (v1 : Int32) (ex : Int32 × (Nat → Nat → Int32)) (h : f_X7_alone S0 v1 = some ex) : zWI l yX7_alone wsX7_alone ({ frames := 5, cells := 0, slots := 0, locals := 115 } : Room) D T [.ref (a0 99), .int v1] (wX7 T a0 S0) ex.1 (wX7 T a0 ex.2) := by
  refine z_begin (cc := cX7_alone) (nL := 2) (own := RX7) (fr := 5) (lc := 115) (ret := some .int) (by decide) rfl (Nat.le_of_ble_eq_true rfl) (zA (wX7 T a0 S0)) rfl [(0, .ref (a0 99)), (1, .int v1)] rfl ⟨rfl, rfl⟩ rfl ?_
  intro p e s m args below meth c C hr hD
  have hD := hD.zself
  unfold f_X7_alone at h
  refine z_aload_n C dX7_alone_0 rfl 0 rfl 1 rfl ?_
  refine z_iconst C 0 dX7_alone_1 (by decide) 2 rfl ?_
  refine z_put (ty := .int) C (fun z => wX7 T a0 z) S0 (hD.zaddr rfl) (in_X7_alone_X7) tyX7 tyX7_ok nmX7 0 rfl rfl 0 (by decide) (List.mem_of_getElem? (i := 1) rfl) rfl rfl (by decide +kernel) rfl rfl (Nat.le_of_ble_eq_true rfl) rfl dX7_alone_2 5 rfl h (fun S0_1 h => ?_)
  refine z_iload_n C dX7_alone_5 rfl 1 rfl 6 rfl ?_
  refine z_iconst C 0 dX7_alone_6 (by decide) 7 rfl ?_
  refine z_aload_n C dX7_alone_7 rfl 0 rfl 8 rfl ?_
  refine z_get C (in_X7_alone_X7) 0 rfl rfl 9 (by decide) (List.mem_of_getElem? (i := 2) rfl) rfl rfl dX7_alone_8 11 rfl ?_
  refine z_iconst C 1 dX7_alone_11 (by decide) 12 rfl ?_
  refine z_isub C dX7_alone_12 13 rfl ?_
  refine z_callR C ([]) (fun v h => c_X7_within l D T    v1 0 ((S0_1 9 0) - 1) v h) ⟨rfl, rfl⟩ (z_cwS C 3 gX7_alone_X7_within rfl dd_X7_within ⟨(Nat.le_of_ble_eq_true rfl), (Nat.le_of_ble_eq_true rfl)⟩) (hD.zaddr rfl) [] rfl rfl (fun h => absurd h (by decide)) (fun _ => rfl) rfl (Nat.le_of_ble_eq_true rfl) dX7_alone_13 16 rfl h (fun r_2 h => ?_)
  refine z_if_ne C 21 dX7_alone_16 (by decide) 19 rfl h (fun h => ?_) (fun h => ?_)
  · refine z_aload_n C dX7_alone_21 rfl 0 rfl 22 rfl ?_
    refine z_callV C (wX7 T a0 S0_1) (([] : va_W)) (fun z => wX7 T a0 z) (fun z => wX7 T a0 z) (fun z h => c_X7_laysLengths l D T a0  S0_1  z h) ⟨rfl, rfl⟩ (z_cwV C 0 gX7_alone_X7_laysLengths rfl rfl dd_X7_laysLengths ⟨(Nat.le_of_ble_eq_true rfl), (Nat.le_of_ble_eq_true rfl)⟩) (hD.zaddr rfl) [0, 1, 2, 3, 4, 5, 6, 7, 8, 9, 10, 11, 12, 13, 14, 15, 16, 17] [] [0, 1, 2, 3, 4, 5, 6, 7, 8, 9, 10, 11, 12, 13, 14, 15, 16, 17] rfl rfl rfl (by decide) (fun _ => rfl) (fun _ => ⟨a0 99, [], 6, 0, _, _, rfl, rfl, rfl, rfl, rfl⟩) (fun h => absurd rfl h) rfl (Nat.le_of_ble_eq_true rfl) dX7_alone_22 25 rfl h (fun r_3 h => ?_)
    refine z_aload_n C dX7_alone_25 rfl 0 rfl 26 rfl ?_
    refine z_iload_n C dX7_alone_26 rfl 1 rfl 27 rfl ?_
    refine z_callR C (wX7 T a0 r_3) (fun v h => c_X7_aloneOf l D T a0  r_3 v1 v h) ⟨rfl, rfl⟩ (z_cwV C 1 gX7_alone_X7_aloneOf rfl rfl dd_X7_aloneOf ⟨(Nat.le_of_ble_eq_true rfl), (Nat.le_of_ble_eq_true rfl)⟩) (hD.zaddr rfl) [0, 1, 2, 3, 4, 5, 6, 7, 8, 9, 10, 11, 12, 13, 14, 15, 16, 17] rfl rfl (fun _ => ⟨a0 99, [.int v1], 6, 0, _, _, rfl, rfl, rfl, rfl, rfl⟩) (fun h => absurd rfl h) rfl (Nat.le_of_ble_eq_true rfl) dX7_alone_27 30 rfl h (fun r_4 h => ?_)
    exact z_iretW (x := r_3) (ex := ex) (fun z => wX7 T a0 z) C hr dX7_alone_30 h rfl
  · refine z_iconst C (-1) dX7_alone_19 (by decide) 20 rfl ?_
    exact z_iretW (x := S0_1) (ex := ex) (fun z => wX7 T a0 z) C hr dX7_alone_20 h rfl

end
/-! StreamTreeModel.allAlone ()I -/
section
variable {p : Program} {l : Launch} {e : Env} {R : Room} {s : State} {m : MethodId} {args : Array Value} {below : List Frame} {meth : Method} {c : Code} {Q : State → Prop} {A : Nat → Prop} {D : va_G} {T : Nat → ClassId} {a0 : Nat → Nat}
theorem in_X7_allAlone_X7 : ∀ w ∈ u_ws RX7 TX7 35, w ∈ wsX7_allAlone := fun _ h => (List.mem_cons_of_mem _ (List.mem_append_right _ h))
def f_X7_allAlone_L8b (S0 : Nat → Nat → Int32)  (rec : (Int32 × Int32) → Option (Nat × Int32)) (a : Int32 × Int32) : Option (Nat × Int32) := if (S0 9 0) ≤ a.2 then (some (1, a.1)) else ((f_X7_aloneOf S0 a.2).bind fun r_2 => if 0 ≤ r_2 then (zlet (a.1 + r_2) fun u_3 => rec (u_3, (a.2 + 1))) else (some (0, 0)))
def f_X7_allAlone_L8 (S0 : Nat → Nat → Int32)  : Nat → (Int32 × Int32) → Option (Nat × Int32) := zloop (fun rec a => f_X7_allAlone_L8b S0 rec a)
set_option maxHeartbeats 4000000 in
set_option maxRecDepth 100000 in
theorem p_X7_allAlone_L8 (C : zC p R s m args meth c cX7_allAlone 4 RX7 wsX7_allAlone D T 5 115 0 0) (S0 : Nat → Nat → Int32)  (hD : va_D A (wX7 T a0 S0)) : ∀ (n : Nat) (c0 : Int32) (c1 : Int32) (b : Nat × Int32), f_X7_allAlone_L8 S0 n (c0, c1) = some b → ((b.1 = 0 → zt p l e R s m args below meth c 4 A D 0 0 Q (wX7 T a0 S0) [] 26 []) ∧ (b.1 = 1 → zt p l e R s m args below meth c 4 A D 0 0 Q (wX7 T a0 S0) [(1, .int b.2)] 39 [])) → zt p l e R s m args below meth c 4 A D 0 0 Q (wX7 T a0 S0) [(0, .ref (a0 99)), (1, .int c0), (2, .int c1)] 8 [] := by
  intro n c0 c1 b h K
  refine zloop_ind (P := fun a b => ((b.1 = 0 → zt p l e R s m args below meth c 4 A D 0 0 Q (wX7 T a0 S0) [] 26 []) ∧ (b.1 = 1 → zt p l e R s m args below meth c 4 A D 0 0 Q (wX7 T a0 S0) [(1, .int b.2)] 39 [])) → zt p l e R s m args below meth c 4 A D 0 0 Q (wX7 T a0 S0) [(0, .ref (a0 99)), (1, .int a.1), (2, .int a.2)] 8 []) ?_ n (c0, c1) b h K
  clear h K b c0 c1
  intro rec hrec a b h K
  have hrec : ∀ (c0 : Int32) (c1 : Int32) (b : Nat × Int32), rec (c0, c1) = some b → ((b.1 = 0 → zt p l e R s m args below meth c 4 A D 0 0 Q (wX7 T a0 S0) [] 26 []) ∧ (b.1 = 1 → zt p l e R s m args below meth c 4 A D 0 0 Q (wX7 T a0 S0) [(1, .int b.2)] 39 [])) → zt p l e R s m args below meth c 4 A D 0 0 Q (wX7 T a0 S0) [(0, .ref (a0 99)), (1, .int c0), (2, .int c1)] 8 [] := fun c0 c1 b h K => hrec (c0, c1) b h K
  unfold f_X7_allAlone_L8b at h
  refine z_iload_n C dX7_allAlone_8 rfl 2 rfl 9 rfl ?_
  refine z_aload_n C dX7_allAlone_9 rfl 0 rfl 10 rfl ?_
  refine z_get C (in_X7_allAlone_X7) 0 rfl rfl 9 (by decide) (List.mem_of_getElem? (i := 1) rfl) rfl rfl dX7_allAlone_10 13 rfl ?_
  refine z_icmp_ge C 39 dX7_allAlone_13 (by decide) 16 rfl h (fun h => ?_) (fun h => ?_)
  · refine z_locals (ks := [1]) (lv' := [(1, .int a.1)]) rfl ?_
    exact zexT1 (F := (fun e0 => zt p l e R s m args below meth c 4 A D 0 0 Q (wX7 T a0 S0) [(1, .int e0)] 39 [])) h K.2
  · refine z_aload_n C dX7_allAlone_16 rfl 0 rfl 17 rfl ?_
    refine z_iload_n C dX7_allAlone_17 rfl 2 rfl 18 rfl ?_
    refine z_callR C (wX7 T a0 S0) (fun v h => c_X7_aloneOf l D T a0  S0 a.2 v h) ⟨rfl, rfl⟩ (z_cwV C 1 gX7_allAlone_X7_aloneOf rfl rfl dd_X7_aloneOf ⟨(Nat.le_of_ble_eq_true rfl), (Nat.le_of_ble_eq_true rfl)⟩) (hD.zaddr rfl) [0, 1, 2, 3, 4, 5, 6, 7, 8, 9, 10, 11, 12, 13, 14, 15, 16, 17] rfl rfl (fun _ => ⟨a0 99, [.int a.2], 6, 0, _, _, rfl, rfl, rfl, rfl, rfl⟩) (fun h => absurd rfl h) rfl (Nat.le_of_ble_eq_true rfl) dX7_allAlone_18 21 rfl h (fun r_2 h => ?_)
    refine z_istore_n C [(0, .ref (a0 99)), (1, .int a.1), (2, .int a.2), (3, .int r_2)] dX7_allAlone_21 rfl (Nat.le_of_ble_eq_true rfl) [1, 2, 3, 0] rfl 22 rfl ?_
    refine z_iload_n C dX7_allAlone_22 rfl 3 rfl 23 rfl ?_
    refine z_if_ge C 29 dX7_allAlone_23 (by decide) 26 rfl h (fun h => ?_) (fun h => ?_)
    · refine z_iload_n C dX7_allAlone_29 rfl 1 rfl 30 rfl ?_
      refine z_iload_n C dX7_allAlone_30 rfl 3 rfl 31 rfl ?_
      refine z_iadd C dX7_allAlone_31 32 rfl ?_
      refine z_top h (fun u_3 h => ?_)
      refine z_istore_n C [(0, .ref (a0 99)), (1, .int u_3), (2, .int a.2), (3, .int r_2)] dX7_allAlone_32 rfl (Nat.le_of_ble_eq_true rfl) [1, 0, 2, 3] rfl 33 rfl ?_
      refine z_iinc C (a.2 + 1) [(0, .ref (a0 99)), (1, .int u_3), (2, .int (a.2 + 1)), (3, .int r_2)] dX7_allAlone_33 2 rfl rfl (Nat.le_of_ble_eq_true rfl) [1, 2, 0, 3] rfl 36 rfl ?_
      refine z_goto C 8 dX7_allAlone_36 (by decide) ?_
      exact z_locals (ks := [0, 1, 2]) rfl (hrec _ _ _ h K)
    · refine z_locals (ks := []) (lv' := []) rfl ?_
      exact zexT1 (F := (fun e0 => zt p l e R s m args below meth c 4 A D 0 0 Q (wX7 T a0 S0) [] 26 [])) h K.1

def f_X7_allAlone (S0 : Nat → Nat → Int32)  : Option (Int32 × (Nat → Nat → Int32)) := (f_X7_laysLengths S0).bind fun r_1 => (f_X7_allAlone_L8 r_1 zfuel (0, 0)).bind fun y_4 => if y_4.1 = 0 then (some ((-2), r_1)) else (some (y_4.2, r_1))
theorem dd_X7_allAlone : RX7 ≠ "java/lang/invoke/MethodHandle" ∧ RX7 ≠ "java/lang/invoke/VarHandle" ∧ (parseMethodDescriptor yX7_allAlone.desc).map (fun d => d.parameters.length) = some 0 := by decide +kernel
set_option maxHeartbeats 4000000 in
set_option maxRecDepth 100000 in
theorem c_X7_allAlone (l : Launch) (D : va_G) (T : Nat → ClassId) (a0 : Nat → Nat) (S0 : Nat → Nat → Int32)  (ex : Int32 × (Nat → Nat → Int32)) (h : f_X7_allAlone S0 = some ex) : zWI l yX7_allAlone wsX7_allAlone ({ frames := 5, cells := 0, slots := 0, locals := 115 } : Room) D T [.ref (a0 99)] (wX7 T a0 S0) ex.1 (wX7 T a0 ex.2) := by
  refine z_begin (cc := cX7_allAlone) (nL := 4) (own := RX7) (fr := 5) (lc := 115) (ret := some .int) (by decide) rfl (Nat.le_of_ble_eq_true rfl) (zA (wX7 T a0 S0)) rfl [(0, .ref (a0 99))] rfl ⟨rfl, rfl⟩ rfl ?_
  intro p e s m args below meth c C hr hD
  have hD := hD.zself
  unfold f_X7_allAlone at h
  refine z_aload_n C dX7_allAlone_0 rfl 0 rfl 1 rfl ?_
  refine z_callV C (wX7 T a0 S0) (([] : va_W)) (fun z => wX7 T a0 z) (fun z => wX7 T a0 z) (fun z h => c_X7_laysLengths l D T a0  S0  z h) ⟨rfl, rfl⟩ (z_cwV C 0 gX7_allAlone_X7_laysLengths rfl rfl dd_X7_laysLengths ⟨(Nat.le_of_ble_eq_true rfl), (Nat.le_of_ble_eq_true rfl)⟩) (hD.zaddr rfl) [0, 1, 2, 3, 4, 5, 6, 7, 8, 9, 10, 11, 12, 13, 14, 15, 16, 17] [] [0, 1, 2, 3, 4, 5, 6, 7, 8, 9, 10, 11, 12, 13, 14, 15, 16, 17] rfl rfl rfl (by decide) (fun _ => rfl) (fun _ => ⟨a0 99, [], 6, 0, _, _, rfl, rfl, rfl, rfl, rfl⟩) (fun h => absurd rfl h) rfl (Nat.le_of_ble_eq_true rfl) dX7_allAlone_1 4 rfl h (fun r_1 h => ?_)
  refine z_iconst C 0 dX7_allAlone_4 (by decide) 5 rfl ?_
  refine z_istore_n C [(0, .ref (a0 99)), (1, .int 0)] dX7_allAlone_5 rfl (Nat.le_of_ble_eq_true rfl) [1, 0] rfl 6 rfl ?_
  refine z_iconst C 0 dX7_allAlone_6 (by decide) 7 rfl ?_
  refine z_istore_n C [(0, .ref (a0 99)), (1, .int 0), (2, .int 0)] dX7_allAlone_7 rfl (Nat.le_of_ble_eq_true rfl) [1, 2, 0] rfl 8 rfl ?_
  obtain ⟨y_4, hl_y_4, h⟩ := Option.bind_eq_some_iff.mp h
  refine z_locals (ks := [0, 1, 2]) rfl (p_X7_allAlone_L8 C r_1  (hD.zaddr rfl) _ _ _ _ hl_y_4 ⟨fun ht => ?_, fun ht => ?_⟩)
  · replace h := z_pos ht h
    refine z_bipush C (-2) dX7_allAlone_26 (by decide) 28 rfl ?_
    exact z_iretW (x := r_1) (ex := ex) (fun z => wX7 T a0 z) C hr dX7_allAlone_28 h rfl
  · replace h := z_neg (by rw [ht]; decide) h
    refine z_iload_n C dX7_allAlone_39 rfl 0 rfl 40 rfl ?_
    exact z_iretW (x := r_1) (ex := ex) (fun z => wX7 T a0 z) C hr dX7_allAlone_40 h rfl

end
/-! StreamTreeModel.inkNow ()I -/
section
variable {p : Program} {l : Launch} {e : Env} {R : Room} {s : State} {m : MethodId} {args : Array Value} {below : List Frame} {meth : Method} {c : Code} {Q : State → Prop} {A : Nat → Prop} {D : va_G} {T : Nat → ClassId} {a0 : Nat → Nat}
theorem in_X7_inkNow_X7 : ∀ w ∈ u_ws RX7 TX7 35, w ∈ wsX7_inkNow := fun _ h => (List.mem_cons_of_mem _ (List.mem_append_right _ h))
def f_X7_inkNow_J69 (rec : (Int32 × Int32) → Option (Int32)) (S0 : Nat → Nat → Int32) (v2 : Int32) (x3 : Int32) (k0 : Int32) (k1 : Int32) : Option (Int32) := zlet (k0 + k1) fun u_3 => rec (u_3, (x3 + 1))
set_option maxHeartbeats 4000000 in
set_option maxRecDepth 100000 in
theorem p_X7_inkNow_J69 (C : zC p R s m args meth c cX7_inkNow 5 RX7 wsX7_inkNow D T 1 22 0 0) (S0 : Nat → Nat → Int32) {v2 : Int32} (x3 : Int32) (k0 : Int32) (k1 : Int32) (hD : va_D (fun _ => True) (wX7 T a0 S0)) {rec : (Int32 × Int32) → Option (Int32)} (hrec : ∀ (c0 : Int32) (c1 : Int32) (b : Int32), rec (c0, c1) = some b → (zt p l e R s m args below meth c 5 A D 0 0 Q (wX7 T a0 S0) [(0, .ref (a0 99)), (1, .int b), (2, .int v2)] 77 []) → zt p l e R s m args below meth c 5 A D 0 0 Q (wX7 T a0 S0) [(0, .ref (a0 99)), (1, .int c0), (2, .int v2), (3, .int c1)] 14 []) {b : Int32} (K : zt p l e R s m args below meth c 5 A D 0 0 Q (wX7 T a0 S0) [(0, .ref (a0 99)), (1, .int b), (2, .int v2)] 77 []) (h : f_X7_inkNow_J69 rec S0 v2 x3 k0 k1 = some b) : zt p l e R s m args below meth c 5 A D 0 0 Q (wX7 T a0 S0) [(0, .ref (a0 99)), (2, .int v2), (3, .int x3)] 69 [.int k1, .int k0] := by
  unfold f_X7_inkNow_J69 at h
  refine z_iadd C dX7_inkNow_69 70 rfl ?_
  refine z_top h (fun u_3 h => ?_)
  refine z_istore_n C [(0, .ref (a0 99)), (1, .int u_3), (2, .int v2), (3, .int x3)] dX7_inkNow_70 rfl (Nat.le_of_ble_eq_true rfl) [1, 0, 2, 3] rfl 71 rfl ?_
  refine z_iinc C (x3 + 1) [(0, .ref (a0 99)), (1, .int u_3), (2, .int v2), (3, .int (x3 + 1))] dX7_inkNow_71 3 rfl rfl (Nat.le_of_ble_eq_true rfl) [1, 2, 3, 0] rfl 74 rfl ?_
  refine z_goto C 14 dX7_inkNow_74 (by decide) ?_
  exact z_locals (ks := [0, 1, 2, 3]) rfl (hrec _ _ _ h K)

def f_X7_inkNow_L14b (S0 : Nat → Nat → Int32) (v2 : Int32) (rec : (Int32 × Int32) → Option (Int32)) (a : Int32 × Int32) : Option (Int32) := if (S0 2 0) ≤ a.2 then (some a.1) else ((f_X7_cell v2 a.2).bind fun r_1 => zix r_1 240 fun _ => if 0 ≤ (S0 26 (Int32.toNatClampNeg r_1)) then (zix r_1 240 fun _ => (f_X7_lengthOf S0 v2 (S0 26 (Int32.toNatClampNeg r_1))).bind fun r_2 => zix r_1 240 fun _ => f_X7_inkNow_J69 rec S0 v2 a.2 a.1 (r_2 * ((S0 3 0) + (S0 27 (Int32.toNatClampNeg r_1))))) else (f_X7_inkNow_J69 rec S0 v2 a.2 a.1 0))
def f_X7_inkNow_L14 (S0 : Nat → Nat → Int32) (v2 : Int32) : Nat → (Int32 × Int32) → Option (Int32) := zloop (fun rec a => f_X7_inkNow_L14b S0 v2 rec a)
set_option maxHeartbeats 4000000 in
set_option maxRecDepth 100000 in
theorem p_X7_inkNow_L14 (C : zC p R s m args meth c cX7_inkNow 5 RX7 wsX7_inkNow D T 1 22 0 0) (S0 : Nat → Nat → Int32) (v2 : Int32) (hD : va_D (fun _ => True) (wX7 T a0 S0)) : ∀ (n : Nat) (c0 : Int32) (c1 : Int32) (b : Int32), f_X7_inkNow_L14 S0 v2 n (c0, c1) = some b → (zt p l e R s m args below meth c 5 A D 0 0 Q (wX7 T a0 S0) [(0, .ref (a0 99)), (1, .int b), (2, .int v2)] 77 []) → zt p l e R s m args below meth c 5 A D 0 0 Q (wX7 T a0 S0) [(0, .ref (a0 99)), (1, .int c0), (2, .int v2), (3, .int c1)] 14 [] := by
  intro n c0 c1 b h K
  refine zloop_ind (P := fun a b => (zt p l e R s m args below meth c 5 A D 0 0 Q (wX7 T a0 S0) [(0, .ref (a0 99)), (1, .int b), (2, .int v2)] 77 []) → zt p l e R s m args below meth c 5 A D 0 0 Q (wX7 T a0 S0) [(0, .ref (a0 99)), (1, .int a.1), (2, .int v2), (3, .int a.2)] 14 []) ?_ n (c0, c1) b h K
  clear h K b c0 c1
  intro rec hrec a b h K
  have hrec : ∀ (c0 : Int32) (c1 : Int32) (b : Int32), rec (c0, c1) = some b → (zt p l e R s m args below meth c 5 A D 0 0 Q (wX7 T a0 S0) [(0, .ref (a0 99)), (1, .int b), (2, .int v2)] 77 []) → zt p l e R s m args below meth c 5 A D 0 0 Q (wX7 T a0 S0) [(0, .ref (a0 99)), (1, .int c0), (2, .int v2), (3, .int c1)] 14 [] := fun c0 c1 b h K => hrec (c0, c1) b h K
  unfold f_X7_inkNow_L14b at h
  refine z_iload_n C dX7_inkNow_14 rfl 3 rfl 15 rfl ?_
  refine z_aload_n C dX7_inkNow_15 rfl 0 rfl 16 rfl ?_
  refine z_get C (in_X7_inkNow_X7) 0 rfl rfl 2 (by decide) (List.mem_of_getElem? (i := 2) rfl) rfl rfl dX7_inkNow_16 19 rfl ?_
  refine z_icmp_ge C 77 dX7_inkNow_19 (by decide) 22 rfl h (fun h => ?_) (fun h => ?_)
  · refine z_locals (ks := [0, 1, 2]) (lv' := [(0, .ref (a0 99)), (1, .int a.1), (2, .int v2)]) rfl ?_
    exact zex1 (F := (fun e0 => zt p l e R s m args below meth c 5 A D 0 0 Q (wX7 T a0 S0) [(0, .ref (a0 99)), (1, .int e0), (2, .int v2)] 77 [])) h K
  · refine z_iload_n C dX7_inkNow_22 rfl 2 rfl 23 rfl ?_
    refine z_iload_n C dX7_inkNow_23 rfl 3 rfl 24 rfl ?_
    refine z_callR C ([]) (fun v h => c_X7_cell l D T    v2 a.2 v h) ⟨rfl, rfl⟩ (z_cwS C 2 gX7_inkNow_X7_cell rfl dd_X7_cell ⟨(Nat.le_of_ble_eq_true rfl), (Nat.le_of_ble_eq_true rfl)⟩) (hD.zaddr rfl) [] rfl rfl (fun h => absurd h (by decide)) (fun _ => rfl) rfl (Nat.le_of_ble_eq_true rfl) dX7_inkNow_24 27 rfl h (fun r_1 h => ?_)
    refine z_istore C [(0, .ref (a0 99)), (1, .int a.1), (2, .int v2), (3, .int a.2), (4, .int r_1)] dX7_inkNow_27 (Nat.le_of_ble_eq_true rfl) [1, 2, 3, 4, 0] rfl 29 rfl ?_
    refine z_iload_n C dX7_inkNow_29 rfl 1 rfl 30 rfl ?_
    refine z_aload_n C dX7_inkNow_30 rfl 0 rfl 31 rfl ?_
    refine z_get C (in_X7_inkNow_X7) 0 rfl rfl 26 (by decide) (List.mem_of_getElem? (i := 3) rfl) rfl rfl dX7_inkNow_31 34 rfl ?_
    refine z_iload C dX7_inkNow_34 4 rfl 36 rfl ?_
    refine z_iald C 9 rfl rfl dX7_inkNow_36 37 rfl h (fun h => ?_)
    refine z_if_ge C 44 dX7_inkNow_37 (by decide) 40 rfl h (fun h => ?_) (fun h => ?_)
    · refine z_aload_n C dX7_inkNow_44 rfl 0 rfl 45 rfl ?_
      refine z_iload_n C dX7_inkNow_45 rfl 2 rfl 46 rfl ?_
      refine z_aload_n C dX7_inkNow_46 rfl 0 rfl 47 rfl ?_
      refine z_get C (in_X7_inkNow_X7) 0 rfl rfl 26 (by decide) (List.mem_of_getElem? (i := 3) rfl) rfl rfl dX7_inkNow_47 50 rfl ?_
      refine z_iload C dX7_inkNow_50 4 rfl 52 rfl ?_
      refine z_iald C 9 rfl rfl dX7_inkNow_52 53 rfl h (fun h => ?_)
      refine z_callR C (wX7 T a0 S0) (fun v h => c_X7_lengthOf l D T a0  S0 v2 (S0 26 (Int32.toNatClampNeg r_1)) v h) ⟨rfl, rfl⟩ (z_cwV C 2 gX7_inkNow_X7_lengthOf rfl rfl dd_X7_lengthOf ⟨(Nat.le_of_ble_eq_true rfl), (Nat.le_of_ble_eq_true rfl)⟩) (hD.zaddr rfl) [0, 1, 2, 3, 4, 5, 6, 7, 8, 9, 10, 11, 12, 13, 14, 15, 16, 17] rfl rfl (fun _ => ⟨a0 99, [.int v2, .int (S0 26 (Int32.toNatClampNeg r_1))], 6, 0, _, _, rfl, rfl, rfl, rfl, rfl⟩) (fun h => absurd rfl h) rfl (Nat.le_of_ble_eq_true rfl) dX7_inkNow_53 56 rfl h (fun r_2 h => ?_)
      refine z_aload_n C dX7_inkNow_56 rfl 0 rfl 57 rfl ?_
      refine z_get C (in_X7_inkNow_X7) 0 rfl rfl 3 (by decide) (List.mem_of_getElem? (i := 4) rfl) rfl rfl dX7_inkNow_57 60 rfl ?_
      refine z_aload_n C dX7_inkNow_60 rfl 0 rfl 61 rfl ?_
      refine z_get C (in_X7_inkNow_X7) 0 rfl rfl 27 (by decide) (List.mem_of_getElem? (i := 5) rfl) rfl rfl dX7_inkNow_61 64 rfl ?_
      refine z_iload C dX7_inkNow_64 4 rfl 66 rfl ?_
      refine z_iald C 10 rfl rfl dX7_inkNow_66 67 rfl h (fun h => ?_)
      refine z_iadd C dX7_inkNow_67 68 rfl ?_
      refine z_imul C dX7_inkNow_68 69 rfl ?_
      exact z_locals (ks := [0, 2, 3]) rfl (p_X7_inkNow_J69 C S0 a.2 a.1 (r_2 * ((S0 3 0) + (S0 27 (Int32.toNatClampNeg r_1)))) (hD.zaddr rfl) hrec K h)
    · refine z_iconst C 0 dX7_inkNow_40 (by decide) 41 rfl ?_
      refine z_goto C 69 dX7_inkNow_41 (by decide) ?_
      exact z_locals (ks := [0, 2, 3]) rfl (p_X7_inkNow_J69 C S0 a.2 a.1 0 (hD.zaddr rfl) hrec K h)

def f_X7_inkNow_L4b (S0 : Nat → Nat → Int32)  (rec : (Int32 × Int32) → Option (Int32)) (a : Int32 × Int32) : Option (Int32) := if (S0 1 0) < a.2 then (some a.1) else ((f_X7_inkNow_L14 S0 a.2 zfuel (a.1, 0)).bind fun y_4 => rec (y_4, (a.2 + 1)))
def f_X7_inkNow_L4 (S0 : Nat → Nat → Int32)  : Nat → (Int32 × Int32) → Option (Int32) := zloop (fun rec a => f_X7_inkNow_L4b S0 rec a)
set_option maxHeartbeats 4000000 in
set_option maxRecDepth 100000 in
theorem p_X7_inkNow_L4 (C : zC p R s m args meth c cX7_inkNow 5 RX7 wsX7_inkNow D T 1 22 0 0) (S0 : Nat → Nat → Int32)  (hD : va_D (fun _ => True) (wX7 T a0 S0)) : ∀ (n : Nat) (c0 : Int32) (c1 : Int32) (b : Int32), f_X7_inkNow_L4 S0 n (c0, c1) = some b → (zt p l e R s m args below meth c 5 A D 0 0 Q (wX7 T a0 S0) [(1, .int b)] 83 []) → zt p l e R s m args below meth c 5 A D 0 0 Q (wX7 T a0 S0) [(0, .ref (a0 99)), (1, .int c0), (2, .int c1)] 4 [] := by
  intro n c0 c1 b h K
  refine zloop_ind (P := fun a b => (zt p l e R s m args below meth c 5 A D 0 0 Q (wX7 T a0 S0) [(1, .int b)] 83 []) → zt p l e R s m args below meth c 5 A D 0 0 Q (wX7 T a0 S0) [(0, .ref (a0 99)), (1, .int a.1), (2, .int a.2)] 4 []) ?_ n (c0, c1) b h K
  clear h K b c0 c1
  intro rec hrec a b h K
  have hrec : ∀ (c0 : Int32) (c1 : Int32) (b : Int32), rec (c0, c1) = some b → (zt p l e R s m args below meth c 5 A D 0 0 Q (wX7 T a0 S0) [(1, .int b)] 83 []) → zt p l e R s m args below meth c 5 A D 0 0 Q (wX7 T a0 S0) [(0, .ref (a0 99)), (1, .int c0), (2, .int c1)] 4 [] := fun c0 c1 b h K => hrec (c0, c1) b h K
  unfold f_X7_inkNow_L4b at h
  refine z_iload_n C dX7_inkNow_4 rfl 2 rfl 5 rfl ?_
  refine z_aload_n C dX7_inkNow_5 rfl 0 rfl 6 rfl ?_
  refine z_get C (in_X7_inkNow_X7) 0 rfl rfl 1 (by decide) (List.mem_of_getElem? (i := 1) rfl) rfl rfl dX7_inkNow_6 9 rfl ?_
  refine z_icmp_gt C 83 dX7_inkNow_9 (by decide) 12 rfl h (fun h => ?_) (fun h => ?_)
  · refine z_locals (ks := [1]) (lv' := [(1, .int a.1)]) rfl ?_
    exact zex1 (F := (fun e0 => zt p l e R s m args below meth c 5 A D 0 0 Q (wX7 T a0 S0) [(1, .int e0)] 83 [])) h K
  · refine z_iconst C 0 dX7_inkNow_12 (by decide) 13 rfl ?_
    refine z_istore_n C [(0, .ref (a0 99)), (1, .int a.1), (2, .int a.2), (3, .int 0)] dX7_inkNow_13 rfl (Nat.le_of_ble_eq_true rfl) [1, 2, 3, 0] rfl 14 rfl ?_
    obtain ⟨y_4, hl_y_4, h⟩ := Option.bind_eq_some_iff.mp h
    refine z_locals (ks := [0, 1, 2, 3]) rfl (p_X7_inkNow_L14 C S0 a.2 (hD.zaddr rfl) _ _ _ _ hl_y_4 ?_)
    refine z_iinc C (a.2 + 1) [(0, .ref (a0 99)), (1, .int y_4), (2, .int (a.2 + 1))] dX7_inkNow_77 2 rfl rfl (Nat.le_of_ble_eq_true rfl) [1, 2, 0] rfl 80 rfl ?_
    refine z_goto C 4 dX7_inkNow_80 (by decide) ?_
    exact z_locals (ks := [0, 1, 2]) rfl (hrec _ _ _ h K)

def f_X7_inkNow (S0 : Nat → Nat → Int32)  : Option (Int32) := (f_X7_inkNow_L4 S0 zfuel (0, 1)).bind fun y_5 => some y_5
theorem dd_X7_inkNow : RX7 ≠ "java/lang/invoke/MethodHandle" ∧ RX7 ≠ "java/lang/invoke/VarHandle" ∧ (parseMethodDescriptor yX7_inkNow.desc).map (fun d => d.parameters.length) = some 0 := by decide +kernel
set_option maxHeartbeats 4000000 in
set_option maxRecDepth 100000 in
theorem c_X7_inkNow (l : Launch) (D : va_G) (T : Nat → ClassId) (a0 : Nat → Nat) (S0 : Nat → Nat → Int32)  (ex : Int32) (h : f_X7_inkNow S0 = some ex) : zRI l yX7_inkNow wsX7_inkNow ({ frames := 1, cells := 0, slots := 0, locals := 22 } : Room) D T [.ref (a0 99)] (wX7 T a0 S0) ex := by
  refine z_begin (cc := cX7_inkNow) (nL := 5) (own := RX7) (fr := 1) (lc := 22) (ret := some .int) (by decide) rfl (Nat.le_of_ble_eq_true rfl) (fun _ => False) rfl [(0, .ref (a0 99))] rfl ⟨rfl, rfl⟩ rfl ?_
  intro p e s m args below meth c C hr hD
  unfold f_X7_inkNow at h
  refine z_iconst C 0 dX7_inkNow_0 (by decide) 1 rfl ?_
  refine z_istore_n C [(0, .ref (a0 99)), (1, .int 0)] dX7_inkNow_1 rfl (Nat.le_of_ble_eq_true rfl) [1, 0] rfl 2 rfl ?_
  refine z_iconst C 1 dX7_inkNow_2 (by decide) 3 rfl ?_
  refine z_istore_n C [(0, .ref (a0 99)), (1, .int 0), (2, .int 1)] dX7_inkNow_3 rfl (Nat.le_of_ble_eq_true rfl) [1, 2, 0] rfl 4 rfl ?_
  obtain ⟨y_5, hl_y_5, h⟩ := Option.bind_eq_some_iff.mp h
  refine z_locals (ks := [0, 1, 2]) rfl (p_X7_inkNow_L4 C S0  (hD.zaddr rfl) _ _ _ _ hl_y_5 ?_)
  refine z_iload_n C dX7_inkNow_83 rfl 0 rfl 84 rfl ?_
  exact z_iretR C hr dX7_inkNow_84 h

end
/-! StreamTreeModel.isManner (I)Z -/
section
variable {p : Program} {l : Launch} {e : Env} {R : Room} {s : State} {m : MethodId} {args : Array Value} {below : List Frame} {meth : Method} {c : Code} {Q : State → Prop} {A : Nat → Prop} {D : va_G} {T : Nat → ClassId} {a0 : Nat → Nat}
def f_X7_isManner (S0 : Nat → Nat → Int32) (v1 : Int32) : Option (Int32) := (f_X7_within v1 1 4).bind fun r_1 => zbo r_1 (some r_1)
theorem dd_X7_isManner : RX7 ≠ "java/lang/invoke/MethodHandle" ∧ RX7 ≠ "java/lang/invoke/VarHandle" ∧ (parseMethodDescriptor yX7_isManner.desc).map (fun d => d.parameters.length) = some 1 := by decide +kernel
set_option maxHeartbeats 4000000 in
set_option maxRecDepth 100000 in
theorem c_X7_isManner (l : Launch) (D : va_G) (T : Nat → ClassId) (a0 : Nat → Nat) (S0 : Nat → Nat → Int32) (v1 : Int32) (ex : Int32) (h : f_X7_isManner S0 v1 = some ex) : zRI l yX7_isManner wsX7_isManner ({ frames := 1, cells := 0, slots := 0, locals := 22 } : Room) D T [.ref (a0 99), .int v1] (wX7 T a0 S0) ex := by
  refine z_begin (cc := cX7_isManner) (nL := 2) (own := RX7) (fr := 1) (lc := 22) (ret := some .boolean) (by decide) rfl (Nat.le_of_ble_eq_true rfl) (fun _ => False) rfl [(0, .ref (a0 99)), (1, .int v1)] rfl ⟨rfl, rfl⟩ rfl ?_
  intro p e s m args below meth c C hr hD
  unfold f_X7_isManner at h
  refine z_iload_n C dX7_isManner_0 rfl 1 rfl 1 rfl ?_
  refine z_iconst C 1 dX7_isManner_1 (by decide) 2 rfl ?_
  refine z_iconst C 4 dX7_isManner_2 (by decide) 3 rfl ?_
  refine z_callR C ([]) (fun v h => c_X7_within l D T    v1 1 4 v h) ⟨rfl, rfl⟩ (z_cwS C 3 gX7_isManner_X7_within rfl dd_X7_within ⟨(Nat.le_of_ble_eq_true rfl), (Nat.le_of_ble_eq_true rfl)⟩) (hD.zaddr rfl) [] rfl rfl (fun h => absurd h (by decide)) (fun _ => rfl) rfl (Nat.le_of_ble_eq_true rfl) dX7_isManner_3 6 rfl h (fun r_1 h => ?_)
  exact z_zretR C hr dX7_isManner_6 h

end
/-! StreamTreeModel.bends ()I -/
section
variable {p : Program} {l : Launch} {e : Env} {R : Room} {s : State} {m : MethodId} {args : Array Value} {below : List Frame} {meth : Method} {c : Code} {Q : State → Prop} {A : Nat → Prop} {D : va_G} {T : Nat → ClassId} {a0 : Nat → Nat}
theorem in_X7_bends_X7 : ∀ w ∈ u_ws RX7 TX7 35, w ∈ wsX7_bends := fun _ h => (List.mem_cons_of_mem _ (List.mem_append_right _ h))
def f_X7_bends_J32 (rec : (Int32 × Int32) → Option (Int32)) (S0 : Nat → Nat → Int32) (x2 : Int32) (k0 : Int32) (k1 : Int32) : Option (Int32) := zlet (k0 + k1) fun u_1 => rec (u_1, (x2 + 1))
set_option maxHeartbeats 4000000 in
set_option maxRecDepth 100000 in
theorem p_X7_bends_J32 (C : zC p R s m args meth c cX7_bends 3 RX7 wsX7_bends D T 0 0 0 0) (S0 : Nat → Nat → Int32)  (x2 : Int32) (k0 : Int32) (k1 : Int32) (hD : va_D (fun _ => True) (wX7 T a0 S0)) {rec : (Int32 × Int32) → Option (Int32)} (hrec : ∀ (c0 : Int32) (c1 : Int32) (b : Int32), rec (c0, c1) = some b → (zt p l e R s m args below meth c 3 A D 0 0 Q (wX7 T a0 S0) [(1, .int b)] 40 []) → zt p l e R s m args below meth c 3 A D 0 0 Q (wX7 T a0 S0) [(0, .ref (a0 99)), (1, .int c0), (2, .int c1)] 4 []) {b : Int32} (K : zt p l e R s m args below meth c 3 A D 0 0 Q (wX7 T a0 S0) [(1, .int b)] 40 []) (h : f_X7_bends_J32 rec S0 x2 k0 k1 = some b) : zt p l e R s m args below meth c 3 A D 0 0 Q (wX7 T a0 S0) [(0, .ref (a0 99)), (2, .int x2)] 32 [.int k1, .int k0] := by
  unfold f_X7_bends_J32 at h
  refine z_iadd C dX7_bends_32 33 rfl ?_
  refine z_top h (fun u_1 h => ?_)
  refine z_istore_n C [(0, .ref (a0 99)), (1, .int u_1), (2, .int x2)] dX7_bends_33 rfl (Nat.le_of_ble_eq_true rfl) [1, 0, 2] rfl 34 rfl ?_
  refine z_iinc C (x2 + 1) [(0, .ref (a0 99)), (1, .int u_1), (2, .int (x2 + 1))] dX7_bends_34 2 rfl rfl (Nat.le_of_ble_eq_true rfl) [1, 2, 0] rfl 37 rfl ?_
  refine z_goto C 4 dX7_bends_37 (by decide) ?_
  exact z_locals (ks := [0, 1, 2]) rfl (hrec _ _ _ h K)

def f_X7_bends_J31 (rec : (Int32 × Int32) → Option (Int32)) (S0 : Nat → Nat → Int32) (x2 : Int32) (k0 : Int32) : Option (Int32) := f_X7_bends_J32 rec S0 x2 k0 0
set_option maxHeartbeats 4000000 in
set_option maxRecDepth 100000 in
theorem p_X7_bends_J31 (C : zC p R s m args meth c cX7_bends 3 RX7 wsX7_bends D T 0 0 0 0) (S0 : Nat → Nat → Int32)  (x2 : Int32) (k0 : Int32) (hD : va_D (fun _ => True) (wX7 T a0 S0)) {rec : (Int32 × Int32) → Option (Int32)} (hrec : ∀ (c0 : Int32) (c1 : Int32) (b : Int32), rec (c0, c1) = some b → (zt p l e R s m args below meth c 3 A D 0 0 Q (wX7 T a0 S0) [(1, .int b)] 40 []) → zt p l e R s m args below meth c 3 A D 0 0 Q (wX7 T a0 S0) [(0, .ref (a0 99)), (1, .int c0), (2, .int c1)] 4 []) {b : Int32} (K : zt p l e R s m args below meth c 3 A D 0 0 Q (wX7 T a0 S0) [(1, .int b)] 40 []) (h : f_X7_bends_J31 rec S0 x2 k0 = some b) : zt p l e R s m args below meth c 3 A D 0 0 Q (wX7 T a0 S0) [(0, .ref (a0 99)), (2, .int x2)] 31 [.int k0] := by
  unfold f_X7_bends_J31 at h
  refine z_iconst C 0 dX7_bends_31 (by decide) 32 rfl ?_
  exact z_locals (ks := [0, 1]) rfl (p_X7_bends_J32 C S0 x2 k0 0 (hD.zaddr rfl) hrec K h)

def f_X7_bends_L4b (S0 : Nat → Nat → Int32)  (rec : (Int32 × Int32) → Option (Int32)) (a : Int32 × Int32) : Option (Int32) := if 240 ≤ a.2 then (some a.1) else (if a.2 < 48 then (f_X7_bends_J31 rec S0 a.2 a.1) else (zix a.2 240 fun _ => if (S0 26 (Int32.toNatClampNeg a.2)) ≤ 0 then (f_X7_bends_J31 rec S0 a.2 a.1) else (f_X7_bends_J32 rec S0 a.2 a.1 1)))
def f_X7_bends_L4 (S0 : Nat → Nat → Int32)  : Nat → (Int32 × Int32) → Option (Int32) := zloop (fun rec a => f_X7_bends_L4b S0 rec a)
set_option maxHeartbeats 4000000 in
set_option maxRecDepth 100000 in
theorem p_X7_bends_L4 (C : zC p R s m args meth c cX7_bends 3 RX7 wsX7_bends D T 0 0 0 0) (S0 : Nat → Nat → Int32)  (hD : va_D (fun _ => True) (wX7 T a0 S0)) : ∀ (n : Nat) (c0 : Int32) (c1 : Int32) (b : Int32), f_X7_bends_L4 S0 n (c0, c1) = some b → (zt p l e R s m args below meth c 3 A D 0 0 Q (wX7 T a0 S0) [(1, .int b)] 40 []) → zt p l e R s m args below meth c 3 A D 0 0 Q (wX7 T a0 S0) [(0, .ref (a0 99)), (1, .int c0), (2, .int c1)] 4 [] := by
  intro n c0 c1 b h K
  refine zloop_ind (P := fun a b => (zt p l e R s m args below meth c 3 A D 0 0 Q (wX7 T a0 S0) [(1, .int b)] 40 []) → zt p l e R s m args below meth c 3 A D 0 0 Q (wX7 T a0 S0) [(0, .ref (a0 99)), (1, .int a.1), (2, .int a.2)] 4 []) ?_ n (c0, c1) b h K
  clear h K b c0 c1
  intro rec hrec a b h K
  have hrec : ∀ (c0 : Int32) (c1 : Int32) (b : Int32), rec (c0, c1) = some b → (zt p l e R s m args below meth c 3 A D 0 0 Q (wX7 T a0 S0) [(1, .int b)] 40 []) → zt p l e R s m args below meth c 3 A D 0 0 Q (wX7 T a0 S0) [(0, .ref (a0 99)), (1, .int c0), (2, .int c1)] 4 [] := fun c0 c1 b h K => hrec (c0, c1) b h K
  unfold f_X7_bends_L4b at h
  refine z_iload_n C dX7_bends_4 rfl 2 rfl 5 rfl ?_
  refine z_sipush C 240 dX7_bends_5 (by decide) 8 rfl ?_
  refine z_icmp_ge C 40 dX7_bends_8 (by decide) 11 rfl h (fun h => ?_) (fun h => ?_)
  · refine z_locals (ks := [1]) (lv' := [(1, .int a.1)]) rfl ?_
    exact zex1 (F := (fun e0 => zt p l e R s m args below meth c 3 A D 0 0 Q (wX7 T a0 S0) [(1, .int e0)] 40 [])) h K
  · refine z_iload_n C dX7_bends_11 rfl 1 rfl 12 rfl ?_
    refine z_iload_n C dX7_bends_12 rfl 2 rfl 13 rfl ?_
    refine z_bipush C 48 dX7_bends_13 (by decide) 15 rfl ?_
    refine z_icmp_lt C 31 dX7_bends_15 (by decide) 18 rfl h (fun h => ?_) (fun h => ?_)
    · exact z_locals (ks := [0, 2]) rfl (p_X7_bends_J31 C S0 a.2 a.1 (hD.zaddr rfl) hrec K h)
    · refine z_aload_n C dX7_bends_18 rfl 0 rfl 19 rfl ?_
      refine z_get C (in_X7_bends_X7) 0 rfl rfl 26 (by decide) (List.mem_of_getElem? (i := 1) rfl) rfl rfl dX7_bends_19 22 rfl ?_
      refine z_iload_n C dX7_bends_22 rfl 2 rfl 23 rfl ?_
      refine z_iald C 9 rfl rfl dX7_bends_23 24 rfl h (fun h => ?_)
      refine z_if_le C 31 dX7_bends_24 (by decide) 27 rfl h (fun h => ?_) (fun h => ?_)
      · exact z_locals (ks := [0, 2]) rfl (p_X7_bends_J31 C S0 a.2 a.1 (hD.zaddr rfl) hrec K h)
      · refine z_iconst C 1 dX7_bends_27 (by decide) 28 rfl ?_
        refine z_goto C 32 dX7_bends_28 (by decide) ?_
        exact z_locals (ks := [0, 2]) rfl (p_X7_bends_J32 C S0 a.2 a.1 1 (hD.zaddr rfl) hrec K h)

def f_X7_bends (S0 : Nat → Nat → Int32)  : Option (Int32) := (f_X7_bends_L4 S0 zfuel (0, 0)).bind fun y_2 => some y_2
theorem dd_X7_bends : RX7 ≠ "java/lang/invoke/MethodHandle" ∧ RX7 ≠ "java/lang/invoke/VarHandle" ∧ (parseMethodDescriptor yX7_bends.desc).map (fun d => d.parameters.length) = some 0 := by decide +kernel
set_option maxHeartbeats 4000000 in
set_option maxRecDepth 100000 in
theorem c_X7_bends (l : Launch) (D : va_G) (T : Nat → ClassId) (a0 : Nat → Nat) (S0 : Nat → Nat → Int32)  (ex : Int32) (h : f_X7_bends S0 = some ex) : zRI l yX7_bends wsX7_bends ({ frames := 0, cells := 0, slots := 0, locals := 0 } : Room) D T [.ref (a0 99)] (wX7 T a0 S0) ex := by
  refine z_begin (cc := cX7_bends) (nL := 3) (own := RX7) (fr := 0) (lc := 0) (ret := some .int) (by decide) rfl (Nat.le_of_ble_eq_true rfl) (fun _ => False) rfl [(0, .ref (a0 99))] rfl ⟨rfl, rfl⟩ rfl ?_
  intro p e s m args below meth c C hr hD
  unfold f_X7_bends at h
  refine z_iconst C 0 dX7_bends_0 (by decide) 1 rfl ?_
  refine z_istore_n C [(0, .ref (a0 99)), (1, .int 0)] dX7_bends_1 rfl (Nat.le_of_ble_eq_true rfl) [1, 0] rfl 2 rfl ?_
  refine z_iconst C 0 dX7_bends_2 (by decide) 3 rfl ?_
  refine z_istore_n C [(0, .ref (a0 99)), (1, .int 0), (2, .int 0)] dX7_bends_3 rfl (Nat.le_of_ble_eq_true rfl) [1, 2, 0] rfl 4 rfl ?_
  obtain ⟨y_2, hl_y_2, h⟩ := Option.bind_eq_some_iff.mp h
  refine z_locals (ks := [0, 1, 2]) rfl (p_X7_bends_L4 C S0  (hD.zaddr rfl) _ _ _ _ hl_y_2 ?_)
  refine z_iload_n C dX7_bends_40 rfl 0 rfl 41 rfl ?_
  exact z_iretR C hr dX7_bends_41 h

end
/-! StreamTreeModel.across ()I -/
section
variable {p : Program} {l : Launch} {e : Env} {R : Room} {s : State} {m : MethodId} {args : Array Value} {below : List Frame} {meth : Method} {c : Code} {Q : State → Prop} {A : Nat → Prop} {D : va_G} {T : Nat → ClassId} {a0 : Nat → Nat}
theorem in_X7_across_X7 : ∀ w ∈ u_ws RX7 TX7 35, w ∈ wsX7_across := fun _ h => (List.mem_cons_of_mem _ (List.mem_append_right _ h))
def f_X7_across_J62 (rec : (Int32 × Int32) → Option (Int32)) (S0 : Nat → Nat → Int32) (v2 : Int32) (x3 : Int32) (k0 : Int32) (k1 : Int32) : Option (Int32) := zlet (k0 + k1) fun u_2 => rec (u_2, (x3 + 1))
set_option maxHeartbeats 4000000 in
set_option maxRecDepth 100000 in
theorem p_X7_across_J62 (C : zC p R s m args meth c cX7_across 4 RX7 wsX7_across D T 1 21 0 0) (S0 : Nat → Nat → Int32) {v2 : Int32} (x3 : Int32) (k0 : Int32) (k1 : Int32) (hD : va_D (fun _ => True) (wX7 T a0 S0)) {rec : (Int32 × Int32) → Option (Int32)} (hrec : ∀ (c0 : Int32) (c1 : Int32) (b : Int32), rec (c0, c1) = some b → (zt p l e R s m args below meth c 4 A D 0 0 Q (wX7 T a0 S0) [(0, .ref (a0 99)), (1, .int b), (2, .int v2)] 70 []) → zt p l e R s m args below meth c 4 A D 0 0 Q (wX7 T a0 S0) [(0, .ref (a0 99)), (1, .int c0), (2, .int v2), (3, .int c1)] 14 []) {b : Int32} (K : zt p l e R s m args below meth c 4 A D 0 0 Q (wX7 T a0 S0) [(0, .ref (a0 99)), (1, .int b), (2, .int v2)] 70 []) (h : f_X7_across_J62 rec S0 v2 x3 k0 k1 = some b) : zt p l e R s m args below meth c 4 A D 0 0 Q (wX7 T a0 S0) [(0, .ref (a0 99)), (2, .int v2), (3, .int x3)] 62 [.int k1, .int k0] := by
  unfold f_X7_across_J62 at h
  refine z_iadd C dX7_across_62 63 rfl ?_
  refine z_top h (fun u_2 h => ?_)
  refine z_istore_n C [(0, .ref (a0 99)), (1, .int u_2), (2, .int v2), (3, .int x3)] dX7_across_63 rfl (Nat.le_of_ble_eq_true rfl) [1, 0, 2, 3] rfl 64 rfl ?_
  refine z_iinc C (x3 + 1) [(0, .ref (a0 99)), (1, .int u_2), (2, .int v2), (3, .int (x3 + 1))] dX7_across_64 3 rfl rfl (Nat.le_of_ble_eq_true rfl) [1, 2, 3, 0] rfl 67 rfl ?_
  refine z_goto C 14 dX7_across_67 (by decide) ?_
  exact z_locals (ks := [0, 1, 2, 3]) rfl (hrec _ _ _ h K)

def f_X7_across_J61 (rec : (Int32 × Int32) → Option (Int32)) (S0 : Nat → Nat → Int32) (v2 : Int32) (x3 : Int32) (k0 : Int32) : Option (Int32) := f_X7_across_J62 rec S0 v2 x3 k0 0
set_option maxHeartbeats 4000000 in
set_option maxRecDepth 100000 in
theorem p_X7_across_J61 (C : zC p R s m args meth c cX7_across 4 RX7 wsX7_across D T 1 21 0 0) (S0 : Nat → Nat → Int32) {v2 : Int32} (x3 : Int32) (k0 : Int32) (hD : va_D (fun _ => True) (wX7 T a0 S0)) {rec : (Int32 × Int32) → Option (Int32)} (hrec : ∀ (c0 : Int32) (c1 : Int32) (b : Int32), rec (c0, c1) = some b → (zt p l e R s m args below meth c 4 A D 0 0 Q (wX7 T a0 S0) [(0, .ref (a0 99)), (1, .int b), (2, .int v2)] 70 []) → zt p l e R s m args below meth c 4 A D 0 0 Q (wX7 T a0 S0) [(0, .ref (a0 99)), (1, .int c0), (2, .int v2), (3, .int c1)] 14 []) {b : Int32} (K : zt p l e R s m args below meth c 4 A D 0 0 Q (wX7 T a0 S0) [(0, .ref (a0 99)), (1, .int b), (2, .int v2)] 70 []) (h : f_X7_across_J61 rec S0 v2 x3 k0 = some b) : zt p l e R s m args below meth c 4 A D 0 0 Q (wX7 T a0 S0) [(0, .ref (a0 99)), (2, .int v2), (3, .int x3)] 61 [.int k0] := by
  unfold f_X7_across_J61 at h
  refine z_iconst C 0 dX7_across_61 (by decide) 62 rfl ?_
  exact z_locals (ks := [0, 1, 2]) rfl (p_X7_across_J62 C S0 x3 k0 0 (hD.zaddr rfl) hrec K h)

def f_X7_across_L14b (S0 : Nat → Nat → Int32) (v2 : Int32) (rec : (Int32 × Int32) → Option (Int32)) (a : Int32 × Int32) : Option (Int32) := if (S0 2 0) ≤ a.2 then (some a.1) else ((f_X7_cell v2 a.2).bind fun r_1 => zix r_1 240 fun _ => if (S0 26 (Int32.toNatClampNeg r_1)) = 2 then ((f_X7_around S0 (a.2 + 1)).bind fun r_3 => (f_X7_cell v2 r_3).bind fun r_4 => zix r_4 240 fun _ => if (S0 26 (Int32.toNatClampNeg r_4)) = 1 then (f_X7_across_J62 rec S0 v2 a.2 a.1 1) else (f_X7_across_J61 rec S0 v2 a.2 a.1)) else (f_X7_across_J61 rec S0 v2 a.2 a.1))
def f_X7_across_L14 (S0 : Nat → Nat → Int32) (v2 : Int32) : Nat → (Int32 × Int32) → Option (Int32) := zloop (fun rec a => f_X7_across_L14b S0 v2 rec a)
set_option maxHeartbeats 4000000 in
set_option maxRecDepth 100000 in
theorem p_X7_across_L14 (C : zC p R s m args meth c cX7_across 4 RX7 wsX7_across D T 1 21 0 0) (S0 : Nat → Nat → Int32) (v2 : Int32) (hD : va_D (fun _ => True) (wX7 T a0 S0)) : ∀ (n : Nat) (c0 : Int32) (c1 : Int32) (b : Int32), f_X7_across_L14 S0 v2 n (c0, c1) = some b → (zt p l e R s m args below meth c 4 A D 0 0 Q (wX7 T a0 S0) [(0, .ref (a0 99)), (1, .int b), (2, .int v2)] 70 []) → zt p l e R s m args below meth c 4 A D 0 0 Q (wX7 T a0 S0) [(0, .ref (a0 99)), (1, .int c0), (2, .int v2), (3, .int c1)] 14 [] := by
  intro n c0 c1 b h K
  refine zloop_ind (P := fun a b => (zt p l e R s m args below meth c 4 A D 0 0 Q (wX7 T a0 S0) [(0, .ref (a0 99)), (1, .int b), (2, .int v2)] 70 []) → zt p l e R s m args below meth c 4 A D 0 0 Q (wX7 T a0 S0) [(0, .ref (a0 99)), (1, .int a.1), (2, .int v2), (3, .int a.2)] 14 []) ?_ n (c0, c1) b h K
  clear h K b c0 c1
  intro rec hrec a b h K
  have hrec : ∀ (c0 : Int32) (c1 : Int32) (b : Int32), rec (c0, c1) = some b → (zt p l e R s m args below meth c 4 A D 0 0 Q (wX7 T a0 S0) [(0, .ref (a0 99)), (1, .int b), (2, .int v2)] 70 []) → zt p l e R s m args below meth c 4 A D 0 0 Q (wX7 T a0 S0) [(0, .ref (a0 99)), (1, .int c0), (2, .int v2), (3, .int c1)] 14 [] := fun c0 c1 b h K => hrec (c0, c1) b h K
  unfold f_X7_across_L14b at h
  refine z_iload_n C dX7_across_14 rfl 3 rfl 15 rfl ?_
  refine z_aload_n C dX7_across_15 rfl 0 rfl 16 rfl ?_
  refine z_get C (in_X7_across_X7) 0 rfl rfl 2 (by decide) (List.mem_of_getElem? (i := 2) rfl) rfl rfl dX7_across_16 19 rfl ?_
  refine z_icmp_ge C 70 dX7_across_19 (by decide) 22 rfl h (fun h => ?_) (fun h => ?_)
  · refine z_locals (ks := [0, 1, 2]) (lv' := [(0, .ref (a0 99)), (1, .int a.1), (2, .int v2)]) rfl ?_
    exact zex1 (F := (fun e0 => zt p l e R s m args below meth c 4 A D 0 0 Q (wX7 T a0 S0) [(0, .ref (a0 99)), (1, .int e0), (2, .int v2)] 70 [])) h K
  · refine z_iload_n C dX7_across_22 rfl 1 rfl 23 rfl ?_
    refine z_aload_n C dX7_across_23 rfl 0 rfl 24 rfl ?_
    refine z_get C (in_X7_across_X7) 0 rfl rfl 26 (by decide) (List.mem_of_getElem? (i := 3) rfl) rfl rfl dX7_across_24 27 rfl ?_
    refine z_iload_n C dX7_across_27 rfl 2 rfl 28 rfl ?_
    refine z_iload_n C dX7_across_28 rfl 3 rfl 29 rfl ?_
    refine z_callR C ([]) (fun v h => c_X7_cell l D T    v2 a.2 v h) ⟨rfl, rfl⟩ (z_cwS C 2 gX7_across_X7_cell rfl dd_X7_cell ⟨(Nat.le_of_ble_eq_true rfl), (Nat.le_of_ble_eq_true rfl)⟩) (hD.zaddr rfl) [] rfl rfl (fun h => absurd h (by decide)) (fun _ => rfl) rfl (Nat.le_of_ble_eq_true rfl) dX7_across_29 32 rfl h (fun r_1 h => ?_)
    refine z_iald C 9 rfl rfl dX7_across_32 33 rfl h (fun h => ?_)
    refine z_iconst C 2 dX7_across_33 (by decide) 34 rfl ?_
    refine z_icmp_ne C 61 dX7_across_34 (by decide) 37 rfl h (fun h => ?_) (fun h => ?_)
    · exact z_locals (ks := [0, 2, 3]) rfl (p_X7_across_J61 C S0 a.2 a.1 (hD.zaddr rfl) hrec K h)
    · refine z_aload_n C dX7_across_37 rfl 0 rfl 38 rfl ?_
      refine z_get C (in_X7_across_X7) 0 rfl rfl 26 (by decide) (List.mem_of_getElem? (i := 3) rfl) rfl rfl dX7_across_38 41 rfl ?_
      refine z_iload_n C dX7_across_41 rfl 2 rfl 42 rfl ?_
      refine z_aload_n C dX7_across_42 rfl 0 rfl 43 rfl ?_
      refine z_iload_n C dX7_across_43 rfl 3 rfl 44 rfl ?_
      refine z_iconst C 1 dX7_across_44 (by decide) 45 rfl ?_
      refine z_iadd C dX7_across_45 46 rfl ?_
      refine z_callR C (wX7 T a0 S0) (fun v h => c_X7_around l D T a0  S0 (a.2 + 1) v h) ⟨rfl, rfl⟩ (z_cwV C 1 gX7_across_X7_around rfl rfl dd_X7_around ⟨(Nat.le_of_ble_eq_true rfl), (Nat.le_of_ble_eq_true rfl)⟩) (hD.zaddr rfl) [0, 1, 2, 3, 4, 5, 6, 7, 8, 9, 10, 11, 12, 13, 14, 15, 16, 17] rfl rfl (fun _ => ⟨a0 99, [.int (a.2 + 1)], 6, 0, _, _, rfl, rfl, rfl, rfl, rfl⟩) (fun h => absurd rfl h) rfl (Nat.le_of_ble_eq_true rfl) dX7_across_46 49 rfl h (fun r_3 h => ?_)
      refine z_callR C ([]) (fun v h => c_X7_cell l D T    v2 r_3 v h) ⟨rfl, rfl⟩ (z_cwS C 2 gX7_across_X7_cell rfl dd_X7_cell ⟨(Nat.le_of_ble_eq_true rfl), (Nat.le_of_ble_eq_true rfl)⟩) (hD.zaddr rfl) [] rfl rfl (fun h => absurd h (by decide)) (fun _ => rfl) rfl (Nat.le_of_ble_eq_true rfl) dX7_across_49 52 rfl h (fun r_4 h => ?_)
      refine z_iald C 9 rfl rfl dX7_across_52 53 rfl h (fun h => ?_)
      refine z_iconst C 1 dX7_across_53 (by decide) 54 rfl ?_
      refine z_icmp_ne C 61 dX7_across_54 (by decide) 57 rfl h (fun h => ?_) (fun h => ?_)
      · exact z_locals (ks := [0, 2, 3]) rfl (p_X7_across_J61 C S0 a.2 a.1 (hD.zaddr rfl) hrec K h)
      · refine z_iconst C 1 dX7_across_57 (by decide) 58 rfl ?_
        refine z_goto C 62 dX7_across_58 (by decide) ?_
        exact z_locals (ks := [0, 2, 3]) rfl (p_X7_across_J62 C S0 a.2 a.1 1 (hD.zaddr rfl) hrec K h)

def f_X7_across_L4b (S0 : Nat → Nat → Int32)  (rec : (Int32 × Int32) → Option (Int32)) (a : Int32 × Int32) : Option (Int32) := if (S0 1 0) < a.2 then (some a.1) else ((f_X7_across_L14 S0 a.2 zfuel (a.1, 0)).bind fun y_5 => rec (y_5, (a.2 + 1)))
def f_X7_across_L4 (S0 : Nat → Nat → Int32)  : Nat → (Int32 × Int32) → Option (Int32) := zloop (fun rec a => f_X7_across_L4b S0 rec a)
set_option maxHeartbeats 4000000 in
set_option maxRecDepth 100000 in
theorem p_X7_across_L4 (C : zC p R s m args meth c cX7_across 4 RX7 wsX7_across D T 1 21 0 0) (S0 : Nat → Nat → Int32)  (hD : va_D (fun _ => True) (wX7 T a0 S0)) : ∀ (n : Nat) (c0 : Int32) (c1 : Int32) (b : Int32), f_X7_across_L4 S0 n (c0, c1) = some b → (zt p l e R s m args below meth c 4 A D 0 0 Q (wX7 T a0 S0) [(1, .int b)] 76 []) → zt p l e R s m args below meth c 4 A D 0 0 Q (wX7 T a0 S0) [(0, .ref (a0 99)), (1, .int c0), (2, .int c1)] 4 [] := by
  intro n c0 c1 b h K
  refine zloop_ind (P := fun a b => (zt p l e R s m args below meth c 4 A D 0 0 Q (wX7 T a0 S0) [(1, .int b)] 76 []) → zt p l e R s m args below meth c 4 A D 0 0 Q (wX7 T a0 S0) [(0, .ref (a0 99)), (1, .int a.1), (2, .int a.2)] 4 []) ?_ n (c0, c1) b h K
  clear h K b c0 c1
  intro rec hrec a b h K
  have hrec : ∀ (c0 : Int32) (c1 : Int32) (b : Int32), rec (c0, c1) = some b → (zt p l e R s m args below meth c 4 A D 0 0 Q (wX7 T a0 S0) [(1, .int b)] 76 []) → zt p l e R s m args below meth c 4 A D 0 0 Q (wX7 T a0 S0) [(0, .ref (a0 99)), (1, .int c0), (2, .int c1)] 4 [] := fun c0 c1 b h K => hrec (c0, c1) b h K
  unfold f_X7_across_L4b at h
  refine z_iload_n C dX7_across_4 rfl 2 rfl 5 rfl ?_
  refine z_aload_n C dX7_across_5 rfl 0 rfl 6 rfl ?_
  refine z_get C (in_X7_across_X7) 0 rfl rfl 1 (by decide) (List.mem_of_getElem? (i := 1) rfl) rfl rfl dX7_across_6 9 rfl ?_
  refine z_icmp_gt C 76 dX7_across_9 (by decide) 12 rfl h (fun h => ?_) (fun h => ?_)
  · refine z_locals (ks := [1]) (lv' := [(1, .int a.1)]) rfl ?_
    exact zex1 (F := (fun e0 => zt p l e R s m args below meth c 4 A D 0 0 Q (wX7 T a0 S0) [(1, .int e0)] 76 [])) h K
  · refine z_iconst C 0 dX7_across_12 (by decide) 13 rfl ?_
    refine z_istore_n C [(0, .ref (a0 99)), (1, .int a.1), (2, .int a.2), (3, .int 0)] dX7_across_13 rfl (Nat.le_of_ble_eq_true rfl) [1, 2, 3, 0] rfl 14 rfl ?_
    obtain ⟨y_5, hl_y_5, h⟩ := Option.bind_eq_some_iff.mp h
    refine z_locals (ks := [0, 1, 2, 3]) rfl (p_X7_across_L14 C S0 a.2 (hD.zaddr rfl) _ _ _ _ hl_y_5 ?_)
    refine z_iinc C (a.2 + 1) [(0, .ref (a0 99)), (1, .int y_5), (2, .int (a.2 + 1))] dX7_across_70 2 rfl rfl (Nat.le_of_ble_eq_true rfl) [1, 2, 0] rfl 73 rfl ?_
    refine z_goto C 4 dX7_across_73 (by decide) ?_
    exact z_locals (ks := [0, 1, 2]) rfl (hrec _ _ _ h K)

def f_X7_across (S0 : Nat → Nat → Int32)  : Option (Int32) := (f_X7_across_L4 S0 zfuel (0, 2)).bind fun y_6 => some y_6
theorem dd_X7_across : RX7 ≠ "java/lang/invoke/MethodHandle" ∧ RX7 ≠ "java/lang/invoke/VarHandle" ∧ (parseMethodDescriptor yX7_across.desc).map (fun d => d.parameters.length) = some 0 := by decide +kernel
set_option maxHeartbeats 4000000 in
set_option maxRecDepth 100000 in
theorem c_X7_across (l : Launch) (D : va_G) (T : Nat → ClassId) (a0 : Nat → Nat) (S0 : Nat → Nat → Int32)  (ex : Int32) (h : f_X7_across S0 = some ex) : zRI l yX7_across wsX7_across ({ frames := 1, cells := 0, slots := 0, locals := 21 } : Room) D T [.ref (a0 99)] (wX7 T a0 S0) ex := by
  refine z_begin (cc := cX7_across) (nL := 4) (own := RX7) (fr := 1) (lc := 21) (ret := some .int) (by decide) rfl (Nat.le_of_ble_eq_true rfl) (fun _ => False) rfl [(0, .ref (a0 99))] rfl ⟨rfl, rfl⟩ rfl ?_
  intro p e s m args below meth c C hr hD
  unfold f_X7_across at h
  refine z_iconst C 0 dX7_across_0 (by decide) 1 rfl ?_
  refine z_istore_n C [(0, .ref (a0 99)), (1, .int 0)] dX7_across_1 rfl (Nat.le_of_ble_eq_true rfl) [1, 0] rfl 2 rfl ?_
  refine z_iconst C 2 dX7_across_2 (by decide) 3 rfl ?_
  refine z_istore_n C [(0, .ref (a0 99)), (1, .int 0), (2, .int 2)] dX7_across_3 rfl (Nat.le_of_ble_eq_true rfl) [1, 2, 0] rfl 4 rfl ?_
  obtain ⟨y_6, hl_y_6, h⟩ := Option.bind_eq_some_iff.mp h
  refine z_locals (ks := [0, 1, 2]) rfl (p_X7_across_L4 C S0  (hD.zaddr rfl) _ _ _ _ hl_y_6 ?_)
  refine z_iload_n C dX7_across_76 rfl 0 rfl 77 rfl ?_
  exact z_iretR C hr dX7_across_77 h

end
/-! StreamTreeModel.stepMany ()I -/
section
variable {p : Program} {l : Launch} {e : Env} {R : Room} {s : State} {m : MethodId} {args : Array Value} {below : List Frame} {meth : Method} {c : Code} {Q : State → Prop} {A : Nat → Prop} {D : va_G} {T : Nat → ClassId} {a0 : Nat → Nat}
theorem in_X7_stepMany_X7 : ∀ w ∈ u_ws RX7 TX7 35, w ∈ wsX7_stepMany := fun _ h => (List.mem_cons_of_mem _ (List.mem_append_right _ h))
def f_X7_stepMany_J26 (rec : (Int32 × Int32) → Option (Int32)) (S0 : Nat → Nat → Int32) (x2 : Int32) (k0 : Int32) (k1 : Int32) : Option (Int32) := zlet (k0 + k1) fun u_1 => rec (u_1, (x2 + 1))
set_option maxHeartbeats 4000000 in
set_option maxRecDepth 100000 in
theorem p_X7_stepMany_J26 (C : zC p R s m args meth c cX7_stepMany 3 RX7 wsX7_stepMany D T 0 0 0 0) (S0 : Nat → Nat → Int32)  (x2 : Int32) (k0 : Int32) (k1 : Int32) (hD : va_D (fun _ => True) (wX7 T a0 S0)) {rec : (Int32 × Int32) → Option (Int32)} (hrec : ∀ (c0 : Int32) (c1 : Int32) (b : Int32), rec (c0, c1) = some b → (zt p l e R s m args below meth c 3 A D 0 0 Q (wX7 T a0 S0) [(1, .int b)] 34 []) → zt p l e R s m args below meth c 3 A D 0 0 Q (wX7 T a0 S0) [(0, .ref (a0 99)), (1, .int c0), (2, .int c1)] 4 []) {b : Int32} (K : zt p l e R s m args below meth c 3 A D 0 0 Q (wX7 T a0 S0) [(1, .int b)] 34 []) (h : f_X7_stepMany_J26 rec S0 x2 k0 k1 = some b) : zt p l e R s m args below meth c 3 A D 0 0 Q (wX7 T a0 S0) [(0, .ref (a0 99)), (2, .int x2)] 26 [.int k1, .int k0] := by
  unfold f_X7_stepMany_J26 at h
  refine z_iadd C dX7_stepMany_26 27 rfl ?_
  refine z_top h (fun u_1 h => ?_)
  refine z_istore_n C [(0, .ref (a0 99)), (1, .int u_1), (2, .int x2)] dX7_stepMany_27 rfl (Nat.le_of_ble_eq_true rfl) [1, 0, 2] rfl 28 rfl ?_
  refine z_iinc C (x2 + 1) [(0, .ref (a0 99)), (1, .int u_1), (2, .int (x2 + 1))] dX7_stepMany_28 2 rfl rfl (Nat.le_of_ble_eq_true rfl) [1, 2, 0] rfl 31 rfl ?_
  refine z_goto C 4 dX7_stepMany_31 (by decide) ?_
  exact z_locals (ks := [0, 1, 2]) rfl (hrec _ _ _ h K)

def f_X7_stepMany_L4b (S0 : Nat → Nat → Int32)  (rec : (Int32 × Int32) → Option (Int32)) (a : Int32 × Int32) : Option (Int32) := if 240 ≤ a.2 then (some a.1) else (zix a.2 240 fun _ => if (S0 26 (Int32.toNatClampNeg a.2)) < 0 then (f_X7_stepMany_J26 rec S0 a.2 a.1 0) else (f_X7_stepMany_J26 rec S0 a.2 a.1 1))
def f_X7_stepMany_L4 (S0 : Nat → Nat → Int32)  : Nat → (Int32 × Int32) → Option (Int32) := zloop (fun rec a => f_X7_stepMany_L4b S0 rec a)
set_option maxHeartbeats 4000000 in
set_option maxRecDepth 100000 in
theorem p_X7_stepMany_L4 (C : zC p R s m args meth c cX7_stepMany 3 RX7 wsX7_stepMany D T 0 0 0 0) (S0 : Nat → Nat → Int32)  (hD : va_D (fun _ => True) (wX7 T a0 S0)) : ∀ (n : Nat) (c0 : Int32) (c1 : Int32) (b : Int32), f_X7_stepMany_L4 S0 n (c0, c1) = some b → (zt p l e R s m args below meth c 3 A D 0 0 Q (wX7 T a0 S0) [(1, .int b)] 34 []) → zt p l e R s m args below meth c 3 A D 0 0 Q (wX7 T a0 S0) [(0, .ref (a0 99)), (1, .int c0), (2, .int c1)] 4 [] := by
  intro n c0 c1 b h K
  refine zloop_ind (P := fun a b => (zt p l e R s m args below meth c 3 A D 0 0 Q (wX7 T a0 S0) [(1, .int b)] 34 []) → zt p l e R s m args below meth c 3 A D 0 0 Q (wX7 T a0 S0) [(0, .ref (a0 99)), (1, .int a.1), (2, .int a.2)] 4 []) ?_ n (c0, c1) b h K
  clear h K b c0 c1
  intro rec hrec a b h K
  have hrec : ∀ (c0 : Int32) (c1 : Int32) (b : Int32), rec (c0, c1) = some b → (zt p l e R s m args below meth c 3 A D 0 0 Q (wX7 T a0 S0) [(1, .int b)] 34 []) → zt p l e R s m args below meth c 3 A D 0 0 Q (wX7 T a0 S0) [(0, .ref (a0 99)), (1, .int c0), (2, .int c1)] 4 [] := fun c0 c1 b h K => hrec (c0, c1) b h K
  unfold f_X7_stepMany_L4b at h
  refine z_iload_n C dX7_stepMany_4 rfl 2 rfl 5 rfl ?_
  refine z_sipush C 240 dX7_stepMany_5 (by decide) 8 rfl ?_
  refine z_icmp_ge C 34 dX7_stepMany_8 (by decide) 11 rfl h (fun h => ?_) (fun h => ?_)
  · refine z_locals (ks := [1]) (lv' := [(1, .int a.1)]) rfl ?_
    exact zex1 (F := (fun e0 => zt p l e R s m args below meth c 3 A D 0 0 Q (wX7 T a0 S0) [(1, .int e0)] 34 [])) h K
  · refine z_iload_n C dX7_stepMany_11 rfl 1 rfl 12 rfl ?_
    refine z_aload_n C dX7_stepMany_12 rfl 0 rfl 13 rfl ?_
    refine z_get C (in_X7_stepMany_X7) 0 rfl rfl 26 (by decide) (List.mem_of_getElem? (i := 1) rfl) rfl rfl dX7_stepMany_13 16 rfl ?_
    refine z_iload_n C dX7_stepMany_16 rfl 2 rfl 17 rfl ?_
    refine z_iald C 9 rfl rfl dX7_stepMany_17 18 rfl h (fun h => ?_)
    refine z_if_lt C 25 dX7_stepMany_18 (by decide) 21 rfl h (fun h => ?_) (fun h => ?_)
    · refine z_iconst C 0 dX7_stepMany_25 (by decide) 26 rfl ?_
      exact z_locals (ks := [0, 2]) rfl (p_X7_stepMany_J26 C S0 a.2 a.1 0 (hD.zaddr rfl) hrec K h)
    · refine z_iconst C 1 dX7_stepMany_21 (by decide) 22 rfl ?_
      refine z_goto C 26 dX7_stepMany_22 (by decide) ?_
      exact z_locals (ks := [0, 2]) rfl (p_X7_stepMany_J26 C S0 a.2 a.1 1 (hD.zaddr rfl) hrec K h)

def f_X7_stepMany (S0 : Nat → Nat → Int32)  : Option (Int32) := (f_X7_stepMany_L4 S0 zfuel (0, 0)).bind fun y_2 => some y_2
theorem dd_X7_stepMany : RX7 ≠ "java/lang/invoke/MethodHandle" ∧ RX7 ≠ "java/lang/invoke/VarHandle" ∧ (parseMethodDescriptor yX7_stepMany.desc).map (fun d => d.parameters.length) = some 0 := by decide +kernel
set_option maxHeartbeats 4000000 in
set_option maxRecDepth 100000 in
theorem c_X7_stepMany (l : Launch) (D : va_G) (T : Nat → ClassId) (a0 : Nat → Nat) (S0 : Nat → Nat → Int32)  (ex : Int32) (h : f_X7_stepMany S0 = some ex) : zRI l yX7_stepMany wsX7_stepMany ({ frames := 0, cells := 0, slots := 0, locals := 0 } : Room) D T [.ref (a0 99)] (wX7 T a0 S0) ex := by
  refine z_begin (cc := cX7_stepMany) (nL := 3) (own := RX7) (fr := 0) (lc := 0) (ret := some .int) (by decide) rfl (Nat.le_of_ble_eq_true rfl) (fun _ => False) rfl [(0, .ref (a0 99))] rfl ⟨rfl, rfl⟩ rfl ?_
  intro p e s m args below meth c C hr hD
  unfold f_X7_stepMany at h
  refine z_iconst C 0 dX7_stepMany_0 (by decide) 1 rfl ?_
  refine z_istore_n C [(0, .ref (a0 99)), (1, .int 0)] dX7_stepMany_1 rfl (Nat.le_of_ble_eq_true rfl) [1, 0] rfl 2 rfl ?_
  refine z_iconst C 0 dX7_stepMany_2 (by decide) 3 rfl ?_
  refine z_istore_n C [(0, .ref (a0 99)), (1, .int 0), (2, .int 0)] dX7_stepMany_3 rfl (Nat.le_of_ble_eq_true rfl) [1, 2, 0] rfl 4 rfl ?_
  obtain ⟨y_2, hl_y_2, h⟩ := Option.bind_eq_some_iff.mp h
  refine z_locals (ks := [0, 1, 2]) rfl (p_X7_stepMany_L4 C S0  (hD.zaddr rfl) _ _ _ _ hl_y_2 ?_)
  refine z_iload_n C dX7_stepMany_34 rfl 0 rfl 35 rfl ?_
  exact z_iretR C hr dX7_stepMany_35 h

end
/-! StreamTreeModel.fullest ()I -/
section
variable {p : Program} {l : Launch} {e : Env} {R : Room} {s : State} {m : MethodId} {args : Array Value} {below : List Frame} {meth : Method} {c : Code} {Q : State → Prop} {A : Nat → Prop} {D : va_G} {T : Nat → ClassId} {a0 : Nat → Nat}
theorem in_X7_fullest_X7 : ∀ w ∈ u_ws RX7 TX7 35, w ∈ wsX7_fullest := fun _ h => (List.mem_cons_of_mem _ (List.mem_append_right _ h))
def f_X7_fullest_J46 (rec : (Int32 × Int32) → Option (Int32)) (S0 : Nat → Nat → Int32) (v1 : Int32) (v2 : Int32) (x4 : Int32) (k0 : Int32) (k1 : Int32) : Option (Int32) := zlet (k0 + k1) fun u_2 => rec (u_2, (x4 + 1))
set_option maxHeartbeats 4000000 in
set_option maxRecDepth 100000 in
theorem p_X7_fullest_J46 (C : zC p R s m args meth c cX7_fullest 5 RX7 wsX7_fullest D T 1 21 0 0) (S0 : Nat → Nat → Int32) {v1 : Int32} {v2 : Int32} (x4 : Int32) (k0 : Int32) (k1 : Int32) (hD : va_D (fun _ => True) (wX7 T a0 S0)) {rec : (Int32 × Int32) → Option (Int32)} (hrec : ∀ (c0 : Int32) (c1 : Int32) (b : Int32), rec (c0, c1) = some b → (zt p l e R s m args below meth c 5 A D 0 0 Q (wX7 T a0 S0) [(0, .ref (a0 99)), (1, .int v1), (2, .int v2), (3, .int b)] 54 []) → zt p l e R s m args below meth c 5 A D 0 0 Q (wX7 T a0 S0) [(0, .ref (a0 99)), (1, .int v1), (2, .int v2), (3, .int c0), (4, .int c1)] 17 []) {b : Int32} (K : zt p l e R s m args below meth c 5 A D 0 0 Q (wX7 T a0 S0) [(0, .ref (a0 99)), (1, .int v1), (2, .int v2), (3, .int b)] 54 []) (h : f_X7_fullest_J46 rec S0 v1 v2 x4 k0 k1 = some b) : zt p l e R s m args below meth c 5 A D 0 0 Q (wX7 T a0 S0) [(0, .ref (a0 99)), (1, .int v1), (2, .int v2), (4, .int x4)] 46 [.int k1, .int k0] := by
  unfold f_X7_fullest_J46 at h
  refine z_iadd C dX7_fullest_46 47 rfl ?_
  refine z_top h (fun u_2 h => ?_)
  refine z_istore_n C [(0, .ref (a0 99)), (1, .int v1), (2, .int v2), (3, .int u_2), (4, .int x4)] dX7_fullest_47 rfl (Nat.le_of_ble_eq_true rfl) [1, 2, 3, 0, 4] rfl 48 rfl ?_
  refine z_iinc C (x4 + 1) [(0, .ref (a0 99)), (1, .int v1), (2, .int v2), (3, .int u_2), (4, .int (x4 + 1))] dX7_fullest_48 4 rfl rfl (Nat.le_of_ble_eq_true rfl) [1, 2, 3, 4, 0] rfl 51 rfl ?_
  refine z_goto C 17 dX7_fullest_51 (by decide) ?_
  exact z_locals (ks := [0, 1, 2, 3, 4]) rfl (hrec _ _ _ h K)

def f_X7_fullest_L17b (S0 : Nat → Nat → Int32) (v1 : Int32) (v2 : Int32) (rec : (Int32 × Int32) → Option (Int32)) (a : Int32 × Int32) : Option (Int32) := if (S0 2 0) ≤ a.2 then (some a.1) else ((f_X7_cell v2 a.2).bind fun r_1 => zix r_1 240 fun _ => if (S0 27 (Int32.toNatClampNeg r_1)) ≤ 0 then (f_X7_fullest_J46 rec S0 v1 v2 a.2 a.1 0) else (f_X7_fullest_J46 rec S0 v1 v2 a.2 a.1 1))
def f_X7_fullest_L17 (S0 : Nat → Nat → Int32) (v1 : Int32) (v2 : Int32) : Nat → (Int32 × Int32) → Option (Int32) := zloop (fun rec a => f_X7_fullest_L17b S0 v1 v2 rec a)
set_option maxHeartbeats 4000000 in
set_option maxRecDepth 100000 in
theorem p_X7_fullest_L17 (C : zC p R s m args meth c cX7_fullest 5 RX7 wsX7_fullest D T 1 21 0 0) (S0 : Nat → Nat → Int32) (v1 : Int32) (v2 : Int32) (hD : va_D (fun _ => True) (wX7 T a0 S0)) : ∀ (n : Nat) (c0 : Int32) (c1 : Int32) (b : Int32), f_X7_fullest_L17 S0 v1 v2 n (c0, c1) = some b → (zt p l e R s m args below meth c 5 A D 0 0 Q (wX7 T a0 S0) [(0, .ref (a0 99)), (1, .int v1), (2, .int v2), (3, .int b)] 54 []) → zt p l e R s m args below meth c 5 A D 0 0 Q (wX7 T a0 S0) [(0, .ref (a0 99)), (1, .int v1), (2, .int v2), (3, .int c0), (4, .int c1)] 17 [] := by
  intro n c0 c1 b h K
  refine zloop_ind (P := fun a b => (zt p l e R s m args below meth c 5 A D 0 0 Q (wX7 T a0 S0) [(0, .ref (a0 99)), (1, .int v1), (2, .int v2), (3, .int b)] 54 []) → zt p l e R s m args below meth c 5 A D 0 0 Q (wX7 T a0 S0) [(0, .ref (a0 99)), (1, .int v1), (2, .int v2), (3, .int a.1), (4, .int a.2)] 17 []) ?_ n (c0, c1) b h K
  clear h K b c0 c1
  intro rec hrec a b h K
  have hrec : ∀ (c0 : Int32) (c1 : Int32) (b : Int32), rec (c0, c1) = some b → (zt p l e R s m args below meth c 5 A D 0 0 Q (wX7 T a0 S0) [(0, .ref (a0 99)), (1, .int v1), (2, .int v2), (3, .int b)] 54 []) → zt p l e R s m args below meth c 5 A D 0 0 Q (wX7 T a0 S0) [(0, .ref (a0 99)), (1, .int v1), (2, .int v2), (3, .int c0), (4, .int c1)] 17 [] := fun c0 c1 b h K => hrec (c0, c1) b h K
  unfold f_X7_fullest_L17b at h
  refine z_iload C dX7_fullest_17 4 rfl 19 rfl ?_
  refine z_aload_n C dX7_fullest_19 rfl 0 rfl 20 rfl ?_
  refine z_get C (in_X7_fullest_X7) 0 rfl rfl 2 (by decide) (List.mem_of_getElem? (i := 2) rfl) rfl rfl dX7_fullest_20 23 rfl ?_
  refine z_icmp_ge C 54 dX7_fullest_23 (by decide) 26 rfl h (fun h => ?_) (fun h => ?_)
  · refine z_locals (ks := [0, 1, 2, 3]) (lv' := [(0, .ref (a0 99)), (1, .int v1), (2, .int v2), (3, .int a.1)]) rfl ?_
    exact zex1 (F := (fun e0 => zt p l e R s m args below meth c 5 A D 0 0 Q (wX7 T a0 S0) [(0, .ref (a0 99)), (1, .int v1), (2, .int v2), (3, .int e0)] 54 [])) h K
  · refine z_iload_n C dX7_fullest_26 rfl 3 rfl 27 rfl ?_
    refine z_aload_n C dX7_fullest_27 rfl 0 rfl 28 rfl ?_
    refine z_get C (in_X7_fullest_X7) 0 rfl rfl 27 (by decide) (List.mem_of_getElem? (i := 3) rfl) rfl rfl dX7_fullest_28 31 rfl ?_
    refine z_iload_n C dX7_fullest_31 rfl 2 rfl 32 rfl ?_
    refine z_iload C dX7_fullest_32 4 rfl 34 rfl ?_
    refine z_callR C ([]) (fun v h => c_X7_cell l D T    v2 a.2 v h) ⟨rfl, rfl⟩ (z_cwS C 2 gX7_fullest_X7_cell rfl dd_X7_cell ⟨(Nat.le_of_ble_eq_true rfl), (Nat.le_of_ble_eq_true rfl)⟩) (hD.zaddr rfl) [] rfl rfl (fun h => absurd h (by decide)) (fun _ => rfl) rfl (Nat.le_of_ble_eq_true rfl) dX7_fullest_34 37 rfl h (fun r_1 h => ?_)
    refine z_iald C 10 rfl rfl dX7_fullest_37 38 rfl h (fun h => ?_)
    refine z_if_le C 45 dX7_fullest_38 (by decide) 41 rfl h (fun h => ?_) (fun h => ?_)
    · refine z_iconst C 0 dX7_fullest_45 (by decide) 46 rfl ?_
      exact z_locals (ks := [0, 1, 2, 4]) rfl (p_X7_fullest_J46 C S0 a.2 a.1 0 (hD.zaddr rfl) hrec K h)
    · refine z_iconst C 1 dX7_fullest_41 (by decide) 42 rfl ?_
      refine z_goto C 46 dX7_fullest_42 (by decide) ?_
      exact z_locals (ks := [0, 1, 2, 4]) rfl (p_X7_fullest_J46 C S0 a.2 a.1 1 (hD.zaddr rfl) hrec K h)

def f_X7_fullest_J64 (rec : (Int32 × Int32) → Option (Int32)) (S0 : Nat → Nat → Int32) (x2 : Int32) (k0 : Int32) : Option (Int32) := rec (k0, (x2 + 1))
set_option maxHeartbeats 4000000 in
set_option maxRecDepth 100000 in
theorem p_X7_fullest_J64 (C : zC p R s m args meth c cX7_fullest 5 RX7 wsX7_fullest D T 1 21 0 0) (S0 : Nat → Nat → Int32)  (x2 : Int32) (k0 : Int32) (hD : va_D (fun _ => True) (wX7 T a0 S0)) {rec : (Int32 × Int32) → Option (Int32)} (hrec : ∀ (c0 : Int32) (c1 : Int32) (b : Int32), rec (c0, c1) = some b → (zt p l e R s m args below meth c 5 A D 0 0 Q (wX7 T a0 S0) [(1, .int b)] 71 []) → zt p l e R s m args below meth c 5 A D 0 0 Q (wX7 T a0 S0) [(0, .ref (a0 99)), (1, .int c0), (2, .int c1)] 4 []) {b : Int32} (K : zt p l e R s m args below meth c 5 A D 0 0 Q (wX7 T a0 S0) [(1, .int b)] 71 []) (h : f_X7_fullest_J64 rec S0 x2 k0 = some b) : zt p l e R s m args below meth c 5 A D 0 0 Q (wX7 T a0 S0) [(0, .ref (a0 99)), (2, .int x2)] 64 [.int k0] := by
  unfold f_X7_fullest_J64 at h
  refine z_istore_n C [(0, .ref (a0 99)), (1, .int k0), (2, .int x2)] dX7_fullest_64 rfl (Nat.le_of_ble_eq_true rfl) [1, 0, 2] rfl 65 rfl ?_
  refine z_iinc C (x2 + 1) [(0, .ref (a0 99)), (1, .int k0), (2, .int (x2 + 1))] dX7_fullest_65 2 rfl rfl (Nat.le_of_ble_eq_true rfl) [1, 2, 0] rfl 68 rfl ?_
  refine z_goto C 4 dX7_fullest_68 (by decide) ?_
  exact z_locals (ks := [0, 1, 2]) rfl (hrec _ _ _ h K)

def f_X7_fullest_L4b (S0 : Nat → Nat → Int32)  (rec : (Int32 × Int32) → Option (Int32)) (a : Int32 × Int32) : Option (Int32) := if (S0 1 0) < a.2 then (some a.1) else ((f_X7_fullest_L17 S0 a.1 a.2 zfuel (0, 0)).bind fun y_3 => if y_3 ≤ a.1 then (f_X7_fullest_J64 rec S0 a.2 a.1) else (f_X7_fullest_J64 rec S0 a.2 y_3))
def f_X7_fullest_L4 (S0 : Nat → Nat → Int32)  : Nat → (Int32 × Int32) → Option (Int32) := zloop (fun rec a => f_X7_fullest_L4b S0 rec a)
set_option maxHeartbeats 4000000 in
set_option maxRecDepth 100000 in
theorem p_X7_fullest_L4 (C : zC p R s m args meth c cX7_fullest 5 RX7 wsX7_fullest D T 1 21 0 0) (S0 : Nat → Nat → Int32)  (hD : va_D (fun _ => True) (wX7 T a0 S0)) : ∀ (n : Nat) (c0 : Int32) (c1 : Int32) (b : Int32), f_X7_fullest_L4 S0 n (c0, c1) = some b → (zt p l e R s m args below meth c 5 A D 0 0 Q (wX7 T a0 S0) [(1, .int b)] 71 []) → zt p l e R s m args below meth c 5 A D 0 0 Q (wX7 T a0 S0) [(0, .ref (a0 99)), (1, .int c0), (2, .int c1)] 4 [] := by
  intro n c0 c1 b h K
  refine zloop_ind (P := fun a b => (zt p l e R s m args below meth c 5 A D 0 0 Q (wX7 T a0 S0) [(1, .int b)] 71 []) → zt p l e R s m args below meth c 5 A D 0 0 Q (wX7 T a0 S0) [(0, .ref (a0 99)), (1, .int a.1), (2, .int a.2)] 4 []) ?_ n (c0, c1) b h K
  clear h K b c0 c1
  intro rec hrec a b h K
  have hrec : ∀ (c0 : Int32) (c1 : Int32) (b : Int32), rec (c0, c1) = some b → (zt p l e R s m args below meth c 5 A D 0 0 Q (wX7 T a0 S0) [(1, .int b)] 71 []) → zt p l e R s m args below meth c 5 A D 0 0 Q (wX7 T a0 S0) [(0, .ref (a0 99)), (1, .int c0), (2, .int c1)] 4 [] := fun c0 c1 b h K => hrec (c0, c1) b h K
  unfold f_X7_fullest_L4b at h
  refine z_iload_n C dX7_fullest_4 rfl 2 rfl 5 rfl ?_
  refine z_aload_n C dX7_fullest_5 rfl 0 rfl 6 rfl ?_
  refine z_get C (in_X7_fullest_X7) 0 rfl rfl 1 (by decide) (List.mem_of_getElem? (i := 1) rfl) rfl rfl dX7_fullest_6 9 rfl ?_
  refine z_icmp_gt C 71 dX7_fullest_9 (by decide) 12 rfl h (fun h => ?_) (fun h => ?_)
  · refine z_locals (ks := [1]) (lv' := [(1, .int a.1)]) rfl ?_
    exact zex1 (F := (fun e0 => zt p l e R s m args below meth c 5 A D 0 0 Q (wX7 T a0 S0) [(1, .int e0)] 71 [])) h K
  · refine z_iconst C 0 dX7_fullest_12 (by decide) 13 rfl ?_
    refine z_istore_n C [(0, .ref (a0 99)), (1, .int a.1), (2, .int a.2), (3, .int 0)] dX7_fullest_13 rfl (Nat.le_of_ble_eq_true rfl) [1, 2, 3, 0] rfl 14 rfl ?_
    refine z_iconst C 0 dX7_fullest_14 (by decide) 15 rfl ?_
    refine z_istore C [(0, .ref (a0 99)), (1, .int a.1), (2, .int a.2), (3, .int 0), (4, .int 0)] dX7_fullest_15 (Nat.le_of_ble_eq_true rfl) [1, 2, 3, 4, 0] rfl 17 rfl ?_
    obtain ⟨y_3, hl_y_3, h⟩ := Option.bind_eq_some_iff.mp h
    refine z_locals (ks := [0, 1, 2, 3, 4]) rfl (p_X7_fullest_L17 C S0 a.1 a.2 (hD.zaddr rfl) _ _ _ _ hl_y_3 ?_)
    refine z_iload_n C dX7_fullest_54 rfl 3 rfl 55 rfl ?_
    refine z_iload_n C dX7_fullest_55 rfl 1 rfl 56 rfl ?_
    refine z_icmp_le C 63 dX7_fullest_56 (by decide) 59 rfl h (fun h => ?_) (fun h => ?_)
    · refine z_iload_n C dX7_fullest_63 rfl 1 rfl 64 rfl ?_
      exact z_locals (ks := [0, 2]) rfl (p_X7_fullest_J64 C S0 a.2 a.1 (hD.zaddr rfl) hrec K h)
    · refine z_iload_n C dX7_fullest_59 rfl 3 rfl 60 rfl ?_
      refine z_goto C 64 dX7_fullest_60 (by decide) ?_
      exact z_locals (ks := [0, 2]) rfl (p_X7_fullest_J64 C S0 a.2 y_3 (hD.zaddr rfl) hrec K h)

def f_X7_fullest (S0 : Nat → Nat → Int32)  : Option (Int32) := (f_X7_fullest_L4 S0 zfuel (0, 1)).bind fun y_4 => some y_4
theorem dd_X7_fullest : RX7 ≠ "java/lang/invoke/MethodHandle" ∧ RX7 ≠ "java/lang/invoke/VarHandle" ∧ (parseMethodDescriptor yX7_fullest.desc).map (fun d => d.parameters.length) = some 0 := by decide +kernel
set_option maxHeartbeats 4000000 in
set_option maxRecDepth 100000 in
theorem c_X7_fullest (l : Launch) (D : va_G) (T : Nat → ClassId) (a0 : Nat → Nat) (S0 : Nat → Nat → Int32)  (ex : Int32) (h : f_X7_fullest S0 = some ex) : zRI l yX7_fullest wsX7_fullest ({ frames := 1, cells := 0, slots := 0, locals := 21 } : Room) D T [.ref (a0 99)] (wX7 T a0 S0) ex := by
  refine z_begin (cc := cX7_fullest) (nL := 5) (own := RX7) (fr := 1) (lc := 21) (ret := some .int) (by decide) rfl (Nat.le_of_ble_eq_true rfl) (fun _ => False) rfl [(0, .ref (a0 99))] rfl ⟨rfl, rfl⟩ rfl ?_
  intro p e s m args below meth c C hr hD
  unfold f_X7_fullest at h
  refine z_iconst C 0 dX7_fullest_0 (by decide) 1 rfl ?_
  refine z_istore_n C [(0, .ref (a0 99)), (1, .int 0)] dX7_fullest_1 rfl (Nat.le_of_ble_eq_true rfl) [1, 0] rfl 2 rfl ?_
  refine z_iconst C 1 dX7_fullest_2 (by decide) 3 rfl ?_
  refine z_istore_n C [(0, .ref (a0 99)), (1, .int 0), (2, .int 1)] dX7_fullest_3 rfl (Nat.le_of_ble_eq_true rfl) [1, 2, 0] rfl 4 rfl ?_
  obtain ⟨y_4, hl_y_4, h⟩ := Option.bind_eq_some_iff.mp h
  refine z_locals (ks := [0, 1, 2]) rfl (p_X7_fullest_L4 C S0  (hD.zaddr rfl) _ _ _ _ hl_y_4 ?_)
  refine z_iload_n C dX7_fullest_71 rfl 0 rfl 72 rfl ?_
  exact z_iretR C hr dX7_fullest_72 h

end
/-! StreamTreeModel.widest ()I -/
section
variable {p : Program} {l : Launch} {e : Env} {R : Room} {s : State} {m : MethodId} {args : Array Value} {below : List Frame} {meth : Method} {c : Code} {Q : State → Prop} {A : Nat → Prop} {D : va_G} {T : Nat → ClassId} {a0 : Nat → Nat}
theorem in_X7_widest_X7 : ∀ w ∈ u_ws RX7 TX7 35, w ∈ wsX7_widest := fun _ h => (List.mem_cons_of_mem _ (List.mem_append_right _ h))
def f_X7_widest_J41 (rec : (Int32 × Int32) → Option (Int32)) (S0 : Nat → Nat → Int32) (x2 : Int32) (k0 : Int32) : Option (Int32) := rec (k0, (x2 + 1))
set_option maxHeartbeats 4000000 in
set_option maxRecDepth 100000 in
theorem p_X7_widest_J41 (C : zC p R s m args meth c cX7_widest 3 RX7 wsX7_widest D T 0 0 0 0) (S0 : Nat → Nat → Int32)  (x2 : Int32) (k0 : Int32) (hD : va_D (fun _ => True) (wX7 T a0 S0)) {rec : (Int32 × Int32) → Option (Int32)} (hrec : ∀ (c0 : Int32) (c1 : Int32) (b : Int32), rec (c0, c1) = some b → (zt p l e R s m args below meth c 3 A D 0 0 Q (wX7 T a0 S0) [(1, .int b)] 48 []) → zt p l e R s m args below meth c 3 A D 0 0 Q (wX7 T a0 S0) [(0, .ref (a0 99)), (1, .int c0), (2, .int c1)] 5 []) {b : Int32} (K : zt p l e R s m args below meth c 3 A D 0 0 Q (wX7 T a0 S0) [(1, .int b)] 48 []) (h : f_X7_widest_J41 rec S0 x2 k0 = some b) : zt p l e R s m args below meth c 3 A D 0 0 Q (wX7 T a0 S0) [(0, .ref (a0 99)), (2, .int x2)] 41 [.int k0] := by
  unfold f_X7_widest_J41 at h
  refine z_istore_n C [(0, .ref (a0 99)), (1, .int k0), (2, .int x2)] dX7_widest_41 rfl (Nat.le_of_ble_eq_true rfl) [1, 0, 2] rfl 42 rfl ?_
  refine z_iinc C (x2 + 1) [(0, .ref (a0 99)), (1, .int k0), (2, .int (x2 + 1))] dX7_widest_42 2 rfl rfl (Nat.le_of_ble_eq_true rfl) [1, 2, 0] rfl 45 rfl ?_
  refine z_goto C 5 dX7_widest_45 (by decide) ?_
  exact z_locals (ks := [0, 1, 2]) rfl (hrec _ _ _ h K)

def f_X7_widest_J40 (rec : (Int32 × Int32) → Option (Int32)) (S0 : Nat → Nat → Int32) (x1 : Int32) (x2 : Int32)  : Option (Int32) := f_X7_widest_J41 rec S0 x2 x1
set_option maxHeartbeats 4000000 in
set_option maxRecDepth 100000 in
theorem p_X7_widest_J40 (C : zC p R s m args meth c cX7_widest 3 RX7 wsX7_widest D T 0 0 0 0) (S0 : Nat → Nat → Int32)  (x1 : Int32) (x2 : Int32)  (hD : va_D (fun _ => True) (wX7 T a0 S0)) {rec : (Int32 × Int32) → Option (Int32)} (hrec : ∀ (c0 : Int32) (c1 : Int32) (b : Int32), rec (c0, c1) = some b → (zt p l e R s m args below meth c 3 A D 0 0 Q (wX7 T a0 S0) [(1, .int b)] 48 []) → zt p l e R s m args below meth c 3 A D 0 0 Q (wX7 T a0 S0) [(0, .ref (a0 99)), (1, .int c0), (2, .int c1)] 5 []) {b : Int32} (K : zt p l e R s m args below meth c 3 A D 0 0 Q (wX7 T a0 S0) [(1, .int b)] 48 []) (h : f_X7_widest_J40 rec S0 x1 x2 = some b) : zt p l e R s m args below meth c 3 A D 0 0 Q (wX7 T a0 S0) [(0, .ref (a0 99)), (1, .int x1), (2, .int x2)] 40 [] := by
  unfold f_X7_widest_J40 at h
  refine z_iload_n C dX7_widest_40 rfl 1 rfl 41 rfl ?_
  exact z_locals (ks := [0, 2]) rfl (p_X7_widest_J41 C S0 x2 x1 (hD.zaddr rfl) hrec K h)

def f_X7_widest_L5b (S0 : Nat → Nat → Int32)  (rec : (Int32 × Int32) → Option (Int32)) (a : Int32 × Int32) : Option (Int32) := if 240 ≤ a.2 then (some a.1) else (zix a.2 240 fun _ => if (S0 26 (Int32.toNatClampNeg a.2)) < 0 then (f_X7_widest_J40 rec S0 a.1 a.2) else (zix a.2 240 fun _ => if (S0 27 (Int32.toNatClampNeg a.2)) ≤ a.1 then (f_X7_widest_J40 rec S0 a.1 a.2) else (zix a.2 240 fun _ => f_X7_widest_J41 rec S0 a.2 (S0 27 (Int32.toNatClampNeg a.2)))))
def f_X7_widest_L5 (S0 : Nat → Nat → Int32)  : Nat → (Int32 × Int32) → Option (Int32) := zloop (fun rec a => f_X7_widest_L5b S0 rec a)
set_option maxHeartbeats 4000000 in
set_option maxRecDepth 100000 in
theorem p_X7_widest_L5 (C : zC p R s m args meth c cX7_widest 3 RX7 wsX7_widest D T 0 0 0 0) (S0 : Nat → Nat → Int32)  (hD : va_D (fun _ => True) (wX7 T a0 S0)) : ∀ (n : Nat) (c0 : Int32) (c1 : Int32) (b : Int32), f_X7_widest_L5 S0 n (c0, c1) = some b → (zt p l e R s m args below meth c 3 A D 0 0 Q (wX7 T a0 S0) [(1, .int b)] 48 []) → zt p l e R s m args below meth c 3 A D 0 0 Q (wX7 T a0 S0) [(0, .ref (a0 99)), (1, .int c0), (2, .int c1)] 5 [] := by
  intro n c0 c1 b h K
  refine zloop_ind (P := fun a b => (zt p l e R s m args below meth c 3 A D 0 0 Q (wX7 T a0 S0) [(1, .int b)] 48 []) → zt p l e R s m args below meth c 3 A D 0 0 Q (wX7 T a0 S0) [(0, .ref (a0 99)), (1, .int a.1), (2, .int a.2)] 5 []) ?_ n (c0, c1) b h K
  clear h K b c0 c1
  intro rec hrec a b h K
  have hrec : ∀ (c0 : Int32) (c1 : Int32) (b : Int32), rec (c0, c1) = some b → (zt p l e R s m args below meth c 3 A D 0 0 Q (wX7 T a0 S0) [(1, .int b)] 48 []) → zt p l e R s m args below meth c 3 A D 0 0 Q (wX7 T a0 S0) [(0, .ref (a0 99)), (1, .int c0), (2, .int c1)] 5 [] := fun c0 c1 b h K => hrec (c0, c1) b h K
  unfold f_X7_widest_L5b at h
  refine z_iload_n C dX7_widest_5 rfl 2 rfl 6 rfl ?_
  refine z_sipush C 240 dX7_widest_6 (by decide) 9 rfl ?_
  refine z_icmp_ge C 48 dX7_widest_9 (by decide) 12 rfl h (fun h => ?_) (fun h => ?_)
  · refine z_locals (ks := [1]) (lv' := [(1, .int a.1)]) rfl ?_
    exact zex1 (F := (fun e0 => zt p l e R s m args below meth c 3 A D 0 0 Q (wX7 T a0 S0) [(1, .int e0)] 48 [])) h K
  · refine z_aload_n C dX7_widest_12 rfl 0 rfl 13 rfl ?_
    refine z_get C (in_X7_widest_X7) 0 rfl rfl 26 (by decide) (List.mem_of_getElem? (i := 1) rfl) rfl rfl dX7_widest_13 16 rfl ?_
    refine z_iload_n C dX7_widest_16 rfl 2 rfl 17 rfl ?_
    refine z_iald C 9 rfl rfl dX7_widest_17 18 rfl h (fun h => ?_)
    refine z_if_lt C 40 dX7_widest_18 (by decide) 21 rfl h (fun h => ?_) (fun h => ?_)
    · exact z_locals (ks := [0, 1, 2]) rfl (p_X7_widest_J40 C S0 a.1 a.2 (hD.zaddr rfl) hrec K h)
    · refine z_aload_n C dX7_widest_21 rfl 0 rfl 22 rfl ?_
      refine z_get C (in_X7_widest_X7) 0 rfl rfl 27 (by decide) (List.mem_of_getElem? (i := 2) rfl) rfl rfl dX7_widest_22 25 rfl ?_
      refine z_iload_n C dX7_widest_25 rfl 2 rfl 26 rfl ?_
      refine z_iald C 10 rfl rfl dX7_widest_26 27 rfl h (fun h => ?_)
      refine z_iload_n C dX7_widest_27 rfl 1 rfl 28 rfl ?_
      refine z_icmp_le C 40 dX7_widest_28 (by decide) 31 rfl h (fun h => ?_) (fun h => ?_)
      · exact z_locals (ks := [0, 1, 2]) rfl (p_X7_widest_J40 C S0 a.1 a.2 (hD.zaddr rfl) hrec K h)
      · refine z_aload_n C dX7_widest_31 rfl 0 rfl 32 rfl ?_
        refine z_get C (in_X7_widest_X7) 0 rfl rfl 27 (by decide) (List.mem_of_getElem? (i := 2) rfl) rfl rfl dX7_widest_32 35 rfl ?_
        refine z_iload_n C dX7_widest_35 rfl 2 rfl 36 rfl ?_
        refine z_iald C 10 rfl rfl dX7_widest_36 37 rfl h (fun h => ?_)
        refine z_goto C 41 dX7_widest_37 (by decide) ?_
        exact z_locals (ks := [0, 2]) rfl (p_X7_widest_J41 C S0 a.2 (S0 27 (Int32.toNatClampNeg a.2)) (hD.zaddr rfl) hrec K h)

def f_X7_widest (S0 : Nat → Nat → Int32)  : Option (Int32) := (f_X7_widest_L5 S0 zfuel (0, 24)).bind fun y_1 => some y_1
theorem dd_X7_widest : RX7 ≠ "java/lang/invoke/MethodHandle" ∧ RX7 ≠ "java/lang/invoke/VarHandle" ∧ (parseMethodDescriptor yX7_widest.desc).map (fun d => d.parameters.length) = some 0 := by decide +kernel
set_option maxHeartbeats 4000000 in
set_option maxRecDepth 100000 in
theorem c_X7_widest (l : Launch) (D : va_G) (T : Nat → ClassId) (a0 : Nat → Nat) (S0 : Nat → Nat → Int32)  (ex : Int32) (h : f_X7_widest S0 = some ex) : zRI l yX7_widest wsX7_widest ({ frames := 0, cells := 0, slots := 0, locals := 0 } : Room) D T [.ref (a0 99)] (wX7 T a0 S0) ex := by
  refine z_begin (cc := cX7_widest) (nL := 3) (own := RX7) (fr := 0) (lc := 0) (ret := some .int) (by decide) rfl (Nat.le_of_ble_eq_true rfl) (fun _ => False) rfl [(0, .ref (a0 99))] rfl ⟨rfl, rfl⟩ rfl ?_
  intro p e s m args below meth c C hr hD
  unfold f_X7_widest at h
  refine z_iconst C 0 dX7_widest_0 (by decide) 1 rfl ?_
  refine z_istore_n C [(0, .ref (a0 99)), (1, .int 0)] dX7_widest_1 rfl (Nat.le_of_ble_eq_true rfl) [1, 0] rfl 2 rfl ?_
  refine z_bipush C 24 dX7_widest_2 (by decide) 4 rfl ?_
  refine z_istore_n C [(0, .ref (a0 99)), (1, .int 0), (2, .int 24)] dX7_widest_4 rfl (Nat.le_of_ble_eq_true rfl) [1, 2, 0] rfl 5 rfl ?_
  obtain ⟨y_1, hl_y_1, h⟩ := Option.bind_eq_some_iff.mp h
  refine z_locals (ks := [0, 1, 2]) rfl (p_X7_widest_L5 C S0  (hD.zaddr rfl) _ _ _ _ hl_y_1 ?_)
  refine z_iload_n C dX7_widest_48 rfl 0 rfl 49 rfl ?_
  exact z_iretR C hr dX7_widest_49 h

end
