/-! StreamTreeModel.placeLine ()Z -/
section
variable {p : Program} {l : Launch} {e : Env} {R : Room} {s : State} {m : MethodId} {args : Array Value} {below : List Frame} {meth : Method} {c : Code} {Q : State → Prop} {A : Nat → Prop} {D : va_G} {T : Nat → ClassId} {a0 : Nat → Nat}
theorem in_X7_placeLine_X7 : ∀ w ∈ u_ws RX7 TX7 35, w ∈ wsX7_placeLine := fun _ h => (List.mem_cons_of_mem _ (List.mem_append_right _ h))
def f_X7_placeLine_J85 (S0 : Nat → Nat → Int32)   : Option (Int32 × (Nat → Nat → Int32)) := (f_X7_bad S0 3 (S0 14 0)).bind fun r_7 => zbo r_7.1 (some (r_7.1, r_7.2))
set_option maxHeartbeats 4000000 in
set_option maxRecDepth 100000 in
theorem p_X7_placeLine_J85 {w0 : va_W} (C : zC p R s m args meth c cX7_placeLine 3 RX7 wsX7_placeLine D T 4 86 0 0) (hr : meth.sig.returnType = some .boolean) (S0 : Nat → Nat → Int32)   (hD : va_D (zA w0) (wX7 T a0 S0)) {ex : Int32 × (Nat → Nat → Int32)} (h : f_X7_placeLine_J85 S0 = some ex) : zt p l e R s m args below meth c 3 (zA w0) D 0 0 (MQ below (zQJ D w0 ex.1 (wX7 T a0 ex.2)) args s 0 0 (zA w0)) (wX7 T a0 S0) [(0, .ref (a0 99))] 85 [] := by
  unfold f_X7_placeLine_J85 at h
  refine z_aload_n C dX7_placeLine_85 rfl 0 rfl 86 rfl ?_
  refine z_iconst C 3 dX7_placeLine_86 (by decide) 87 rfl ?_
  refine z_aload_n C dX7_placeLine_87 rfl 0 rfl 88 rfl ?_
  refine z_get C (in_X7_placeLine_X7) 0 rfl rfl 14 (by decide) (List.mem_of_getElem? (i := 2) rfl) rfl rfl dX7_placeLine_88 91 rfl ?_
  refine z_callW C (wX7 T a0 S0) (([] : va_W)) (fun z => z.1) (fun z => wX7 T a0 z.2) (fun z => wX7 T a0 z.2) (fun z h => c_X7_bad l D T a0  S0 3 (S0 14 0) z h) ⟨rfl, rfl⟩ (z_cwV C 2 gX7_placeLine_X7_bad rfl rfl dd_X7_bad ⟨(Nat.le_of_ble_eq_true rfl), (Nat.le_of_ble_eq_true rfl)⟩) (hD.zaddr rfl) [0, 1, 2, 3, 4, 5, 6, 7, 8, 9, 10, 11, 12, 13, 14, 15, 16, 17] [] [0, 1, 2, 3, 4, 5, 6, 7, 8, 9, 10, 11, 12, 13, 14, 15, 16, 17] rfl rfl rfl (by decide) (fun _ => rfl) (fun _ => ⟨a0 99, [.int 3, .int (S0 14 0)], 6, 0, _, _, rfl, rfl, rfl, rfl, rfl⟩) (fun h => absurd rfl h) rfl (Nat.le_of_ble_eq_true rfl) dX7_placeLine_91 94 rfl h (fun r_7 h => ?_)
  exact z_zretW (x := r_7.2) (ex := ex) (fun z => wX7 T a0 z) C hr dX7_placeLine_94 h rfl

def f_X7_placeLine (S0 : Nat → Nat → Int32)  : Option (Int32 × (Nat → Nat → Int32)) := if (S0 21 0) = 7 then ((f_X7_bad S0 4 (S0 14 0)).bind fun r_15 => zbo r_15.1 (some (r_15.1, r_15.2))) else ((f_X7_go S0).bind fun r_1 => (f_X7_number r_1 1 (r_1 19 0)).bind fun r_2 => if r_2.1 = 0 then (some (0, r_2.2)) else (zlet (r_2.2 25 0) fun u_3 => (f_X7_isNumber r_2.2 0 ((r_2.2 20 0) - 1)).bind fun r_4 => if r_4.1 = 0 then (some (0, r_4.2)) else (zlet (r_4.2 25 0) fun u_5 => (f_X7_isRead r_4.2 u_3 u_5).bind fun r_6 => if r_6 = 0 then ((f_X7_cell u_3 u_5).bind fun r_8 => zix r_8 240 fun _ => if (r_4.2 23 (Int32.toNatClampNeg r_8)) = 0 then ((f_X7_go r_4.2).bind fun r_9 => (f_X7_number r_9 1 99).bind fun r_10 => if r_10.1 = 0 then (some (0, r_10.2)) else (zix (3 * (r_10.2 21 0)) 21 fun j => zlet (zst r_10.2 22 j u_3) fun S0_11 => zix ((3 * (S0_11 21 0)) + 1) 21 fun j => zlet (zst S0_11 22 j u_5) fun S0_12 => zix ((3 * (S0_12 21 0)) + 2) 21 fun j => zlet (zst S0_12 22 j (S0_12 25 0)) fun S0_13 => zlet (zst S0_13 21 0 ((S0_13 21 0) + 1)) fun S0_14 => some (1, S0_14))) else (f_X7_placeLine_J85 r_4.2)) else (f_X7_placeLine_J85 r_4.2))))
theorem dd_X7_placeLine : RX7 ≠ "java/lang/invoke/MethodHandle" ∧ RX7 ≠ "java/lang/invoke/VarHandle" ∧ (parseMethodDescriptor yX7_placeLine.desc).map (fun d => d.parameters.length) = some 0 := by decide +kernel
set_option maxHeartbeats 4000000 in
set_option maxRecDepth 100000 in
theorem c_X7_placeLine (l : Launch) (D : va_G) (T : Nat → ClassId) (a0 : Nat → Nat) (S0 : Nat → Nat → Int32)  (ex : Int32 × (Nat → Nat → Int32)) (h : f_X7_placeLine S0 = some ex) : zWI l yX7_placeLine wsX7_placeLine ({ frames := 4, cells := 0, slots := 0, locals := 86 } : Room) D T [.ref (a0 99)] (wX7 T a0 S0) ex.1 (wX7 T a0 ex.2) := by
  refine z_begin (cc := cX7_placeLine) (nL := 3) (own := RX7) (fr := 4) (lc := 86) (ret := some .boolean) (by decide) rfl (Nat.le_of_ble_eq_true rfl) (zA (wX7 T a0 S0)) rfl [(0, .ref (a0 99))] rfl ⟨rfl, rfl⟩ rfl ?_
  intro p e s m args below meth c C hr hD
  have hD := hD.zself
  unfold f_X7_placeLine at h
  refine z_aload_n C dX7_placeLine_0 rfl 0 rfl 1 rfl ?_
  refine z_get C (in_X7_placeLine_X7) 0 rfl rfl 21 (by decide) (List.mem_of_getElem? (i := 1) rfl) rfl rfl dX7_placeLine_1 4 rfl ?_
  refine z_bipush C 7 dX7_placeLine_4 (by decide) 6 rfl ?_
  refine z_icmp_ne C 19 dX7_placeLine_6 (by decide) 9 rfl h (fun h => ?_) (fun h => ?_)
  · refine z_aload_n C dX7_placeLine_19 rfl 0 rfl 20 rfl ?_
    refine z_callV C (wX7 T a0 S0) (([] : va_W)) (fun z => wX7 T a0 z) (fun z => wX7 T a0 z) (fun z h => c_X7_go l D T a0  S0  z h) ⟨rfl, rfl⟩ (z_cwV C 0 gX7_placeLine_X7_go rfl rfl dd_X7_go ⟨(Nat.le_of_ble_eq_true rfl), (Nat.le_of_ble_eq_true rfl)⟩) (hD.zaddr rfl) [0, 1, 2, 3, 4, 5, 6, 7, 8, 9, 10, 11, 12, 13, 14, 15, 16, 17] [] [0, 1, 2, 3, 4, 5, 6, 7, 8, 9, 10, 11, 12, 13, 14, 15, 16, 17] rfl rfl rfl (by decide) (fun _ => rfl) (fun _ => ⟨a0 99, [], 6, 0, _, _, rfl, rfl, rfl, rfl, rfl⟩) (fun h => absurd rfl h) rfl (Nat.le_of_ble_eq_true rfl) dX7_placeLine_20 23 rfl h (fun r_1 h => ?_)
    refine z_aload_n C dX7_placeLine_23 rfl 0 rfl 24 rfl ?_
    refine z_iconst C 1 dX7_placeLine_24 (by decide) 25 rfl ?_
    refine z_aload_n C dX7_placeLine_25 rfl 0 rfl 26 rfl ?_
    refine z_get C (in_X7_placeLine_X7) 0 rfl rfl 19 (by decide) (List.mem_of_getElem? (i := 3) rfl) rfl rfl dX7_placeLine_26 29 rfl ?_
    refine z_callW C (wX7 T a0 r_1) (([] : va_W)) (fun z => z.1) (fun z => wX7 T a0 z.2) (fun z => wX7 T a0 z.2) (fun z h => c_X7_number l D T a0  r_1 1 (r_1 19 0) z h) ⟨rfl, rfl⟩ (z_cwV C 2 gX7_placeLine_X7_number rfl rfl dd_X7_number ⟨(Nat.le_of_ble_eq_true rfl), (Nat.le_of_ble_eq_true rfl)⟩) (hD.zaddr rfl) [0, 1, 2, 3, 4, 5, 6, 7, 8, 9, 10, 11, 12, 13, 14, 15, 16, 17] [] [0, 1, 2, 3, 4, 5, 6, 7, 8, 9, 10, 11, 12, 13, 14, 15, 16, 17] rfl rfl rfl (by decide) (fun _ => rfl) (fun _ => ⟨a0 99, [.int 1, .int (r_1 19 0)], 6, 0, _, _, rfl, rfl, rfl, rfl, rfl⟩) (fun h => absurd rfl h) rfl (Nat.le_of_ble_eq_true rfl) dX7_placeLine_29 32 rfl h (fun r_2 h => ?_)
    refine z_if_ne C 37 dX7_placeLine_32 (by decide) 35 rfl h (fun h => ?_) (fun h => ?_)
    · refine z_aload_n C dX7_placeLine_37 rfl 0 rfl 38 rfl ?_
      refine z_get C (in_X7_placeLine_X7) 0 rfl rfl 25 (by decide) (List.mem_of_getElem? (i := 4) rfl) rfl rfl dX7_placeLine_38 41 rfl ?_
      refine z_top h (fun u_3 h => ?_)
      refine z_istore_n C [(0, .ref (a0 99)), (1, .int u_3)] dX7_placeLine_41 rfl (Nat.le_of_ble_eq_true rfl) [1, 0] rfl 42 rfl ?_
      refine z_aload_n C dX7_placeLine_42 rfl 0 rfl 43 rfl ?_
      refine z_iconst C 0 dX7_placeLine_43 (by decide) 44 rfl ?_
      refine z_aload_n C dX7_placeLine_44 rfl 0 rfl 45 rfl ?_
      refine z_get C (in_X7_placeLine_X7) 0 rfl rfl 20 (by decide) (List.mem_of_getElem? (i := 5) rfl) rfl rfl dX7_placeLine_45 48 rfl ?_
      refine z_iconst C 1 dX7_placeLine_48 (by decide) 49 rfl ?_
      refine z_isub C dX7_placeLine_49 50 rfl ?_
      refine z_callW C (wX7 T a0 r_2.2) (([] : va_W)) (fun z => z.1) (fun z => wX7 T a0 z.2) (fun z => wX7 T a0 z.2) (fun z h => c_X7_isNumber l D T a0  r_2.2 0 ((r_2.2 20 0) - 1) z h) ⟨rfl, rfl⟩ (z_cwV C 2 gX7_placeLine_X7_isNumber rfl rfl dd_X7_isNumber ⟨(Nat.le_of_ble_eq_true rfl), (Nat.le_of_ble_eq_true rfl)⟩) (hD.zaddr rfl) [0, 1, 2, 3, 4, 5, 6, 7, 8, 9, 10, 11, 12, 13, 14, 15, 16, 17] [] [0, 1, 2, 3, 4, 5, 6, 7, 8, 9, 10, 11, 12, 13, 14, 15, 16, 17] rfl rfl rfl (by decide) (fun _ => rfl) (fun _ => ⟨a0 99, [.int 0, .int ((r_2.2 20 0) - 1)], 6, 0, _, _, rfl, rfl, rfl, rfl, rfl⟩) (fun h => absurd rfl h) rfl (Nat.le_of_ble_eq_true rfl) dX7_placeLine_50 53 rfl h (fun r_4 h => ?_)
      refine z_if_ne C 58 dX7_placeLine_53 (by decide) 56 rfl h (fun h => ?_) (fun h => ?_)
      · refine z_aload_n C dX7_placeLine_58 rfl 0 rfl 59 rfl ?_
        refine z_get C (in_X7_placeLine_X7) 0 rfl rfl 25 (by decide) (List.mem_of_getElem? (i := 4) rfl) rfl rfl dX7_placeLine_59 62 rfl ?_
        refine z_top h (fun u_5 h => ?_)
        refine z_istore_n C [(0, .ref (a0 99)), (1, .int u_3), (2, .int u_5)] dX7_placeLine_62 rfl (Nat.le_of_ble_eq_true rfl) [1, 2, 0] rfl 63 rfl ?_
        refine z_aload_n C dX7_placeLine_63 rfl 0 rfl 64 rfl ?_
        refine z_iload_n C dX7_placeLine_64 rfl 1 rfl 65 rfl ?_
        refine z_iload_n C dX7_placeLine_65 rfl 2 rfl 66 rfl ?_
        refine z_callR C (wX7 T a0 r_4.2) (fun v h => c_X7_isRead l D T a0  r_4.2 u_3 u_5 v h) ⟨rfl, rfl⟩ (z_cwV C 2 gX7_placeLine_X7_isRead rfl rfl dd_X7_isRead ⟨(Nat.le_of_ble_eq_true rfl), (Nat.le_of_ble_eq_true rfl)⟩) (hD.zaddr rfl) [0, 1, 2, 3, 4, 5, 6, 7, 8, 9, 10, 11, 12, 13, 14, 15, 16, 17] rfl rfl (fun _ => ⟨a0 99, [.int u_3, .int u_5], 6, 0, _, _, rfl, rfl, rfl, rfl, rfl⟩) (fun h => absurd rfl h) rfl (Nat.le_of_ble_eq_true rfl) dX7_placeLine_66 69 rfl h (fun r_6 h => ?_)
        refine z_if_ne C 85 dX7_placeLine_69 (by decide) 72 rfl h (fun h => ?_) (fun h => ?_)
        · exact z_locals (ks := [0]) rfl (p_X7_placeLine_J85 C hr r_4.2 (hD.zaddr rfl) h)
        · refine z_aload_n C dX7_placeLine_72 rfl 0 rfl 73 rfl ?_
          refine z_get C (in_X7_placeLine_X7) 0 rfl rfl 23 (by decide) (List.mem_of_getElem? (i := 6) rfl) rfl rfl dX7_placeLine_73 76 rfl ?_
          refine z_iload_n C dX7_placeLine_76 rfl 1 rfl 77 rfl ?_
          refine z_iload_n C dX7_placeLine_77 rfl 2 rfl 78 rfl ?_
          refine z_callR C ([]) (fun v h => c_X7_cell l D T    u_3 u_5 v h) ⟨rfl, rfl⟩ (z_cwS C 2 gX7_placeLine_X7_cell rfl dd_X7_cell ⟨(Nat.le_of_ble_eq_true rfl), (Nat.le_of_ble_eq_true rfl)⟩) (hD.zaddr rfl) [] rfl rfl (fun h => absurd h (by decide)) (fun _ => rfl) rfl (Nat.le_of_ble_eq_true rfl) dX7_placeLine_78 81 rfl h (fun r_8 h => ?_)
          refine z_zald C 7 rfl rfl dX7_placeLine_81 82 rfl h (fun h => ?_)
          refine z_if_eq C 95 dX7_placeLine_82 (by decide) 85 rfl h (fun h => ?_) (fun h => ?_)
          · refine z_aload_n C dX7_placeLine_95 rfl 0 rfl 96 rfl ?_
            refine z_callV C (wX7 T a0 r_4.2) (([] : va_W)) (fun z => wX7 T a0 z) (fun z => wX7 T a0 z) (fun z h => c_X7_go l D T a0  r_4.2  z h) ⟨rfl, rfl⟩ (z_cwV C 0 gX7_placeLine_X7_go rfl rfl dd_X7_go ⟨(Nat.le_of_ble_eq_true rfl), (Nat.le_of_ble_eq_true rfl)⟩) (hD.zaddr rfl) [0, 1, 2, 3, 4, 5, 6, 7, 8, 9, 10, 11, 12, 13, 14, 15, 16, 17] [] [0, 1, 2, 3, 4, 5, 6, 7, 8, 9, 10, 11, 12, 13, 14, 15, 16, 17] rfl rfl rfl (by decide) (fun _ => rfl) (fun _ => ⟨a0 99, [], 6, 0, _, _, rfl, rfl, rfl, rfl, rfl⟩) (fun h => absurd rfl h) rfl (Nat.le_of_ble_eq_true rfl) dX7_placeLine_96 99 rfl h (fun r_9 h => ?_)
            refine z_aload_n C dX7_placeLine_99 rfl 0 rfl 100 rfl ?_
            refine z_iconst C 1 dX7_placeLine_100 (by decide) 101 rfl ?_
            refine z_bipush C 99 dX7_placeLine_101 (by decide) 103 rfl ?_
            refine z_callW C (wX7 T a0 r_9) (([] : va_W)) (fun z => z.1) (fun z => wX7 T a0 z.2) (fun z => wX7 T a0 z.2) (fun z h => c_X7_number l D T a0  r_9 1 99 z h) ⟨rfl, rfl⟩ (z_cwV C 2 gX7_placeLine_X7_number rfl rfl dd_X7_number ⟨(Nat.le_of_ble_eq_true rfl), (Nat.le_of_ble_eq_true rfl)⟩) (hD.zaddr rfl) [0, 1, 2, 3, 4, 5, 6, 7, 8, 9, 10, 11, 12, 13, 14, 15, 16, 17] [] [0, 1, 2, 3, 4, 5, 6, 7, 8, 9, 10, 11, 12, 13, 14, 15, 16, 17] rfl rfl rfl (by decide) (fun _ => rfl) (fun _ => ⟨a0 99, [.int 1, .int 99], 6, 0, _, _, rfl, rfl, rfl, rfl, rfl⟩) (fun h => absurd rfl h) rfl (Nat.le_of_ble_eq_true rfl) dX7_placeLine_103 106 rfl h (fun r_10 h => ?_)
            refine z_if_ne C 111 dX7_placeLine_106 (by decide) 109 rfl h (fun h => ?_) (fun h => ?_)
            · refine z_aload_n C dX7_placeLine_111 rfl 0 rfl 112 rfl ?_
              refine z_get C (in_X7_placeLine_X7) 0 rfl rfl 22 (by decide) (List.mem_of_getElem? (i := 7) rfl) rfl rfl dX7_placeLine_112 115 rfl ?_
              refine z_iconst C 3 dX7_placeLine_115 (by decide) 116 rfl ?_
              refine z_aload_n C dX7_placeLine_116 rfl 0 rfl 117 rfl ?_
              refine z_get C (in_X7_placeLine_X7) 0 rfl rfl 21 (by decide) (List.mem_of_getElem? (i := 1) rfl) rfl rfl dX7_placeLine_117 120 rfl ?_
              refine z_imul C dX7_placeLine_120 121 rfl ?_
              refine z_iload_n C dX7_placeLine_121 rfl 1 rfl 122 rfl ?_
              refine z_iast C (fun z => wX7 T a0 z) r_10.2 22 (hD.zaddr rfl) 6 rfl rfl (fun _ => rfl) dX7_placeLine_122 123 rfl h (fun S0_11 h => ?_)
              refine z_aload_n C dX7_placeLine_123 rfl 0 rfl 124 rfl ?_
              refine z_get C (in_X7_placeLine_X7) 0 rfl rfl 22 (by decide) (List.mem_of_getElem? (i := 7) rfl) rfl rfl dX7_placeLine_124 127 rfl ?_
              refine z_iconst C 3 dX7_placeLine_127 (by decide) 128 rfl ?_
              refine z_aload_n C dX7_placeLine_128 rfl 0 rfl 129 rfl ?_
              refine z_get C (in_X7_placeLine_X7) 0 rfl rfl 21 (by decide) (List.mem_of_getElem? (i := 1) rfl) rfl rfl dX7_placeLine_129 132 rfl ?_
              refine z_imul C dX7_placeLine_132 133 rfl ?_
              refine z_iconst C 1 dX7_placeLine_133 (by decide) 134 rfl ?_
              refine z_iadd C dX7_placeLine_134 135 rfl ?_
              refine z_iload_n C dX7_placeLine_135 rfl 2 rfl 136 rfl ?_
              refine z_iast C (fun z => wX7 T a0 z) S0_11 22 (hD.zaddr rfl) 6 rfl rfl (fun _ => rfl) dX7_placeLine_136 137 rfl h (fun S0_12 h => ?_)
              refine z_aload_n C dX7_placeLine_137 rfl 0 rfl 138 rfl ?_
              refine z_get C (in_X7_placeLine_X7) 0 rfl rfl 22 (by decide) (List.mem_of_getElem? (i := 7) rfl) rfl rfl dX7_placeLine_138 141 rfl ?_
              refine z_iconst C 3 dX7_placeLine_141 (by decide) 142 rfl ?_
              refine z_aload_n C dX7_placeLine_142 rfl 0 rfl 143 rfl ?_
              refine z_get C (in_X7_placeLine_X7) 0 rfl rfl 21 (by decide) (List.mem_of_getElem? (i := 1) rfl) rfl rfl dX7_placeLine_143 146 rfl ?_
              refine z_imul C dX7_placeLine_146 147 rfl ?_
              refine z_iconst C 2 dX7_placeLine_147 (by decide) 148 rfl ?_
              refine z_iadd C dX7_placeLine_148 149 rfl ?_
              refine z_aload_n C dX7_placeLine_149 rfl 0 rfl 150 rfl ?_
              refine z_get C (in_X7_placeLine_X7) 0 rfl rfl 25 (by decide) (List.mem_of_getElem? (i := 4) rfl) rfl rfl dX7_placeLine_150 153 rfl ?_
              refine z_iast C (fun z => wX7 T a0 z) S0_12 22 (hD.zaddr rfl) 6 rfl rfl (fun _ => rfl) dX7_placeLine_153 154 rfl h (fun S0_13 h => ?_)
              refine z_aload_n C dX7_placeLine_154 rfl 0 rfl 155 rfl ?_
              refine z_dup C dX7_placeLine_155 rfl 156 rfl ?_
              refine z_get C (in_X7_placeLine_X7) 0 rfl rfl 21 (by decide) (List.mem_of_getElem? (i := 1) rfl) rfl rfl dX7_placeLine_156 159 rfl ?_
              refine z_iconst C 1 dX7_placeLine_159 (by decide) 160 rfl ?_
              refine z_iadd C dX7_placeLine_160 161 rfl ?_
              refine z_put (ty := .int) C (fun z => wX7 T a0 z) S0_13 (hD.zaddr rfl) (in_X7_placeLine_X7) tyX7 tyX7_ok nmX7 0 rfl rfl 21 (by decide) (List.mem_of_getElem? (i := 1) rfl) rfl rfl (by decide +kernel) rfl rfl (Nat.le_of_ble_eq_true rfl) rfl dX7_placeLine_161 164 rfl h (fun S0_14 h => ?_)
              refine z_iconst C 1 dX7_placeLine_164 (by decide) 165 rfl ?_
              exact z_zretWc (x := S0_14) (ex := ex) (fun z => wX7 T a0 z) C hr dX7_placeLine_165 (Or.inr rfl) h rfl
            · refine z_iconst C 0 dX7_placeLine_109 (by decide) 110 rfl ?_
              exact z_zretWc (x := r_10.2) (ex := ex) (fun z => wX7 T a0 z) C hr dX7_placeLine_110 (Or.inl rfl) h rfl
          · exact z_locals (ks := [0]) rfl (p_X7_placeLine_J85 C hr r_4.2 (hD.zaddr rfl) h)
      · refine z_iconst C 0 dX7_placeLine_56 (by decide) 57 rfl ?_
        exact z_zretWc (x := r_4.2) (ex := ex) (fun z => wX7 T a0 z) C hr dX7_placeLine_57 (Or.inl rfl) h rfl
    · refine z_iconst C 0 dX7_placeLine_35 (by decide) 36 rfl ?_
      exact z_zretWc (x := r_2.2) (ex := ex) (fun z => wX7 T a0 z) C hr dX7_placeLine_36 (Or.inl rfl) h rfl
  · refine z_aload_n C dX7_placeLine_9 rfl 0 rfl 10 rfl ?_
    refine z_iconst C 4 dX7_placeLine_10 (by decide) 11 rfl ?_
    refine z_aload_n C dX7_placeLine_11 rfl 0 rfl 12 rfl ?_
    refine z_get C (in_X7_placeLine_X7) 0 rfl rfl 14 (by decide) (List.mem_of_getElem? (i := 2) rfl) rfl rfl dX7_placeLine_12 15 rfl ?_
    refine z_callW C (wX7 T a0 S0) (([] : va_W)) (fun z => z.1) (fun z => wX7 T a0 z.2) (fun z => wX7 T a0 z.2) (fun z h => c_X7_bad l D T a0  S0 4 (S0 14 0) z h) ⟨rfl, rfl⟩ (z_cwV C 2 gX7_placeLine_X7_bad rfl rfl dd_X7_bad ⟨(Nat.le_of_ble_eq_true rfl), (Nat.le_of_ble_eq_true rfl)⟩) (hD.zaddr rfl) [0, 1, 2, 3, 4, 5, 6, 7, 8, 9, 10, 11, 12, 13, 14, 15, 16, 17] [] [0, 1, 2, 3, 4, 5, 6, 7, 8, 9, 10, 11, 12, 13, 14, 15, 16, 17] rfl rfl rfl (by decide) (fun _ => rfl) (fun _ => ⟨a0 99, [.int 4, .int (S0 14 0)], 6, 0, _, _, rfl, rfl, rfl, rfl, rfl⟩) (fun h => absurd rfl h) rfl (Nat.le_of_ble_eq_true rfl) dX7_placeLine_15 18 rfl h (fun r_15 h => ?_)
    exact z_zretW (x := r_15.2) (ex := ex) (fun z => wX7 T a0 z) C hr dX7_placeLine_18 h rfl

end
/-! StreamTreeModel.rocksLine ()Z -/
section
variable {p : Program} {l : Launch} {e : Env} {R : Room} {s : State} {m : MethodId} {args : Array Value} {below : List Frame} {meth : Method} {c : Code} {Q : State → Prop} {A : Nat → Prop} {D : va_G} {T : Nat → ClassId} {a0 : Nat → Nat}
theorem in_X7_rocksLine_X7 : ∀ w ∈ u_ws RX7 TX7 35, w ∈ wsX7_rocksLine := fun _ h => (List.mem_cons_of_mem _ (List.mem_append_right _ h))
def f_X7_rocksLine_L60b (S0 : Nat → Nat → Int32) (v1 : Int32) (v2 : Int32) (rec : Int32 → Option (Nat)) (a : Int32) : Option (Nat) := if (S0 25 0) ≤ a then (some 1) else (znz (S0 20 0) ((f_X7_isRead S0 v1 ((v2 + a) - (v2 + a) / (S0 20 0) * (S0 20 0))).bind fun r_7 => if r_7 = 0 then (rec (a + 1)) else (some 0)))
def f_X7_rocksLine_L60 (S0 : Nat → Nat → Int32) (v1 : Int32) (v2 : Int32) : Nat → Int32 → Option (Nat) := zloop (fun rec a => f_X7_rocksLine_L60b S0 v1 v2 rec a)
set_option maxHeartbeats 4000000 in
set_option maxRecDepth 100000 in
theorem p_X7_rocksLine_L60 (C : zC p R s m args meth c cX7_rocksLine 4 RX7 wsX7_rocksLine D T 4 86 0 0) (S0 : Nat → Nat → Int32) (v1 : Int32) (v2 : Int32) (hD : va_D A (wX7 T a0 S0)) : ∀ (n : Nat) (c0 : Int32) (b : Nat), f_X7_rocksLine_L60 S0 v1 v2 n c0 = some b → ((b = 0 → zt p l e R s m args below meth c 4 A D 0 0 Q (wX7 T a0 S0) [(0, .ref (a0 99))] 84 []) ∧ (b = 1 → zt p l e R s m args below meth c 4 A D 0 0 Q (wX7 T a0 S0) [(0, .ref (a0 99)), (1, .int v1), (2, .int v2)] 100 [])) → zt p l e R s m args below meth c 4 A D 0 0 Q (wX7 T a0 S0) [(0, .ref (a0 99)), (1, .int v1), (2, .int v2), (3, .int c0)] 60 [] := by
  intro n c0 b h K
  refine zloop_ind (P := fun a b => ((b = 0 → zt p l e R s m args below meth c 4 A D 0 0 Q (wX7 T a0 S0) [(0, .ref (a0 99))] 84 []) ∧ (b = 1 → zt p l e R s m args below meth c 4 A D 0 0 Q (wX7 T a0 S0) [(0, .ref (a0 99)), (1, .int v1), (2, .int v2)] 100 [])) → zt p l e R s m args below meth c 4 A D 0 0 Q (wX7 T a0 S0) [(0, .ref (a0 99)), (1, .int v1), (2, .int v2), (3, .int a)] 60 []) ?_ n c0 b h K
  clear h K b c0
  intro rec hrec a b h K
  have hrec : ∀ (c0 : Int32) (b : Nat), rec c0 = some b → ((b = 0 → zt p l e R s m args below meth c 4 A D 0 0 Q (wX7 T a0 S0) [(0, .ref (a0 99))] 84 []) ∧ (b = 1 → zt p l e R s m args below meth c 4 A D 0 0 Q (wX7 T a0 S0) [(0, .ref (a0 99)), (1, .int v1), (2, .int v2)] 100 [])) → zt p l e R s m args below meth c 4 A D 0 0 Q (wX7 T a0 S0) [(0, .ref (a0 99)), (1, .int v1), (2, .int v2), (3, .int c0)] 60 [] := fun c0 b h K => hrec c0 b h K
  unfold f_X7_rocksLine_L60b at h
  refine z_iload_n C dX7_rocksLine_60 rfl 3 rfl 61 rfl ?_
  refine z_aload_n C dX7_rocksLine_61 rfl 0 rfl 62 rfl ?_
  refine z_get C (in_X7_rocksLine_X7) 0 rfl rfl 25 (by decide) (List.mem_of_getElem? (i := 2) rfl) rfl rfl dX7_rocksLine_62 65 rfl ?_
  refine z_icmp_ge C 100 dX7_rocksLine_65 (by decide) 68 rfl h (fun h => ?_) (fun h => ?_)
  · refine z_locals (ks := [0, 1, 2]) (lv' := [(0, .ref (a0 99)), (1, .int v1), (2, .int v2)]) rfl ?_
    exact zexT0 (F := (zt p l e R s m args below meth c 4 A D 0 0 Q (wX7 T a0 S0) [(0, .ref (a0 99)), (1, .int v1), (2, .int v2)] 100 [])) h K.2
  · refine z_aload_n C dX7_rocksLine_68 rfl 0 rfl 69 rfl ?_
    refine z_iload_n C dX7_rocksLine_69 rfl 1 rfl 70 rfl ?_
    refine z_iload_n C dX7_rocksLine_70 rfl 2 rfl 71 rfl ?_
    refine z_iload_n C dX7_rocksLine_71 rfl 3 rfl 72 rfl ?_
    refine z_iadd C dX7_rocksLine_72 73 rfl ?_
    refine z_aload_n C dX7_rocksLine_73 rfl 0 rfl 74 rfl ?_
    refine z_get C (in_X7_rocksLine_X7) 0 rfl rfl 20 (by decide) (List.mem_of_getElem? (i := 3) rfl) rfl rfl dX7_rocksLine_74 77 rfl ?_
    refine z_irem C dX7_rocksLine_77 78 rfl h (fun h => ?_)
    refine z_callR C (wX7 T a0 S0) (fun v h => c_X7_isRead l D T a0  S0 v1 ((v2 + a) - (v2 + a) / (S0 20 0) * (S0 20 0)) v h) ⟨rfl, rfl⟩ (z_cwV C 2 gX7_rocksLine_X7_isRead rfl rfl dd_X7_isRead ⟨(Nat.le_of_ble_eq_true rfl), (Nat.le_of_ble_eq_true rfl)⟩) (hD.zaddr rfl) [0, 1, 2, 3, 4, 5, 6, 7, 8, 9, 10, 11, 12, 13, 14, 15, 16, 17] rfl rfl (fun _ => ⟨a0 99, [.int v1, .int ((v2 + a) - (v2 + a) / (S0 20 0) * (S0 20 0))], 6, 0, _, _, rfl, rfl, rfl, rfl, rfl⟩) (fun h => absurd rfl h) rfl (Nat.le_of_ble_eq_true rfl) dX7_rocksLine_78 81 rfl h (fun r_7 h => ?_)
    refine z_if_eq C 94 dX7_rocksLine_81 (by decide) 84 rfl h (fun h => ?_) (fun h => ?_)
    · refine z_iinc C (a + 1) [(0, .ref (a0 99)), (1, .int v1), (2, .int v2), (3, .int (a + 1))] dX7_rocksLine_94 3 rfl rfl (Nat.le_of_ble_eq_true rfl) [1, 2, 3, 0] rfl 97 rfl ?_
      refine z_goto C 60 dX7_rocksLine_97 (by decide) ?_
      exact z_locals (ks := [0, 1, 2, 3]) rfl (hrec _ _ h K)
    · refine z_locals (ks := [0]) (lv' := [(0, .ref (a0 99))]) rfl ?_
      exact zexT0 (F := (zt p l e R s m args below meth c 4 A D 0 0 Q (wX7 T a0 S0) [(0, .ref (a0 99))] 84 [])) h K.1

def f_X7_rocksLine_L102b  (v1 : Int32) (v2 : Int32) (rec : (Int32 × (Nat → Nat → Int32)) → Option ((Nat → Nat → Int32))) (a : Int32 × (Nat → Nat → Int32)) : Option ((Nat → Nat → Int32)) := if (a.2 25 0) ≤ a.1 then (some a.2) else (znz (a.2 20 0) ((f_X7_cell v1 ((v2 + a.1) - (v2 + a.1) / (a.2 20 0) * (a.2 20 0))).bind fun r_10 => zix r_10 240 fun j => zlet (zst a.2 23 j 1) fun S0_11 => rec ((a.1 + 1), S0_11)))
def f_X7_rocksLine_L102  (v1 : Int32) (v2 : Int32) : Nat → (Int32 × (Nat → Nat → Int32)) → Option ((Nat → Nat → Int32)) := zloop (fun rec a => f_X7_rocksLine_L102b v1 v2 rec a)
set_option maxHeartbeats 4000000 in
set_option maxRecDepth 100000 in
theorem p_X7_rocksLine_L102 (C : zC p R s m args meth c cX7_rocksLine 4 RX7 wsX7_rocksLine D T 4 86 0 0) (S0 : Nat → Nat → Int32) (v1 : Int32) (v2 : Int32) (hD : va_D A (wX7 T a0 S0)) : ∀ (n : Nat) (c0 : Int32) (c1 : Nat → Nat → Int32) (b : (Nat → Nat → Int32)), f_X7_rocksLine_L102 v1 v2 n (c0, c1) = some b → (zt p l e R s m args below meth c 4 A D 0 0 Q (wX7 T a0 b) [(0, .ref (a0 99))] 134 []) → zt p l e R s m args below meth c 4 A D 0 0 Q (wX7 T a0 c1) [(0, .ref (a0 99)), (1, .int v1), (2, .int v2), (3, .int c0)] 102 [] := by
  intro n c0 c1 b h K
  refine zloop_ind (P := fun a b => (zt p l e R s m args below meth c 4 A D 0 0 Q (wX7 T a0 b) [(0, .ref (a0 99))] 134 []) → zt p l e R s m args below meth c 4 A D 0 0 Q (wX7 T a0 a.2) [(0, .ref (a0 99)), (1, .int v1), (2, .int v2), (3, .int a.1)] 102 []) ?_ n (c0, c1) b h K
  clear h K b c0 c1
  intro rec hrec a b h K
  have hrec : ∀ (c0 : Int32) (c1 : Nat → Nat → Int32) (b : (Nat → Nat → Int32)), rec (c0, c1) = some b → (zt p l e R s m args below meth c 4 A D 0 0 Q (wX7 T a0 b) [(0, .ref (a0 99))] 134 []) → zt p l e R s m args below meth c 4 A D 0 0 Q (wX7 T a0 c1) [(0, .ref (a0 99)), (1, .int v1), (2, .int v2), (3, .int c0)] 102 [] := fun c0 c1 b h K => hrec (c0, c1) b h K
  unfold f_X7_rocksLine_L102b at h
  refine z_iload_n C dX7_rocksLine_102 rfl 3 rfl 103 rfl ?_
  refine z_aload_n C dX7_rocksLine_103 rfl 0 rfl 104 rfl ?_
  refine z_get C (in_X7_rocksLine_X7) 0 rfl rfl 25 (by decide) (List.mem_of_getElem? (i := 2) rfl) rfl rfl dX7_rocksLine_104 107 rfl ?_
  refine z_icmp_ge C 134 dX7_rocksLine_107 (by decide) 110 rfl h (fun h => ?_) (fun h => ?_)
  · refine z_locals (ks := [0]) (lv' := [(0, .ref (a0 99))]) rfl ?_
    exact zex1 (F := (fun e0 => zt p l e R s m args below meth c 4 A D 0 0 Q (wX7 T a0 e0) [(0, .ref (a0 99))] 134 [])) h K
  · refine z_aload_n C dX7_rocksLine_110 rfl 0 rfl 111 rfl ?_
    refine z_get C (in_X7_rocksLine_X7) 0 rfl rfl 23 (by decide) (List.mem_of_getElem? (i := 5) rfl) rfl rfl dX7_rocksLine_111 114 rfl ?_
    refine z_iload_n C dX7_rocksLine_114 rfl 1 rfl 115 rfl ?_
    refine z_iload_n C dX7_rocksLine_115 rfl 2 rfl 116 rfl ?_
    refine z_iload_n C dX7_rocksLine_116 rfl 3 rfl 117 rfl ?_
    refine z_iadd C dX7_rocksLine_117 118 rfl ?_
    refine z_aload_n C dX7_rocksLine_118 rfl 0 rfl 119 rfl ?_
    refine z_get C (in_X7_rocksLine_X7) 0 rfl rfl 20 (by decide) (List.mem_of_getElem? (i := 3) rfl) rfl rfl dX7_rocksLine_119 122 rfl ?_
    refine z_irem C dX7_rocksLine_122 123 rfl h (fun h => ?_)
    refine z_callR C ([]) (fun v h => c_X7_cell l D T    v1 ((v2 + a.1) - (v2 + a.1) / (a.2 20 0) * (a.2 20 0)) v h) ⟨rfl, rfl⟩ (z_cwS C 2 gX7_rocksLine_X7_cell rfl dd_X7_cell ⟨(Nat.le_of_ble_eq_true rfl), (Nat.le_of_ble_eq_true rfl)⟩) (hD.zaddr rfl) [] rfl rfl (fun h => absurd h (by decide)) (fun _ => rfl) rfl (Nat.le_of_ble_eq_true rfl) dX7_rocksLine_123 126 rfl h (fun r_10 h => ?_)
    refine z_iconst C 1 dX7_rocksLine_126 (by decide) 127 rfl ?_
    refine z_zastc (Or.inr rfl) C (fun z => wX7 T a0 z) a.2 23 (hD.zaddr rfl) 7 rfl rfl (fun _ => rfl) dX7_rocksLine_127 128 rfl h (fun S0_11 h => ?_)
    refine z_iinc C (a.1 + 1) [(0, .ref (a0 99)), (1, .int v1), (2, .int v2), (3, .int (a.1 + 1))] dX7_rocksLine_128 3 rfl rfl (Nat.le_of_ble_eq_true rfl) [1, 2, 3, 0] rfl 131 rfl ?_
    refine z_goto C 102 dX7_rocksLine_131 (by decide) ?_
    exact z_locals (ks := [0, 1, 2, 3]) rfl (hrec _ _ _ h K)

def f_X7_rocksLine (S0 : Nat → Nat → Int32)  : Option (Int32 × (Nat → Nat → Int32)) := (f_X7_go S0).bind fun r_1 => (f_X7_number r_1 1 (r_1 19 0)).bind fun r_2 => if r_2.1 = 0 then (some (0, r_2.2)) else (zlet (r_2.2 25 0) fun u_3 => (f_X7_number r_2.2 0 ((r_2.2 20 0) - 1)).bind fun r_4 => if r_4.1 = 0 then (some (0, r_4.2)) else (zlet (r_4.2 25 0) fun u_5 => (f_X7_isNumber r_4.2 1 (r_4.2 20 0)).bind fun r_6 => if r_6.1 = 0 then (some (0, r_6.2)) else ((f_X7_rocksLine_L60 r_6.2 u_3 u_5 zfuel 0).bind fun y_8 => if y_8 = 0 then ((f_X7_bad r_6.2 3 (r_6.2 14 0)).bind fun r_9 => zbo r_9.1 (some (r_9.1, r_9.2))) else ((f_X7_rocksLine_L102 u_3 u_5 zfuel (0, r_6.2)).bind fun y_12 => (f_X7_go y_12).bind fun r_13 => some (1, r_13)))))
theorem dd_X7_rocksLine : RX7 ≠ "java/lang/invoke/MethodHandle" ∧ RX7 ≠ "java/lang/invoke/VarHandle" ∧ (parseMethodDescriptor yX7_rocksLine.desc).map (fun d => d.parameters.length) = some 0 := by decide +kernel
set_option maxHeartbeats 4000000 in
set_option maxRecDepth 100000 in
theorem c_X7_rocksLine (l : Launch) (D : va_G) (T : Nat → ClassId) (a0 : Nat → Nat) (S0 : Nat → Nat → Int32)  (ex : Int32 × (Nat → Nat → Int32)) (h : f_X7_rocksLine S0 = some ex) : zWI l yX7_rocksLine wsX7_rocksLine ({ frames := 4, cells := 0, slots := 0, locals := 86 } : Room) D T [.ref (a0 99)] (wX7 T a0 S0) ex.1 (wX7 T a0 ex.2) := by
  refine z_begin (cc := cX7_rocksLine) (nL := 4) (own := RX7) (fr := 4) (lc := 86) (ret := some .boolean) (by decide) rfl (Nat.le_of_ble_eq_true rfl) (zA (wX7 T a0 S0)) rfl [(0, .ref (a0 99))] rfl ⟨rfl, rfl⟩ rfl ?_
  intro p e s m args below meth c C hr hD
  have hD := hD.zself
  unfold f_X7_rocksLine at h
  refine z_aload_n C dX7_rocksLine_0 rfl 0 rfl 1 rfl ?_
  refine z_callV C (wX7 T a0 S0) (([] : va_W)) (fun z => wX7 T a0 z) (fun z => wX7 T a0 z) (fun z h => c_X7_go l D T a0  S0  z h) ⟨rfl, rfl⟩ (z_cwV C 0 gX7_rocksLine_X7_go rfl rfl dd_X7_go ⟨(Nat.le_of_ble_eq_true rfl), (Nat.le_of_ble_eq_true rfl)⟩) (hD.zaddr rfl) [0, 1, 2, 3, 4, 5, 6, 7, 8, 9, 10, 11, 12, 13, 14, 15, 16, 17] [] [0, 1, 2, 3, 4, 5, 6, 7, 8, 9, 10, 11, 12, 13, 14, 15, 16, 17] rfl rfl rfl (by decide) (fun _ => rfl) (fun _ => ⟨a0 99, [], 6, 0, _, _, rfl, rfl, rfl, rfl, rfl⟩) (fun h => absurd rfl h) rfl (Nat.le_of_ble_eq_true rfl) dX7_rocksLine_1 4 rfl h (fun r_1 h => ?_)
  refine z_aload_n C dX7_rocksLine_4 rfl 0 rfl 5 rfl ?_
  refine z_iconst C 1 dX7_rocksLine_5 (by decide) 6 rfl ?_
  refine z_aload_n C dX7_rocksLine_6 rfl 0 rfl 7 rfl ?_
  refine z_get C (in_X7_rocksLine_X7) 0 rfl rfl 19 (by decide) (List.mem_of_getElem? (i := 1) rfl) rfl rfl dX7_rocksLine_7 10 rfl ?_
  refine z_callW C (wX7 T a0 r_1) (([] : va_W)) (fun z => z.1) (fun z => wX7 T a0 z.2) (fun z => wX7 T a0 z.2) (fun z h => c_X7_number l D T a0  r_1 1 (r_1 19 0) z h) ⟨rfl, rfl⟩ (z_cwV C 2 gX7_rocksLine_X7_number rfl rfl dd_X7_number ⟨(Nat.le_of_ble_eq_true rfl), (Nat.le_of_ble_eq_true rfl)⟩) (hD.zaddr rfl) [0, 1, 2, 3, 4, 5, 6, 7, 8, 9, 10, 11, 12, 13, 14, 15, 16, 17] [] [0, 1, 2, 3, 4, 5, 6, 7, 8, 9, 10, 11, 12, 13, 14, 15, 16, 17] rfl rfl rfl (by decide) (fun _ => rfl) (fun _ => ⟨a0 99, [.int 1, .int (r_1 19 0)], 6, 0, _, _, rfl, rfl, rfl, rfl, rfl⟩) (fun h => absurd rfl h) rfl (Nat.le_of_ble_eq_true rfl) dX7_rocksLine_10 13 rfl h (fun r_2 h => ?_)
  refine z_if_ne C 18 dX7_rocksLine_13 (by decide) 16 rfl h (fun h => ?_) (fun h => ?_)
  · refine z_aload_n C dX7_rocksLine_18 rfl 0 rfl 19 rfl ?_
    refine z_get C (in_X7_rocksLine_X7) 0 rfl rfl 25 (by decide) (List.mem_of_getElem? (i := 2) rfl) rfl rfl dX7_rocksLine_19 22 rfl ?_
    refine z_top h (fun u_3 h => ?_)
    refine z_istore_n C [(0, .ref (a0 99)), (1, .int u_3)] dX7_rocksLine_22 rfl (Nat.le_of_ble_eq_true rfl) [1, 0] rfl 23 rfl ?_
    refine z_aload_n C dX7_rocksLine_23 rfl 0 rfl 24 rfl ?_
    refine z_iconst C 0 dX7_rocksLine_24 (by decide) 25 rfl ?_
    refine z_aload_n C dX7_rocksLine_25 rfl 0 rfl 26 rfl ?_
    refine z_get C (in_X7_rocksLine_X7) 0 rfl rfl 20 (by decide) (List.mem_of_getElem? (i := 3) rfl) rfl rfl dX7_rocksLine_26 29 rfl ?_
    refine z_iconst C 1 dX7_rocksLine_29 (by decide) 30 rfl ?_
    refine z_isub C dX7_rocksLine_30 31 rfl ?_
    refine z_callW C (wX7 T a0 r_2.2) (([] : va_W)) (fun z => z.1) (fun z => wX7 T a0 z.2) (fun z => wX7 T a0 z.2) (fun z h => c_X7_number l D T a0  r_2.2 0 ((r_2.2 20 0) - 1) z h) ⟨rfl, rfl⟩ (z_cwV C 2 gX7_rocksLine_X7_number rfl rfl dd_X7_number ⟨(Nat.le_of_ble_eq_true rfl), (Nat.le_of_ble_eq_true rfl)⟩) (hD.zaddr rfl) [0, 1, 2, 3, 4, 5, 6, 7, 8, 9, 10, 11, 12, 13, 14, 15, 16, 17] [] [0, 1, 2, 3, 4, 5, 6, 7, 8, 9, 10, 11, 12, 13, 14, 15, 16, 17] rfl rfl rfl (by decide) (fun _ => rfl) (fun _ => ⟨a0 99, [.int 0, .int ((r_2.2 20 0) - 1)], 6, 0, _, _, rfl, rfl, rfl, rfl, rfl⟩) (fun h => absurd rfl h) rfl (Nat.le_of_ble_eq_true rfl) dX7_rocksLine_31 34 rfl h (fun r_4 h => ?_)
    refine z_if_ne C 39 dX7_rocksLine_34 (by decide) 37 rfl h (fun h => ?_) (fun h => ?_)
    · refine z_aload_n C dX7_rocksLine_39 rfl 0 rfl 40 rfl ?_
      refine z_get C (in_X7_rocksLine_X7) 0 rfl rfl 25 (by decide) (List.mem_of_getElem? (i := 2) rfl) rfl rfl dX7_rocksLine_40 43 rfl ?_
      refine z_top h (fun u_5 h => ?_)
      refine z_istore_n C [(0, .ref (a0 99)), (1, .int u_3), (2, .int u_5)] dX7_rocksLine_43 rfl (Nat.le_of_ble_eq_true rfl) [1, 2, 0] rfl 44 rfl ?_
      refine z_aload_n C dX7_rocksLine_44 rfl 0 rfl 45 rfl ?_
      refine z_iconst C 1 dX7_rocksLine_45 (by decide) 46 rfl ?_
      refine z_aload_n C dX7_rocksLine_46 rfl 0 rfl 47 rfl ?_
      refine z_get C (in_X7_rocksLine_X7) 0 rfl rfl 20 (by decide) (List.mem_of_getElem? (i := 3) rfl) rfl rfl dX7_rocksLine_47 50 rfl ?_
      refine z_callW C (wX7 T a0 r_4.2) (([] : va_W)) (fun z => z.1) (fun z => wX7 T a0 z.2) (fun z => wX7 T a0 z.2) (fun z h => c_X7_isNumber l D T a0  r_4.2 1 (r_4.2 20 0) z h) ⟨rfl, rfl⟩ (z_cwV C 2 gX7_rocksLine_X7_isNumber rfl rfl dd_X7_isNumber ⟨(Nat.le_of_ble_eq_true rfl), (Nat.le_of_ble_eq_true rfl)⟩) (hD.zaddr rfl) [0, 1, 2, 3, 4, 5, 6, 7, 8, 9, 10, 11, 12, 13, 14, 15, 16, 17] [] [0, 1, 2, 3, 4, 5, 6, 7, 8, 9, 10, 11, 12, 13, 14, 15, 16, 17] rfl rfl rfl (by decide) (fun _ => rfl) (fun _ => ⟨a0 99, [.int 1, .int (r_4.2 20 0)], 6, 0, _, _, rfl, rfl, rfl, rfl, rfl⟩) (fun h => absurd rfl h) rfl (Nat.le_of_ble_eq_true rfl) dX7_rocksLine_50 53 rfl h (fun r_6 h => ?_)
      refine z_if_ne C 58 dX7_rocksLine_53 (by decide) 56 rfl h (fun h => ?_) (fun h => ?_)
      · refine z_iconst C 0 dX7_rocksLine_58 (by decide) 59 rfl ?_
        refine z_istore_n C [(0, .ref (a0 99)), (1, .int u_3), (2, .int u_5), (3, .int 0)] dX7_rocksLine_59 rfl (Nat.le_of_ble_eq_true rfl) [1, 2, 3, 0] rfl 60 rfl ?_
        obtain ⟨y_8, hl_y_8, h⟩ := Option.bind_eq_some_iff.mp h
        refine z_locals (ks := [0, 1, 2, 3]) rfl (p_X7_rocksLine_L60 C r_6.2 u_3 u_5 (hD.zaddr rfl) _ _ _ hl_y_8 ⟨fun ht => ?_, fun ht => ?_⟩)
        · replace h := z_pos ht h
          refine z_aload_n C dX7_rocksLine_84 rfl 0 rfl 85 rfl ?_
          refine z_iconst C 3 dX7_rocksLine_85 (by decide) 86 rfl ?_
          refine z_aload_n C dX7_rocksLine_86 rfl 0 rfl 87 rfl ?_
          refine z_get C (in_X7_rocksLine_X7) 0 rfl rfl 14 (by decide) (List.mem_of_getElem? (i := 4) rfl) rfl rfl dX7_rocksLine_87 90 rfl ?_
          refine z_callW C (wX7 T a0 r_6.2) (([] : va_W)) (fun z => z.1) (fun z => wX7 T a0 z.2) (fun z => wX7 T a0 z.2) (fun z h => c_X7_bad l D T a0  r_6.2 3 (r_6.2 14 0) z h) ⟨rfl, rfl⟩ (z_cwV C 2 gX7_rocksLine_X7_bad rfl rfl dd_X7_bad ⟨(Nat.le_of_ble_eq_true rfl), (Nat.le_of_ble_eq_true rfl)⟩) (hD.zaddr rfl) [0, 1, 2, 3, 4, 5, 6, 7, 8, 9, 10, 11, 12, 13, 14, 15, 16, 17] [] [0, 1, 2, 3, 4, 5, 6, 7, 8, 9, 10, 11, 12, 13, 14, 15, 16, 17] rfl rfl rfl (by decide) (fun _ => rfl) (fun _ => ⟨a0 99, [.int 3, .int (r_6.2 14 0)], 6, 0, _, _, rfl, rfl, rfl, rfl, rfl⟩) (fun h => absurd rfl h) rfl (Nat.le_of_ble_eq_true rfl) dX7_rocksLine_90 93 rfl h (fun r_9 h => ?_)
          exact z_zretW (x := r_9.2) (ex := ex) (fun z => wX7 T a0 z) C hr dX7_rocksLine_93 h rfl
        · replace h := z_neg (by rw [ht]; decide) h
          refine z_iconst C 0 dX7_rocksLine_100 (by decide) 101 rfl ?_
          refine z_istore_n C [(0, .ref (a0 99)), (1, .int u_3), (2, .int u_5), (3, .int 0)] dX7_rocksLine_101 rfl (Nat.le_of_ble_eq_true rfl) [1, 2, 3, 0] rfl 102 rfl ?_
          obtain ⟨y_12, hl_y_12, h⟩ := Option.bind_eq_some_iff.mp h
          refine z_locals (ks := [0, 1, 2, 3]) rfl (p_X7_rocksLine_L102 C r_6.2 u_3 u_5 (hD.zaddr rfl) _ _ _ _ hl_y_12 ?_)
          refine z_aload_n C dX7_rocksLine_134 rfl 0 rfl 135 rfl ?_
          refine z_callV C (wX7 T a0 y_12) (([] : va_W)) (fun z => wX7 T a0 z) (fun z => wX7 T a0 z) (fun z h => c_X7_go l D T a0  y_12  z h) ⟨rfl, rfl⟩ (z_cwV C 0 gX7_rocksLine_X7_go rfl rfl dd_X7_go ⟨(Nat.le_of_ble_eq_true rfl), (Nat.le_of_ble_eq_true rfl)⟩) (hD.zaddr rfl) [0, 1, 2, 3, 4, 5, 6, 7, 8, 9, 10, 11, 12, 13, 14, 15, 16, 17] [] [0, 1, 2, 3, 4, 5, 6, 7, 8, 9, 10, 11, 12, 13, 14, 15, 16, 17] rfl rfl rfl (by decide) (fun _ => rfl) (fun _ => ⟨a0 99, [], 6, 0, _, _, rfl, rfl, rfl, rfl, rfl⟩) (fun h => absurd rfl h) rfl (Nat.le_of_ble_eq_true rfl) dX7_rocksLine_135 138 rfl h (fun r_13 h => ?_)
          refine z_iconst C 1 dX7_rocksLine_138 (by decide) 139 rfl ?_
          exact z_zretWc (x := r_13) (ex := ex) (fun z => wX7 T a0 z) C hr dX7_rocksLine_139 (Or.inr rfl) h rfl
      · refine z_iconst C 0 dX7_rocksLine_56 (by decide) 57 rfl ?_
        exact z_zretWc (x := r_6.2) (ex := ex) (fun z => wX7 T a0 z) C hr dX7_rocksLine_57 (Or.inl rfl) h rfl
    · refine z_iconst C 0 dX7_rocksLine_37 (by decide) 38 rfl ?_
      exact z_zretWc (x := r_4.2) (ex := ex) (fun z => wX7 T a0 z) C hr dX7_rocksLine_38 (Or.inl rfl) h rfl
  · refine z_iconst C 0 dX7_rocksLine_16 (by decide) 17 rfl ?_
    exact z_zretWc (x := r_2.2) (ex := ex) (fun z => wX7 T a0 z) C hr dX7_rocksLine_17 (Or.inl rfl) h rfl

end
/-! StreamTreeModel.setLine (I)Z -/
section
variable {p : Program} {l : Launch} {e : Env} {R : Room} {s : State} {m : MethodId} {args : Array Value} {below : List Frame} {meth : Method} {c : Code} {Q : State → Prop} {A : Nat → Prop} {D : va_G} {T : Nat → ClassId} {a0 : Nat → Nat}
theorem in_X7_setLine_X7 : ∀ w ∈ u_ws RX7 TX7 35, w ∈ wsX7_setLine := fun _ h => (List.mem_cons_of_mem _ (List.mem_append_right _ h))
def f_X7_setLine_J61 (S0 : Nat → Nat → Int32) (x2 : Int32) (k1 : Int32) (k2 : Int32) : Option (Int32 × (Nat → Nat → Int32)) := zix k1 3 fun j => zlet (zst S0 24 j k2) fun S0_3 => zbo x2 (some (x2, S0_3))
set_option maxHeartbeats 4000000 in
set_option maxRecDepth 100000 in
theorem p_X7_setLine_J61 {w0 : va_W} (C : zC p R s m args meth c cX7_setLine 3 RX7 wsX7_setLine D T 4 86 0 0) (hr : meth.sig.returnType = some .boolean) (S0 : Nat → Nat → Int32) (x2 : Int32) (k1 : Int32) (k2 : Int32) (hD : va_D (zA w0) (wX7 T a0 S0)) {ex : Int32 × (Nat → Nat → Int32)} (h : f_X7_setLine_J61 S0 x2 k1 k2 = some ex) : zt p l e R s m args below meth c 3 (zA w0) D 0 0 (MQ below (zQJ D w0 ex.1 (wX7 T a0 ex.2)) args s 0 0 (zA w0)) (wX7 T a0 S0) [(2, .int x2)] 61 [.int k2, .int k1, .ref (a0 24)] := by
  unfold f_X7_setLine_J61 at h
  refine z_iast C (fun z => wX7 T a0 z) S0 24 (hD.zaddr rfl) 8 rfl rfl (fun _ => rfl) dX7_setLine_61 62 rfl h (fun S0_3 h => ?_)
  refine z_iload_n C dX7_setLine_62 rfl 0 rfl 63 rfl ?_
  exact z_zretW (x := S0_3) (ex := ex) (fun z => wX7 T a0 z) C hr dX7_setLine_63 h rfl

def f_X7_setLine_J35 (S0 : Nat → Nat → Int32) (x1 : Int32) (k1 : Int32) (k2 : Int32) : Option (Int32 × (Nat → Nat → Int32)) := (f_X7_number S0 k1 k2).bind fun r_2 => if r_2.1 = 0 then (zix x1 3 fun _ => f_X7_setLine_J61 r_2.2 r_2.1 x1 (r_2.2 24 (Int32.toNatClampNeg x1))) else (f_X7_setLine_J61 r_2.2 r_2.1 x1 (r_2.2 25 0))
set_option maxHeartbeats 4000000 in
set_option maxRecDepth 100000 in
theorem p_X7_setLine_J35 {w0 : va_W} (C : zC p R s m args meth c cX7_setLine 3 RX7 wsX7_setLine D T 4 86 0 0) (hr : meth.sig.returnType = some .boolean) (S0 : Nat → Nat → Int32) (x1 : Int32) (k1 : Int32) (k2 : Int32) (hD : va_D (zA w0) (wX7 T a0 S0)) {ex : Int32 × (Nat → Nat → Int32)} (h : f_X7_setLine_J35 S0 x1 k1 k2 = some ex) : zt p l e R s m args below meth c 3 (zA w0) D 0 0 (MQ below (zQJ D w0 ex.1 (wX7 T a0 ex.2)) args s 0 0 (zA w0)) (wX7 T a0 S0) [(0, .ref (a0 99)), (1, .int x1)] 35 [.int k2, .int k1, .ref (a0 99)] := by
  unfold f_X7_setLine_J35 at h
  refine z_callW C (wX7 T a0 S0) (([] : va_W)) (fun z => z.1) (fun z => wX7 T a0 z.2) (fun z => wX7 T a0 z.2) (fun z h => c_X7_number l D T a0  S0 k1 k2 z h) ⟨rfl, rfl⟩ (z_cwV C 2 gX7_setLine_X7_number rfl rfl dd_X7_number ⟨(Nat.le_of_ble_eq_true rfl), (Nat.le_of_ble_eq_true rfl)⟩) (hD.zaddr rfl) [0, 1, 2, 3, 4, 5, 6, 7, 8, 9, 10, 11, 12, 13, 14, 15, 16, 17] [] [0, 1, 2, 3, 4, 5, 6, 7, 8, 9, 10, 11, 12, 13, 14, 15, 16, 17] rfl rfl rfl (by decide) (fun _ => rfl) (fun _ => ⟨a0 99, [.int k1, .int k2], 6, 0, _, _, rfl, rfl, rfl, rfl, rfl⟩) (fun h => absurd rfl h) rfl (Nat.le_of_ble_eq_true rfl) dX7_setLine_35 38 rfl h (fun r_2 h => ?_)
  refine z_istore_n C [(0, .ref (a0 99)), (1, .int x1), (2, .int r_2.1)] dX7_setLine_38 rfl (Nat.le_of_ble_eq_true rfl) [1, 2, 0] rfl 39 rfl ?_
  refine z_aload_n C dX7_setLine_39 rfl 0 rfl 40 rfl ?_
  refine z_get C (in_X7_setLine_X7) 0 rfl rfl 24 (by decide) (List.mem_of_getElem? (i := 1) rfl) rfl rfl dX7_setLine_40 43 rfl ?_
  refine z_iload_n C dX7_setLine_43 rfl 1 rfl 44 rfl ?_
  refine z_iload_n C dX7_setLine_44 rfl 2 rfl 45 rfl ?_
  refine z_if_eq C 55 dX7_setLine_45 (by decide) 48 rfl h (fun h => ?_) (fun h => ?_)
  · refine z_aload_n C dX7_setLine_55 rfl 0 rfl 56 rfl ?_
    refine z_get C (in_X7_setLine_X7) 0 rfl rfl 24 (by decide) (List.mem_of_getElem? (i := 1) rfl) rfl rfl dX7_setLine_56 59 rfl ?_
    refine z_iload_n C dX7_setLine_59 rfl 1 rfl 60 rfl ?_
    refine z_iald C 8 rfl rfl dX7_setLine_60 61 rfl h (fun h => ?_)
    exact z_locals (ks := [2]) rfl (p_X7_setLine_J61 C hr r_2.2 r_2.1 x1 (r_2.2 24 (Int32.toNatClampNeg x1)) (hD.zaddr rfl) h)
  · refine z_aload_n C dX7_setLine_48 rfl 0 rfl 49 rfl ?_
    refine z_get C (in_X7_setLine_X7) 0 rfl rfl 25 (by decide) (List.mem_of_getElem? (i := 2) rfl) rfl rfl dX7_setLine_49 52 rfl ?_
    refine z_goto C 61 dX7_setLine_52 (by decide) ?_
    exact z_locals (ks := [2]) rfl (p_X7_setLine_J61 C hr r_2.2 r_2.1 x1 (r_2.2 25 0) (hD.zaddr rfl) h)

def f_X7_setLine_J14 (S0 : Nat → Nat → Int32) (x1 : Int32) (k1 : Int32) : Option (Int32 × (Nat → Nat → Int32)) := if x1 = 0 then (f_X7_setLine_J35 S0 x1 k1 99) else (if x1 = 1 then (f_X7_setLine_J35 S0 x1 k1 40) else (f_X7_setLine_J35 S0 x1 k1 6))
set_option maxHeartbeats 4000000 in
set_option maxRecDepth 100000 in
theorem p_X7_setLine_J14 {w0 : va_W} (C : zC p R s m args meth c cX7_setLine 3 RX7 wsX7_setLine D T 4 86 0 0) (hr : meth.sig.returnType = some .boolean) (S0 : Nat → Nat → Int32) (x1 : Int32) (k1 : Int32) (hD : va_D (zA w0) (wX7 T a0 S0)) {ex : Int32 × (Nat → Nat → Int32)} (h : f_X7_setLine_J14 S0 x1 k1 = some ex) : zt p l e R s m args below meth c 3 (zA w0) D 0 0 (MQ below (zQJ D w0 ex.1 (wX7 T a0 ex.2)) args s 0 0 (zA w0)) (wX7 T a0 S0) [(0, .ref (a0 99)), (1, .int x1)] 14 [.int k1, .ref (a0 99)] := by
  unfold f_X7_setLine_J14 at h
  refine z_iload_n C dX7_setLine_14 rfl 1 rfl 15 rfl ?_
  refine z_if_ne C 23 dX7_setLine_15 (by decide) 18 rfl h (fun h => ?_) (fun h => ?_)
  · refine z_iload_n C dX7_setLine_23 rfl 1 rfl 24 rfl ?_
    refine z_iconst C 1 dX7_setLine_24 (by decide) 25 rfl ?_
    refine z_icmp_ne C 33 dX7_setLine_25 (by decide) 28 rfl h (fun h => ?_) (fun h => ?_)
    · refine z_bipush C 6 dX7_setLine_33 (by decide) 35 rfl ?_
      exact z_locals (ks := [0, 1]) rfl (p_X7_setLine_J35 C hr S0 x1 k1 6 (hD.zaddr rfl) h)
    · refine z_bipush C 40 dX7_setLine_28 (by decide) 30 rfl ?_
      refine z_goto C 35 dX7_setLine_30 (by decide) ?_
      exact z_locals (ks := [0, 1]) rfl (p_X7_setLine_J35 C hr S0 x1 k1 40 (hD.zaddr rfl) h)
  · refine z_bipush C 99 dX7_setLine_18 (by decide) 20 rfl ?_
    refine z_goto C 35 dX7_setLine_20 (by decide) ?_
    exact z_locals (ks := [0, 1]) rfl (p_X7_setLine_J35 C hr S0 x1 k1 99 (hD.zaddr rfl) h)

def f_X7_setLine (S0 : Nat → Nat → Int32) (v1 : Int32) : Option (Int32 × (Nat → Nat → Int32)) := (f_X7_go S0).bind fun r_1 => if v1 = 0 then (f_X7_setLine_J14 r_1 v1 1) else (f_X7_setLine_J14 r_1 v1 0)
theorem dd_X7_setLine : RX7 ≠ "java/lang/invoke/MethodHandle" ∧ RX7 ≠ "java/lang/invoke/VarHandle" ∧ (parseMethodDescriptor yX7_setLine.desc).map (fun d => d.parameters.length) = some 1 := by decide +kernel
set_option maxHeartbeats 4000000 in
set_option maxRecDepth 100000 in
theorem c_X7_setLine (l : Launch) (D : va_G) (T : Nat → ClassId) (a0 : Nat → Nat) (S0 : Nat → Nat → Int32) (v1 : Int32) (ex : Int32 × (Nat → Nat → Int32)) (h : f_X7_setLine S0 v1 = some ex) : zWI l yX7_setLine wsX7_setLine ({ frames := 4, cells := 0, slots := 0, locals := 86 } : Room) D T [.ref (a0 99), .int v1] (wX7 T a0 S0) ex.1 (wX7 T a0 ex.2) := by
  refine z_begin (cc := cX7_setLine) (nL := 3) (own := RX7) (fr := 4) (lc := 86) (ret := some .boolean) (by decide) rfl (Nat.le_of_ble_eq_true rfl) (zA (wX7 T a0 S0)) rfl [(0, .ref (a0 99)), (1, .int v1)] rfl ⟨rfl, rfl⟩ rfl ?_
  intro p e s m args below meth c C hr hD
  have hD := hD.zself
  unfold f_X7_setLine at h
  refine z_aload_n C dX7_setLine_0 rfl 0 rfl 1 rfl ?_
  refine z_callV C (wX7 T a0 S0) (([] : va_W)) (fun z => wX7 T a0 z) (fun z => wX7 T a0 z) (fun z h => c_X7_go l D T a0  S0  z h) ⟨rfl, rfl⟩ (z_cwV C 0 gX7_setLine_X7_go rfl rfl dd_X7_go ⟨(Nat.le_of_ble_eq_true rfl), (Nat.le_of_ble_eq_true rfl)⟩) (hD.zaddr rfl) [0, 1, 2, 3, 4, 5, 6, 7, 8, 9, 10, 11, 12, 13, 14, 15, 16, 17] [] [0, 1, 2, 3, 4, 5, 6, 7, 8, 9, 10, 11, 12, 13, 14, 15, 16, 17] rfl rfl rfl (by decide) (fun _ => rfl) (fun _ => ⟨a0 99, [], 6, 0, _, _, rfl, rfl, rfl, rfl, rfl⟩) (fun h => absurd rfl h) rfl (Nat.le_of_ble_eq_true rfl) dX7_setLine_1 4 rfl h (fun r_1 h => ?_)
  refine z_aload_n C dX7_setLine_4 rfl 0 rfl 5 rfl ?_
  refine z_iload_n C dX7_setLine_5 rfl 1 rfl 6 rfl ?_
  refine z_if_ne C 13 dX7_setLine_6 (by decide) 9 rfl h (fun h => ?_) (fun h => ?_)
  · refine z_iconst C 0 dX7_setLine_13 (by decide) 14 rfl ?_
    exact z_locals (ks := [0, 1]) rfl (p_X7_setLine_J14 C hr r_1 v1 0 (hD.zaddr rfl) h)
  · refine z_iconst C 1 dX7_setLine_9 (by decide) 10 rfl ?_
    refine z_goto C 14 dX7_setLine_10 (by decide) ?_
    exact z_locals (ks := [0, 1]) rfl (p_X7_setLine_J14 C hr r_1 v1 1 (hD.zaddr rfl) h)

end
/-! StreamTreeModel.chart (II)Z -/
section
variable {p : Program} {l : Launch} {e : Env} {R : Room} {s : State} {m : MethodId} {args : Array Value} {below : List Frame} {meth : Method} {c : Code} {Q : State → Prop} {A : Nat → Prop} {D : va_G} {T : Nat → ClassId} {a0 : Nat → Nat}
theorem in_X7_chart_X7 : ∀ w ∈ u_ws RX7 TX7 35, w ∈ wsX7_chart := fun _ h => (List.mem_cons_of_mem _ (List.mem_append_right _ h))
def f_X7_chart (S0 : Nat → Nat → Int32) (v1 : Int32) (v2 : Int32) : Option (Int32 × (Nat → Nat → Int32)) := zlet (zst S0 0 0 0) fun S0_1 => (f_X7_within v1 2 9).bind fun r_2 => if r_2 = 0 then (some (0, S0_1)) else ((f_X7_within v2 6 24).bind fun r_3 => if r_3 = 0 then (some (0, S0_1)) else ((f_X7_begins S0_1 v1 v2).bind fun r_4 => some (1, r_4)))
theorem dd_X7_chart : RX7 ≠ "java/lang/invoke/MethodHandle" ∧ RX7 ≠ "java/lang/invoke/VarHandle" ∧ (parseMethodDescriptor yX7_chart.desc).map (fun d => d.parameters.length) = some 2 := by decide +kernel
set_option maxHeartbeats 4000000 in
set_option maxRecDepth 100000 in
theorem c_X7_chart (l : Launch) (D : va_G) (T : Nat → ClassId) (a0 : Nat → Nat) (S0 : Nat → Nat → Int32) (v1 : Int32) (v2 : Int32) (ex : Int32 × (Nat → Nat → Int32)) (h : f_X7_chart S0 v1 v2 = some ex) : zWI l yX7_chart wsX7_chart ({ frames := 1, cells := 0, slots := 0, locals := 23 } : Room) D T [.ref (a0 99), .int v1, .int v2] (wX7 T a0 S0) ex.1 (wX7 T a0 ex.2) := by
  refine z_begin (cc := cX7_chart) (nL := 3) (own := RX7) (fr := 1) (lc := 23) (ret := some .boolean) (by decide) rfl (Nat.le_of_ble_eq_true rfl) (zA (wX7 T a0 S0)) rfl [(0, .ref (a0 99)), (1, .int v1), (2, .int v2)] rfl ⟨rfl, rfl⟩ rfl ?_
  intro p e s m args below meth c C hr hD
  have hD := hD.zself
  unfold f_X7_chart at h
  refine z_aload_n C dX7_chart_0 rfl 0 rfl 1 rfl ?_
  refine z_iconst C 0 dX7_chart_1 (by decide) 2 rfl ?_
  refine z_put (ty := .int) C (fun z => wX7 T a0 z) S0 (hD.zaddr rfl) (in_X7_chart_X7) tyX7 tyX7_ok nmX7 0 rfl rfl 0 (by decide) (List.mem_of_getElem? (i := 1) rfl) rfl rfl (by decide +kernel) rfl rfl (Nat.le_of_ble_eq_true rfl) rfl dX7_chart_2 5 rfl h (fun S0_1 h => ?_)
  refine z_iload_n C dX7_chart_5 rfl 1 rfl 6 rfl ?_
  refine z_iconst C 2 dX7_chart_6 (by decide) 7 rfl ?_
  refine z_bipush C 9 dX7_chart_7 (by decide) 9 rfl ?_
  refine z_callR C ([]) (fun v h => c_X7_within l D T    v1 2 9 v h) ⟨rfl, rfl⟩ (z_cwS C 3 gX7_chart_X7_within rfl dd_X7_within ⟨(Nat.le_of_ble_eq_true rfl), (Nat.le_of_ble_eq_true rfl)⟩) (hD.zaddr rfl) [] rfl rfl (fun h => absurd h (by decide)) (fun _ => rfl) rfl (Nat.le_of_ble_eq_true rfl) dX7_chart_9 12 rfl h (fun r_2 h => ?_)
  refine z_if_eq C 26 dX7_chart_12 (by decide) 15 rfl h (fun h => ?_) (fun h => ?_)
  · refine z_iconst C 0 dX7_chart_26 (by decide) 27 rfl ?_
    exact z_zretWc (x := S0_1) (ex := ex) (fun z => wX7 T a0 z) C hr dX7_chart_27 (Or.inl rfl) h rfl
  · refine z_iload_n C dX7_chart_15 rfl 2 rfl 16 rfl ?_
    refine z_bipush C 6 dX7_chart_16 (by decide) 18 rfl ?_
    refine z_bipush C 24 dX7_chart_18 (by decide) 20 rfl ?_
    refine z_callR C ([]) (fun v h => c_X7_within l D T    v2 6 24 v h) ⟨rfl, rfl⟩ (z_cwS C 3 gX7_chart_X7_within rfl dd_X7_within ⟨(Nat.le_of_ble_eq_true rfl), (Nat.le_of_ble_eq_true rfl)⟩) (hD.zaddr rfl) [] rfl rfl (fun h => absurd h (by decide)) (fun _ => rfl) rfl (Nat.le_of_ble_eq_true rfl) dX7_chart_20 23 rfl h (fun r_3 h => ?_)
    refine z_if_ne C 28 dX7_chart_23 (by decide) 26 rfl h (fun h => ?_) (fun h => ?_)
    · refine z_aload_n C dX7_chart_28 rfl 0 rfl 29 rfl ?_
      refine z_iload_n C dX7_chart_29 rfl 1 rfl 30 rfl ?_
      refine z_iload_n C dX7_chart_30 rfl 2 rfl 31 rfl ?_
      refine z_callV C (wX7 T a0 S0_1) (([] : va_W)) (fun z => wX7 T a0 z) (fun z => wX7 T a0 z) (fun z h => c_X7_begins l D T a0  S0_1 v1 v2 z h) ⟨rfl, rfl⟩ (z_cwV C 2 gX7_chart_X7_begins rfl rfl dd_X7_begins ⟨(Nat.le_of_ble_eq_true rfl), (Nat.le_of_ble_eq_true rfl)⟩) (hD.zaddr rfl) [0, 1, 2, 3, 4, 5, 6, 7, 8, 9, 10, 11, 12, 13, 14, 15, 16, 17] [] [0, 1, 2, 3, 4, 5, 6, 7, 8, 9, 10, 11, 12, 13, 14, 15, 16, 17] rfl rfl rfl (by decide) (fun _ => rfl) (fun _ => ⟨a0 99, [.int v1, .int v2], 6, 0, _, _, rfl, rfl, rfl, rfl, rfl⟩) (fun h => absurd rfl h) rfl (Nat.le_of_ble_eq_true rfl) dX7_chart_31 34 rfl h (fun r_4 h => ?_)
      refine z_iconst C 1 dX7_chart_34 (by decide) 35 rfl ?_
      exact z_zretWc (x := r_4) (ex := ex) (fun z => wX7 T a0 z) C hr dX7_chart_35 (Or.inr rfl) h rfl
    · refine z_iconst C 0 dX7_chart_26 (by decide) 27 rfl ?_
      exact z_zretWc (x := S0_1) (ex := ex) (fun z => wX7 T a0 z) C hr dX7_chart_27 (Or.inl rfl) h rfl

end
/-! StreamTreeModel.place (III)I -/
section
variable {p : Program} {l : Launch} {e : Env} {R : Room} {s : State} {m : MethodId} {args : Array Value} {below : List Frame} {meth : Method} {c : Code} {Q : State → Prop} {A : Nat → Prop} {D : va_G} {T : Nat → ClassId} {a0 : Nat → Nat}
theorem in_X7_place_X7 : ∀ w ∈ u_ws RX7 TX7 35, w ∈ wsX7_place := fun _ h => (List.mem_cons_of_mem _ (List.mem_append_right _ h))
def f_X7_place_J67 (S0 : Nat → Nat → Int32) (x1 : Int32) (x2 : Int32) (x3 : Int32) (x4 : Int32)  : Option (Int32 × (Nat → Nat → Int32)) := if x4 < 0 then (if x3 = 0 then (some ((-1), S0)) else (if (S0 9 0) = 7 then (some ((-1), S0)) else ((f_X7_adds S0 x1 x2 x3).bind fun r_6 => some ((r_6 9 0), r_6)))) else ((f_X7_goes S0 x4).bind fun r_7 => some ((r_7 9 0), r_7))
set_option maxHeartbeats 4000000 in
set_option maxRecDepth 100000 in
theorem p_X7_place_J67 {w0 : va_W} (C : zC p R s m args meth c cX7_place 5 RX7 wsX7_place D T 2 48 0 0) (hr : meth.sig.returnType = some .int) (S0 : Nat → Nat → Int32) (x1 : Int32) (x2 : Int32) (x3 : Int32) (x4 : Int32)  (hD : va_D (zA w0) (wX7 T a0 S0)) {ex : Int32 × (Nat → Nat → Int32)} (h : f_X7_place_J67 S0 x1 x2 x3 x4 = some ex) : zt p l e R s m args below meth c 5 (zA w0) D 0 0 (MQ below (zQJ D w0 ex.1 (wX7 T a0 ex.2)) args s 0 0 (zA w0)) (wX7 T a0 S0) [(0, .ref (a0 99)), (1, .int x1), (2, .int x2), (3, .int x3), (4, .int x4)] 67 [] := by
  unfold f_X7_place_J67 at h
  refine z_iload C dX7_place_67 4 rfl 69 rfl ?_
  refine z_if_lt C 81 dX7_place_69 (by decide) 72 rfl h (fun h => ?_) (fun h => ?_)
  · refine z_iload_n C dX7_place_81 rfl 3 rfl 82 rfl ?_
    refine z_if_eq C 94 dX7_place_82 (by decide) 85 rfl h (fun h => ?_) (fun h => ?_)
    · refine z_iconst C (-1) dX7_place_94 (by decide) 95 rfl ?_
      exact z_iretW (x := S0) (ex := ex) (fun z => wX7 T a0 z) C hr dX7_place_95 h rfl
    · refine z_aload_n C dX7_place_85 rfl 0 rfl 86 rfl ?_
      refine z_get C (in_X7_place_X7) 0 rfl rfl 9 (by decide) (List.mem_of_getElem? (i := 4) rfl) rfl rfl dX7_place_86 89 rfl ?_
      refine z_bipush C 7 dX7_place_89 (by decide) 91 rfl ?_
      refine z_icmp_ne C 96 dX7_place_91 (by decide) 94 rfl h (fun h => ?_) (fun h => ?_)
      · refine z_aload_n C dX7_place_96 rfl 0 rfl 97 rfl ?_
        refine z_iload_n C dX7_place_97 rfl 1 rfl 98 rfl ?_
        refine z_iload_n C dX7_place_98 rfl 2 rfl 99 rfl ?_
        refine z_iload_n C dX7_place_99 rfl 3 rfl 100 rfl ?_
        refine z_callV C (wX7 T a0 S0) (([] : va_W)) (fun z => wX7 T a0 z) (fun z => wX7 T a0 z) (fun z h => c_X7_adds l D T a0  S0 x1 x2 x3 z h) ⟨rfl, rfl⟩ (z_cwV C 3 gX7_place_X7_adds rfl rfl dd_X7_adds ⟨(Nat.le_of_ble_eq_true rfl), (Nat.le_of_ble_eq_true rfl)⟩) (hD.zaddr rfl) [0, 1, 2, 3, 4, 5, 6, 7, 8, 9, 10, 11, 12, 13, 14, 15, 16, 17] [] [0, 1, 2, 3, 4, 5, 6, 7, 8, 9, 10, 11, 12, 13, 14, 15, 16, 17] rfl rfl rfl (by decide) (fun _ => rfl) (fun _ => ⟨a0 99, [.int x1, .int x2, .int x3], 6, 0, _, _, rfl, rfl, rfl, rfl, rfl⟩) (fun h => absurd rfl h) rfl (Nat.le_of_ble_eq_true rfl) dX7_place_100 103 rfl h (fun r_6 h => ?_)
        refine z_aload_n C dX7_place_103 rfl 0 rfl 104 rfl ?_
        refine z_get C (in_X7_place_X7) 0 rfl rfl 9 (by decide) (List.mem_of_getElem? (i := 4) rfl) rfl rfl dX7_place_104 107 rfl ?_
        exact z_iretW (x := r_6) (ex := ex) (fun z => wX7 T a0 z) C hr dX7_place_107 h rfl
      · refine z_iconst C (-1) dX7_place_94 (by decide) 95 rfl ?_
        exact z_iretW (x := S0) (ex := ex) (fun z => wX7 T a0 z) C hr dX7_place_95 h rfl
  · refine z_aload_n C dX7_place_72 rfl 0 rfl 73 rfl ?_
    refine z_iload C dX7_place_73 4 rfl 75 rfl ?_
    refine z_callV C (wX7 T a0 S0) (([] : va_W)) (fun z => wX7 T a0 z) (fun z => wX7 T a0 z) (fun z h => c_X7_goes l D T a0  S0 x4 z h) ⟨rfl, rfl⟩ (z_cwV C 1 gX7_place_X7_goes rfl rfl dd_X7_goes ⟨(Nat.le_of_ble_eq_true rfl), (Nat.le_of_ble_eq_true rfl)⟩) (hD.zaddr rfl) [0, 1, 2, 3, 4, 5, 6, 7, 8, 9, 10, 11, 12, 13, 14, 15, 16, 17] [] [0, 1, 2, 3, 4, 5, 6, 7, 8, 9, 10, 11, 12, 13, 14, 15, 16, 17] rfl rfl rfl (by decide) (fun _ => rfl) (fun _ => ⟨a0 99, [.int x4], 6, 0, _, _, rfl, rfl, rfl, rfl, rfl⟩) (fun h => absurd rfl h) rfl (Nat.le_of_ble_eq_true rfl) dX7_place_75 78 rfl h (fun r_7 h => ?_)
    refine z_goto C 103 dX7_place_78 (by decide) ?_
    refine z_aload_n C dX7_place_103 rfl 0 rfl 104 rfl ?_
    refine z_get C (in_X7_place_X7) 0 rfl rfl 9 (by decide) (List.mem_of_getElem? (i := 4) rfl) rfl rfl dX7_place_104 107 rfl ?_
    exact z_iretW (x := r_7) (ex := ex) (fun z => wX7 T a0 z) C hr dX7_place_107 h rfl

def f_X7_place (S0 : Nat → Nat → Int32) (v1 : Int32) (v2 : Int32) (v3 : Int32) : Option (Int32 × (Nat → Nat → Int32)) := zlet (zst S0 0 0 0) fun S0_1 => (f_X7_isCell S0_1 v1 v2).bind fun r_2 => if r_2 = 0 then (some ((-1), S0_1)) else ((f_X7_within v3 0 99).bind fun r_3 => if r_3 = 0 then (some ((-1), S0_1)) else ((f_X7_cell v1 v2).bind fun r_4 => zix r_4 240 fun _ => if (S0_1 10 (Int32.toNatClampNeg r_4)) = 0 then ((f_X7_placeAt S0_1 v1 v2).bind fun r_5 => if r_5 < 0 then (f_X7_place_J67 S0_1 v1 v2 v3 r_5) else (if v3 ≤ 0 then (f_X7_place_J67 S0_1 v1 v2 v3 r_5) else (zix r_5 8 fun j => zlet (zst S0_1 8 j v3) fun S0_8 => some ((S0_8 9 0), S0_8)))) else (some ((-1), S0_1))))
theorem dd_X7_place : RX7 ≠ "java/lang/invoke/MethodHandle" ∧ RX7 ≠ "java/lang/invoke/VarHandle" ∧ (parseMethodDescriptor yX7_place.desc).map (fun d => d.parameters.length) = some 3 := by decide +kernel
set_option maxHeartbeats 4000000 in
set_option maxRecDepth 100000 in
theorem c_X7_place (l : Launch) (D : va_G) (T : Nat → ClassId) (a0 : Nat → Nat) (S0 : Nat → Nat → Int32) (v1 : Int32) (v2 : Int32) (v3 : Int32) (ex : Int32 × (Nat → Nat → Int32)) (h : f_X7_place S0 v1 v2 v3 = some ex) : zWI l yX7_place wsX7_place ({ frames := 2, cells := 0, slots := 0, locals := 48 } : Room) D T [.ref (a0 99), .int v1, .int v2, .int v3] (wX7 T a0 S0) ex.1 (wX7 T a0 ex.2) := by
  refine z_begin (cc := cX7_place) (nL := 5) (own := RX7) (fr := 2) (lc := 48) (ret := some .int) (by decide) rfl (Nat.le_of_ble_eq_true rfl) (zA (wX7 T a0 S0)) rfl [(0, .ref (a0 99)), (1, .int v1), (2, .int v2), (3, .int v3)] rfl ⟨rfl, rfl⟩ rfl ?_
  intro p e s m args below meth c C hr hD
  have hD := hD.zself
  unfold f_X7_place at h
  refine z_aload_n C dX7_place_0 rfl 0 rfl 1 rfl ?_
  refine z_iconst C 0 dX7_place_1 (by decide) 2 rfl ?_
  refine z_put (ty := .int) C (fun z => wX7 T a0 z) S0 (hD.zaddr rfl) (in_X7_place_X7) tyX7 tyX7_ok nmX7 0 rfl rfl 0 (by decide) (List.mem_of_getElem? (i := 1) rfl) rfl rfl (by decide +kernel) rfl rfl (Nat.le_of_ble_eq_true rfl) rfl dX7_place_2 5 rfl h (fun S0_1 h => ?_)
  refine z_aload_n C dX7_place_5 rfl 0 rfl 6 rfl ?_
  refine z_iload_n C dX7_place_6 rfl 1 rfl 7 rfl ?_
  refine z_iload_n C dX7_place_7 rfl 2 rfl 8 rfl ?_
  refine z_callR C (wX7 T a0 S0_1) (fun v h => c_X7_isCell l D T a0  S0_1 v1 v2 v h) ⟨rfl, rfl⟩ (z_cwV C 2 gX7_place_X7_isCell rfl rfl dd_X7_isCell ⟨(Nat.le_of_ble_eq_true rfl), (Nat.le_of_ble_eq_true rfl)⟩) (hD.zaddr rfl) [0, 1, 2, 3, 4, 5, 6, 7, 8, 9, 10, 11, 12, 13, 14, 15, 16, 17] rfl rfl (fun _ => ⟨a0 99, [.int v1, .int v2], 6, 0, _, _, rfl, rfl, rfl, rfl, rfl⟩) (fun h => absurd rfl h) rfl (Nat.le_of_ble_eq_true rfl) dX7_place_8 11 rfl h (fun r_2 h => ?_)
  refine z_if_eq C 37 dX7_place_11 (by decide) 14 rfl h (fun h => ?_) (fun h => ?_)
  · refine z_iconst C (-1) dX7_place_37 (by decide) 38 rfl ?_
    exact z_iretW (x := S0_1) (ex := ex) (fun z => wX7 T a0 z) C hr dX7_place_38 h rfl
  · refine z_iload_n C dX7_place_14 rfl 3 rfl 15 rfl ?_
    refine z_iconst C 0 dX7_place_15 (by decide) 16 rfl ?_
    refine z_bipush C 99 dX7_place_16 (by decide) 18 rfl ?_
    refine z_callR C ([]) (fun v h => c_X7_within l D T    v3 0 99 v h) ⟨rfl, rfl⟩ (z_cwS C 3 gX7_place_X7_within rfl dd_X7_within ⟨(Nat.le_of_ble_eq_true rfl), (Nat.le_of_ble_eq_true rfl)⟩) (hD.zaddr rfl) [] rfl rfl (fun h => absurd h (by decide)) (fun _ => rfl) rfl (Nat.le_of_ble_eq_true rfl) dX7_place_18 21 rfl h (fun r_3 h => ?_)
    refine z_if_eq C 37 dX7_place_21 (by decide) 24 rfl h (fun h => ?_) (fun h => ?_)
    · refine z_iconst C (-1) dX7_place_37 (by decide) 38 rfl ?_
      exact z_iretW (x := S0_1) (ex := ex) (fun z => wX7 T a0 z) C hr dX7_place_38 h rfl
    · refine z_aload_n C dX7_place_24 rfl 0 rfl 25 rfl ?_
      refine z_get C (in_X7_place_X7) 0 rfl rfl 10 (by decide) (List.mem_of_getElem? (i := 2) rfl) rfl rfl dX7_place_25 28 rfl ?_
      refine z_iload_n C dX7_place_28 rfl 1 rfl 29 rfl ?_
      refine z_iload_n C dX7_place_29 rfl 2 rfl 30 rfl ?_
      refine z_callR C ([]) (fun v h => c_X7_cell l D T    v1 v2 v h) ⟨rfl, rfl⟩ (z_cwS C 2 gX7_place_X7_cell rfl dd_X7_cell ⟨(Nat.le_of_ble_eq_true rfl), (Nat.le_of_ble_eq_true rfl)⟩) (hD.zaddr rfl) [] rfl rfl (fun h => absurd h (by decide)) (fun _ => rfl) rfl (Nat.le_of_ble_eq_true rfl) dX7_place_30 33 rfl h (fun r_4 h => ?_)
      refine z_zald C 4 rfl rfl dX7_place_33 34 rfl h (fun h => ?_)
      refine z_if_eq C 39 dX7_place_34 (by decide) 37 rfl h (fun h => ?_) (fun h => ?_)
      · refine z_aload_n C dX7_place_39 rfl 0 rfl 40 rfl ?_
        refine z_iload_n C dX7_place_40 rfl 1 rfl 41 rfl ?_
        refine z_iload_n C dX7_place_41 rfl 2 rfl 42 rfl ?_
        refine z_callR C (wX7 T a0 S0_1) (fun v h => c_X7_placeAt l D T a0  S0_1 v1 v2 v h) ⟨rfl, rfl⟩ (z_cwV C 2 gX7_place_X7_placeAt rfl rfl dd_X7_placeAt ⟨(Nat.le_of_ble_eq_true rfl), (Nat.le_of_ble_eq_true rfl)⟩) (hD.zaddr rfl) [0, 1, 2, 3, 4, 5, 6, 7, 8, 9, 10, 11, 12, 13, 14, 15, 16, 17] rfl rfl (fun _ => ⟨a0 99, [.int v1, .int v2], 6, 0, _, _, rfl, rfl, rfl, rfl, rfl⟩) (fun h => absurd rfl h) rfl (Nat.le_of_ble_eq_true rfl) dX7_place_42 45 rfl h (fun r_5 h => ?_)
        refine z_istore C [(0, .ref (a0 99)), (1, .int v1), (2, .int v2), (3, .int v3), (4, .int r_5)] dX7_place_45 (Nat.le_of_ble_eq_true rfl) [1, 2, 3, 4, 0] rfl 47 rfl ?_
        refine z_iload C dX7_place_47 4 rfl 49 rfl ?_
        refine z_if_lt C 67 dX7_place_49 (by decide) 52 rfl h (fun h => ?_) (fun h => ?_)
        · exact z_locals (ks := [0, 1, 2, 3, 4]) rfl (p_X7_place_J67 C hr S0_1 v1 v2 v3 r_5 (hD.zaddr rfl) h)
        · refine z_iload_n C dX7_place_52 rfl 3 rfl 53 rfl ?_
          refine z_if_le C 67 dX7_place_53 (by decide) 56 rfl h (fun h => ?_) (fun h => ?_)
          · exact z_locals (ks := [0, 1, 2, 3, 4]) rfl (p_X7_place_J67 C hr S0_1 v1 v2 v3 r_5 (hD.zaddr rfl) h)
          · refine z_aload_n C dX7_place_56 rfl 0 rfl 57 rfl ?_
            refine z_get C (in_X7_place_X7) 0 rfl rfl 8 (by decide) (List.mem_of_getElem? (i := 3) rfl) rfl rfl dX7_place_57 60 rfl ?_
            refine z_iload C dX7_place_60 4 rfl 62 rfl ?_
            refine z_iload_n C dX7_place_62 rfl 3 rfl 63 rfl ?_
            refine z_iast C (fun z => wX7 T a0 z) S0_1 8 (hD.zaddr rfl) 3 rfl rfl (fun _ => rfl) dX7_place_63 64 rfl h (fun S0_8 h => ?_)
            refine z_goto C 103 dX7_place_64 (by decide) ?_
            refine z_aload_n C dX7_place_103 rfl 0 rfl 104 rfl ?_
            refine z_get C (in_X7_place_X7) 0 rfl rfl 9 (by decide) (List.mem_of_getElem? (i := 4) rfl) rfl rfl dX7_place_104 107 rfl ?_
            exact z_iretW (x := S0_8) (ex := ex) (fun z => wX7 T a0 z) C hr dX7_place_107 h rfl
      · refine z_iconst C (-1) dX7_place_37 (by decide) 38 rfl ?_
        exact z_iretW (x := S0_1) (ex := ex) (fun z => wX7 T a0 z) C hr dX7_place_38 h rfl

end
/-! StreamTreeModel.rock (IIZ)Z -/
section
variable {p : Program} {l : Launch} {e : Env} {R : Room} {s : State} {m : MethodId} {args : Array Value} {below : List Frame} {meth : Method} {c : Code} {Q : State → Prop} {A : Nat → Prop} {D : va_G} {T : Nat → ClassId} {a0 : Nat → Nat}
theorem in_X7_rock_X7 : ∀ w ∈ u_ws RX7 TX7 35, w ∈ wsX7_rock := fun _ h => (List.mem_cons_of_mem _ (List.mem_append_right _ h))
def f_X7_rock (S0 : Nat → Nat → Int32) (v1 : Int32) (v2 : Int32) (v3 : Int32) : Option (Int32 × (Nat → Nat → Int32)) := zlet (zst S0 0 0 0) fun S0_1 => (f_X7_isCell S0_1 v1 v2).bind fun r_2 => if r_2 = 0 then (some (0, S0_1)) else ((f_X7_cell v1 v2).bind fun r_3 => zix r_3 240 fun _ => if (S0_1 10 (Int32.toNatClampNeg r_3)) = v3 then (some (0, S0_1)) else ((f_X7_placeAt S0_1 v1 v2).bind fun r_4 => if r_4 < 0 then ((f_X7_cell v1 v2).bind fun r_5 => zbo v3 (zix r_5 240 fun j => zlet (zst S0_1 10 j v3) fun S0_6 => some (1, S0_6))) else (some (0, S0_1))))
theorem dd_X7_rock : RX7 ≠ "java/lang/invoke/MethodHandle" ∧ RX7 ≠ "java/lang/invoke/VarHandle" ∧ (parseMethodDescriptor yX7_rock.desc).map (fun d => d.parameters.length) = some 3 := by decide +kernel
set_option maxHeartbeats 4000000 in
set_option maxRecDepth 100000 in
theorem c_X7_rock (l : Launch) (D : va_G) (T : Nat → ClassId) (a0 : Nat → Nat) (S0 : Nat → Nat → Int32) (v1 : Int32) (v2 : Int32) (v3 : Int32) (ex : Int32 × (Nat → Nat → Int32)) (h : f_X7_rock S0 v1 v2 v3 = some ex) : zWI l yX7_rock wsX7_rock ({ frames := 2, cells := 0, slots := 0, locals := 44 } : Room) D T [.ref (a0 99), .int v1, .int v2, .int v3] (wX7 T a0 S0) ex.1 (wX7 T a0 ex.2) := by
  refine z_begin (cc := cX7_rock) (nL := 4) (own := RX7) (fr := 2) (lc := 44) (ret := some .boolean) (by decide) rfl (Nat.le_of_ble_eq_true rfl) (zA (wX7 T a0 S0)) rfl [(0, .ref (a0 99)), (1, .int v1), (2, .int v2), (3, .int v3)] rfl ⟨rfl, rfl⟩ rfl ?_
  intro p e s m args below meth c C hr hD
  have hD := hD.zself
  unfold f_X7_rock at h
  refine z_aload_n C dX7_rock_0 rfl 0 rfl 1 rfl ?_
  refine z_iconst C 0 dX7_rock_1 (by decide) 2 rfl ?_
  refine z_put (ty := .int) C (fun z => wX7 T a0 z) S0 (hD.zaddr rfl) (in_X7_rock_X7) tyX7 tyX7_ok nmX7 0 rfl rfl 0 (by decide) (List.mem_of_getElem? (i := 1) rfl) rfl rfl (by decide +kernel) rfl rfl (Nat.le_of_ble_eq_true rfl) rfl dX7_rock_2 5 rfl h (fun S0_1 h => ?_)
  refine z_aload_n C dX7_rock_5 rfl 0 rfl 6 rfl ?_
  refine z_iload_n C dX7_rock_6 rfl 1 rfl 7 rfl ?_
  refine z_iload_n C dX7_rock_7 rfl 2 rfl 8 rfl ?_
  refine z_callR C (wX7 T a0 S0_1) (fun v h => c_X7_isCell l D T a0  S0_1 v1 v2 v h) ⟨rfl, rfl⟩ (z_cwV C 2 gX7_rock_X7_isCell rfl rfl dd_X7_isCell ⟨(Nat.le_of_ble_eq_true rfl), (Nat.le_of_ble_eq_true rfl)⟩) (hD.zaddr rfl) [0, 1, 2, 3, 4, 5, 6, 7, 8, 9, 10, 11, 12, 13, 14, 15, 16, 17] rfl rfl (fun _ => ⟨a0 99, [.int v1, .int v2], 6, 0, _, _, rfl, rfl, rfl, rfl, rfl⟩) (fun h => absurd rfl h) rfl (Nat.le_of_ble_eq_true rfl) dX7_rock_8 11 rfl h (fun r_2 h => ?_)
  refine z_if_eq C 37 dX7_rock_11 (by decide) 14 rfl h (fun h => ?_) (fun h => ?_)
  · refine z_iconst C 0 dX7_rock_37 (by decide) 38 rfl ?_
    exact z_zretWc (x := S0_1) (ex := ex) (fun z => wX7 T a0 z) C hr dX7_rock_38 (Or.inl rfl) h rfl
  · refine z_aload_n C dX7_rock_14 rfl 0 rfl 15 rfl ?_
    refine z_get C (in_X7_rock_X7) 0 rfl rfl 10 (by decide) (List.mem_of_getElem? (i := 2) rfl) rfl rfl dX7_rock_15 18 rfl ?_
    refine z_iload_n C dX7_rock_18 rfl 1 rfl 19 rfl ?_
    refine z_iload_n C dX7_rock_19 rfl 2 rfl 20 rfl ?_
    refine z_callR C ([]) (fun v h => c_X7_cell l D T    v1 v2 v h) ⟨rfl, rfl⟩ (z_cwS C 2 gX7_rock_X7_cell rfl dd_X7_cell ⟨(Nat.le_of_ble_eq_true rfl), (Nat.le_of_ble_eq_true rfl)⟩) (hD.zaddr rfl) [] rfl rfl (fun h => absurd h (by decide)) (fun _ => rfl) rfl (Nat.le_of_ble_eq_true rfl) dX7_rock_20 23 rfl h (fun r_3 h => ?_)
    refine z_zald C 4 rfl rfl dX7_rock_23 24 rfl h (fun h => ?_)
    refine z_iload_n C dX7_rock_24 rfl 3 rfl 25 rfl ?_
    refine z_icmp_eq C 37 dX7_rock_25 (by decide) 28 rfl h (fun h => ?_) (fun h => ?_)
    · refine z_iconst C 0 dX7_rock_37 (by decide) 38 rfl ?_
      exact z_zretWc (x := S0_1) (ex := ex) (fun z => wX7 T a0 z) C hr dX7_rock_38 (Or.inl rfl) h rfl
    · refine z_aload_n C dX7_rock_28 rfl 0 rfl 29 rfl ?_
      refine z_iload_n C dX7_rock_29 rfl 1 rfl 30 rfl ?_
      refine z_iload_n C dX7_rock_30 rfl 2 rfl 31 rfl ?_
      refine z_callR C (wX7 T a0 S0_1) (fun v h => c_X7_placeAt l D T a0  S0_1 v1 v2 v h) ⟨rfl, rfl⟩ (z_cwV C 2 gX7_rock_X7_placeAt rfl rfl dd_X7_placeAt ⟨(Nat.le_of_ble_eq_true rfl), (Nat.le_of_ble_eq_true rfl)⟩) (hD.zaddr rfl) [0, 1, 2, 3, 4, 5, 6, 7, 8, 9, 10, 11, 12, 13, 14, 15, 16, 17] rfl rfl (fun _ => ⟨a0 99, [.int v1, .int v2], 6, 0, _, _, rfl, rfl, rfl, rfl, rfl⟩) (fun h => absurd rfl h) rfl (Nat.le_of_ble_eq_true rfl) dX7_rock_31 34 rfl h (fun r_4 h => ?_)
      refine z_if_lt C 39 dX7_rock_34 (by decide) 37 rfl h (fun h => ?_) (fun h => ?_)
      · refine z_aload_n C dX7_rock_39 rfl 0 rfl 40 rfl ?_
        refine z_get C (in_X7_rock_X7) 0 rfl rfl 10 (by decide) (List.mem_of_getElem? (i := 2) rfl) rfl rfl dX7_rock_40 43 rfl ?_
        refine z_iload_n C dX7_rock_43 rfl 1 rfl 44 rfl ?_
        refine z_iload_n C dX7_rock_44 rfl 2 rfl 45 rfl ?_
        refine z_callR C ([]) (fun v h => c_X7_cell l D T    v1 v2 v h) ⟨rfl, rfl⟩ (z_cwS C 2 gX7_rock_X7_cell rfl dd_X7_cell ⟨(Nat.le_of_ble_eq_true rfl), (Nat.le_of_ble_eq_true rfl)⟩) (hD.zaddr rfl) [] rfl rfl (fun h => absurd h (by decide)) (fun _ => rfl) rfl (Nat.le_of_ble_eq_true rfl) dX7_rock_45 48 rfl h (fun r_5 h => ?_)
        refine z_iload_n C dX7_rock_48 rfl 3 rfl 49 rfl ?_
        refine z_zast C (fun z => wX7 T a0 z) S0_1 10 (hD.zaddr rfl) 4 rfl rfl (fun _ => rfl) dX7_rock_49 50 rfl h (fun S0_6 h => ?_)
        refine z_iconst C 1 dX7_rock_50 (by decide) 51 rfl ?_
        exact z_zretWc (x := S0_6) (ex := ex) (fun z => wX7 T a0 z) C hr dX7_rock_51 (Or.inr rfl) h rfl
      · refine z_iconst C 0 dX7_rock_37 (by decide) 38 rfl ?_
        exact z_zretWc (x := S0_1) (ex := ex) (fun z => wX7 T a0 z) C hr dX7_rock_38 (Or.inl rfl) h rfl

end
/-! StreamTreeModel.set (II)I -/
section
variable {p : Program} {l : Launch} {e : Env} {R : Room} {s : State} {m : MethodId} {args : Array Value} {below : List Frame} {meth : Method} {c : Code} {Q : State → Prop} {A : Nat → Prop} {D : va_G} {T : Nat → ClassId} {a0 : Nat → Nat}
theorem in_X7_set_X7 : ∀ w ∈ u_ws RX7 TX7 35, w ∈ wsX7_set := fun _ h => (List.mem_cons_of_mem _ (List.mem_append_right _ h))
def f_X7_set_J137 (S0 : Nat → Nat → Int32) (x4 : Int32) (k1 : Int32) : Option (Int32 × (Nat → Nat → Int32)) := zlet (zst S0 5 0 k1) fun S0_4 => some (x4, S0_4)
set_option maxHeartbeats 4000000 in
set_option maxRecDepth 100000 in
theorem p_X7_set_J137 {w0 : va_W} (C : zC p R s m args meth c cX7_set 5 RX7 wsX7_set D T 1 22 0 0) (hr : meth.sig.returnType = some .int) (S0 : Nat → Nat → Int32) (x4 : Int32) (k1 : Int32) (hD : va_D (zA w0) (wX7 T a0 S0)) {ex : Int32 × (Nat → Nat → Int32)} (h : f_X7_set_J137 S0 x4 k1 = some ex) : zt p l e R s m args below meth c 5 (zA w0) D 0 0 (MQ below (zQJ D w0 ex.1 (wX7 T a0 ex.2)) args s 0 0 (zA w0)) (wX7 T a0 S0) [(4, .int x4)] 137 [.int k1, .ref (a0 99)] := by
  unfold f_X7_set_J137 at h
  refine z_put (ty := .int) C (fun z => wX7 T a0 z) S0 (hD.zaddr rfl) (in_X7_set_X7) tyX7 tyX7_ok nmX7 0 rfl rfl 5 (by decide) (List.mem_of_getElem? (i := 4) rfl) rfl rfl (by decide +kernel) rfl rfl (Nat.le_of_ble_eq_true rfl) rfl dX7_set_137 140 rfl h (fun S0_4 h => ?_)
  refine z_iload C dX7_set_140 0 rfl 142 rfl ?_
  exact z_iretW (x := S0_4) (ex := ex) (fun z => wX7 T a0 z) C hr dX7_set_142 h rfl

def f_X7_set_J120 (S0 : Nat → Nat → Int32) (x1 : Int32) (x2 : Int32) (x4 : Int32) (k1 : Int32) : Option (Int32 × (Nat → Nat → Int32)) := zlet (zst S0 4 0 k1) fun S0_3 => if x1 = 2 then (f_X7_set_J137 S0_3 x4 x2) else (f_X7_set_J137 S0_3 x4 (S0_3 5 0))
set_option maxHeartbeats 4000000 in
set_option maxRecDepth 100000 in
theorem p_X7_set_J120 {w0 : va_W} (C : zC p R s m args meth c cX7_set 5 RX7 wsX7_set D T 1 22 0 0) (hr : meth.sig.returnType = some .int) (S0 : Nat → Nat → Int32) (x1 : Int32) (x2 : Int32) (x4 : Int32) (k1 : Int32) (hD : va_D (zA w0) (wX7 T a0 S0)) {ex : Int32 × (Nat → Nat → Int32)} (h : f_X7_set_J120 S0 x1 x2 x4 k1 = some ex) : zt p l e R s m args below meth c 5 (zA w0) D 0 0 (MQ below (zQJ D w0 ex.1 (wX7 T a0 ex.2)) args s 0 0 (zA w0)) (wX7 T a0 S0) [(0, .ref (a0 99)), (1, .int x1), (2, .int x2), (4, .int x4)] 120 [.int k1, .ref (a0 99)] := by
  unfold f_X7_set_J120 at h
  refine z_put (ty := .int) C (fun z => wX7 T a0 z) S0 (hD.zaddr rfl) (in_X7_set_X7) tyX7 tyX7_ok nmX7 0 rfl rfl 4 (by decide) (List.mem_of_getElem? (i := 3) rfl) rfl rfl (by decide +kernel) rfl rfl (Nat.le_of_ble_eq_true rfl) rfl dX7_set_120 123 rfl h (fun S0_3 h => ?_)
  refine z_aload_n C dX7_set_123 rfl 0 rfl 124 rfl ?_
  refine z_iload_n C dX7_set_124 rfl 1 rfl 125 rfl ?_
  refine z_iconst C 2 dX7_set_125 (by decide) 126 rfl ?_
  refine z_icmp_ne C 133 dX7_set_126 (by decide) 129 rfl h (fun h => ?_) (fun h => ?_)
  · refine z_aload_n C dX7_set_133 rfl 0 rfl 134 rfl ?_
    refine z_get C (in_X7_set_X7) 0 rfl rfl 5 (by decide) (List.mem_of_getElem? (i := 4) rfl) rfl rfl dX7_set_134 137 rfl ?_
    exact z_locals (ks := [3]) rfl (p_X7_set_J137 C hr S0_3 x4 (S0_3 5 0) (hD.zaddr rfl) h)
  · refine z_iload_n C dX7_set_129 rfl 2 rfl 130 rfl ?_
    refine z_goto C 137 dX7_set_130 (by decide) ?_
    exact z_locals (ks := [3]) rfl (p_X7_set_J137 C hr S0_3 x4 x2 (hD.zaddr rfl) h)

def f_X7_set_J103 (S0 : Nat → Nat → Int32) (x1 : Int32) (x2 : Int32) (x4 : Int32) (k1 : Int32) : Option (Int32 × (Nat → Nat → Int32)) := zlet (zst S0 3 0 k1) fun S0_2 => if x1 = 1 then (f_X7_set_J120 S0_2 x1 x2 x4 x2) else (f_X7_set_J120 S0_2 x1 x2 x4 (S0_2 4 0))
set_option maxHeartbeats 4000000 in
set_option maxRecDepth 100000 in
theorem p_X7_set_J103 {w0 : va_W} (C : zC p R s m args meth c cX7_set 5 RX7 wsX7_set D T 1 22 0 0) (hr : meth.sig.returnType = some .int) (S0 : Nat → Nat → Int32) (x1 : Int32) (x2 : Int32) (x4 : Int32) (k1 : Int32) (hD : va_D (zA w0) (wX7 T a0 S0)) {ex : Int32 × (Nat → Nat → Int32)} (h : f_X7_set_J103 S0 x1 x2 x4 k1 = some ex) : zt p l e R s m args below meth c 5 (zA w0) D 0 0 (MQ below (zQJ D w0 ex.1 (wX7 T a0 ex.2)) args s 0 0 (zA w0)) (wX7 T a0 S0) [(0, .ref (a0 99)), (1, .int x1), (2, .int x2), (4, .int x4)] 103 [.int k1, .ref (a0 99)] := by
  unfold f_X7_set_J103 at h
  refine z_put (ty := .int) C (fun z => wX7 T a0 z) S0 (hD.zaddr rfl) (in_X7_set_X7) tyX7 tyX7_ok nmX7 0 rfl rfl 3 (by decide) (List.mem_of_getElem? (i := 2) rfl) rfl rfl (by decide +kernel) rfl rfl (Nat.le_of_ble_eq_true rfl) rfl dX7_set_103 106 rfl h (fun S0_2 h => ?_)
  refine z_aload_n C dX7_set_106 rfl 0 rfl 107 rfl ?_
  refine z_iload_n C dX7_set_107 rfl 1 rfl 108 rfl ?_
  refine z_iconst C 1 dX7_set_108 (by decide) 109 rfl ?_
  refine z_icmp_ne C 116 dX7_set_109 (by decide) 112 rfl h (fun h => ?_) (fun h => ?_)
  · refine z_aload_n C dX7_set_116 rfl 0 rfl 117 rfl ?_
    refine z_get C (in_X7_set_X7) 0 rfl rfl 4 (by decide) (List.mem_of_getElem? (i := 3) rfl) rfl rfl dX7_set_117 120 rfl ?_
    exact z_locals (ks := [0, 1, 2, 3]) rfl (p_X7_set_J120 C hr S0_2 x1 x2 x4 (S0_2 4 0) (hD.zaddr rfl) h)
  · refine z_iload_n C dX7_set_112 rfl 2 rfl 113 rfl ?_
    refine z_goto C 120 dX7_set_113 (by decide) ?_
    exact z_locals (ks := [0, 1, 2, 3]) rfl (p_X7_set_J120 C hr S0_2 x1 x2 x4 x2 (hD.zaddr rfl) h)

def f_X7_set_J88 (S0 : Nat → Nat → Int32) (x1 : Int32) (x2 : Int32) (k0 : Int32) : Option (Int32 × (Nat → Nat → Int32)) := if x1 = 0 then (f_X7_set_J103 S0 x1 x2 k0 x2) else (f_X7_set_J103 S0 x1 x2 k0 (S0 3 0))
set_option maxHeartbeats 4000000 in
set_option maxRecDepth 100000 in
theorem p_X7_set_J88 {w0 : va_W} (C : zC p R s m args meth c cX7_set 5 RX7 wsX7_set D T 1 22 0 0) (hr : meth.sig.returnType = some .int) (S0 : Nat → Nat → Int32) (x1 : Int32) (x2 : Int32) (k0 : Int32) (hD : va_D (zA w0) (wX7 T a0 S0)) {ex : Int32 × (Nat → Nat → Int32)} (h : f_X7_set_J88 S0 x1 x2 k0 = some ex) : zt p l e R s m args below meth c 5 (zA w0) D 0 0 (MQ below (zQJ D w0 ex.1 (wX7 T a0 ex.2)) args s 0 0 (zA w0)) (wX7 T a0 S0) [(0, .ref (a0 99)), (1, .int x1), (2, .int x2)] 88 [.int k0] := by
  unfold f_X7_set_J88 at h
  refine z_istore C [(0, .ref (a0 99)), (1, .int x1), (2, .int x2), (4, .int k0)] dX7_set_88 (Nat.le_of_ble_eq_true rfl) [1, 2, 3, 0] rfl 90 rfl ?_
  refine z_aload_n C dX7_set_90 rfl 0 rfl 91 rfl ?_
  refine z_iload_n C dX7_set_91 rfl 1 rfl 92 rfl ?_
  refine z_if_ne C 99 dX7_set_92 (by decide) 95 rfl h (fun h => ?_) (fun h => ?_)
  · refine z_aload_n C dX7_set_99 rfl 0 rfl 100 rfl ?_
    refine z_get C (in_X7_set_X7) 0 rfl rfl 3 (by decide) (List.mem_of_getElem? (i := 2) rfl) rfl rfl dX7_set_100 103 rfl ?_
    exact z_locals (ks := [0, 1, 2, 3]) rfl (p_X7_set_J103 C hr S0 x1 x2 k0 (S0 3 0) (hD.zaddr rfl) h)
  · refine z_iload_n C dX7_set_95 rfl 2 rfl 96 rfl ?_
    refine z_goto C 103 dX7_set_96 (by decide) ?_
    exact z_locals (ks := [0, 1, 2, 3]) rfl (p_X7_set_J103 C hr S0 x1 x2 k0 x2 (hD.zaddr rfl) h)

def f_X7_set_J54 (S0 : Nat → Nat → Int32) (x1 : Int32) (x2 : Int32) (k0 : Int32) : Option (Int32 × (Nat → Nat → Int32)) := if k0 = 0 then (some ((-1), S0)) else (if x1 = 0 then (f_X7_set_J88 S0 x1 x2 (S0 3 0)) else (if x1 = 1 then (f_X7_set_J88 S0 x1 x2 (S0 4 0)) else (f_X7_set_J88 S0 x1 x2 (S0 5 0))))
set_option maxHeartbeats 4000000 in
set_option maxRecDepth 100000 in
theorem p_X7_set_J54 {w0 : va_W} (C : zC p R s m args meth c cX7_set 5 RX7 wsX7_set D T 1 22 0 0) (hr : meth.sig.returnType = some .int) (S0 : Nat → Nat → Int32) (x1 : Int32) (x2 : Int32) (k0 : Int32) (hD : va_D (zA w0) (wX7 T a0 S0)) {ex : Int32 × (Nat → Nat → Int32)} (h : f_X7_set_J54 S0 x1 x2 k0 = some ex) : zt p l e R s m args below meth c 5 (zA w0) D 0 0 (MQ below (zQJ D w0 ex.1 (wX7 T a0 ex.2)) args s 0 0 (zA w0)) (wX7 T a0 S0) [(0, .ref (a0 99)), (1, .int x1), (2, .int x2)] 54 [.int k0] := by
  unfold f_X7_set_J54 at h
  refine z_istore_n C [(0, .ref (a0 99)), (1, .int x1), (2, .int x2), (3, .int k0)] dX7_set_54 rfl (Nat.le_of_ble_eq_true rfl) [1, 2, 3, 0] rfl 55 rfl ?_
  refine z_iload_n C dX7_set_55 rfl 3 rfl 56 rfl ?_
  refine z_if_ne C 61 dX7_set_56 (by decide) 59 rfl h (fun h => ?_) (fun h => ?_)
  · refine z_iload_n C dX7_set_61 rfl 1 rfl 62 rfl ?_
    refine z_if_ne C 72 dX7_set_62 (by decide) 65 rfl h (fun h => ?_) (fun h => ?_)
    · refine z_iload_n C dX7_set_72 rfl 1 rfl 73 rfl ?_
      refine z_iconst C 1 dX7_set_73 (by decide) 74 rfl ?_
      refine z_icmp_ne C 84 dX7_set_74 (by decide) 77 rfl h (fun h => ?_) (fun h => ?_)
      · refine z_aload_n C dX7_set_84 rfl 0 rfl 85 rfl ?_
        refine z_get C (in_X7_set_X7) 0 rfl rfl 5 (by decide) (List.mem_of_getElem? (i := 4) rfl) rfl rfl dX7_set_85 88 rfl ?_
        exact z_locals (ks := [0, 1, 2]) rfl (p_X7_set_J88 C hr S0 x1 x2 (S0 5 0) (hD.zaddr rfl) h)
      · refine z_aload_n C dX7_set_77 rfl 0 rfl 78 rfl ?_
        refine z_get C (in_X7_set_X7) 0 rfl rfl 4 (by decide) (List.mem_of_getElem? (i := 3) rfl) rfl rfl dX7_set_78 81 rfl ?_
        refine z_goto C 88 dX7_set_81 (by decide) ?_
        exact z_locals (ks := [0, 1, 2]) rfl (p_X7_set_J88 C hr S0 x1 x2 (S0 4 0) (hD.zaddr rfl) h)
    · refine z_aload_n C dX7_set_65 rfl 0 rfl 66 rfl ?_
      refine z_get C (in_X7_set_X7) 0 rfl rfl 3 (by decide) (List.mem_of_getElem? (i := 2) rfl) rfl rfl dX7_set_66 69 rfl ?_
      refine z_goto C 88 dX7_set_69 (by decide) ?_
      exact z_locals (ks := [0, 1, 2]) rfl (p_X7_set_J88 C hr S0 x1 x2 (S0 3 0) (hD.zaddr rfl) h)
  · refine z_iconst C (-1) dX7_set_59 (by decide) 60 rfl ?_
    exact z_iretW (x := S0) (ex := ex) (fun z => wX7 T a0 z) C hr dX7_set_60 h rfl

def f_X7_set_J53 (S0 : Nat → Nat → Int32) (x1 : Int32) (x2 : Int32)  : Option (Int32 × (Nat → Nat → Int32)) := f_X7_set_J54 S0 x1 x2 0
set_option maxHeartbeats 4000000 in
set_option maxRecDepth 100000 in
theorem p_X7_set_J53 {w0 : va_W} (C : zC p R s m args meth c cX7_set 5 RX7 wsX7_set D T 1 22 0 0) (hr : meth.sig.returnType = some .int) (S0 : Nat → Nat → Int32) (x1 : Int32) (x2 : Int32)  (hD : va_D (zA w0) (wX7 T a0 S0)) {ex : Int32 × (Nat → Nat → Int32)} (h : f_X7_set_J53 S0 x1 x2 = some ex) : zt p l e R s m args below meth c 5 (zA w0) D 0 0 (MQ below (zQJ D w0 ex.1 (wX7 T a0 ex.2)) args s 0 0 (zA w0)) (wX7 T a0 S0) [(0, .ref (a0 99)), (1, .int x1), (2, .int x2)] 53 [] := by
  unfold f_X7_set_J53 at h
  refine z_iconst C 0 dX7_set_53 (by decide) 54 rfl ?_
  exact z_locals (ks := [0, 1, 2]) rfl (p_X7_set_J54 C hr S0 x1 x2 0 (hD.zaddr rfl) h)

def f_X7_set (S0 : Nat → Nat → Int32) (v1 : Int32) (v2 : Int32) : Option (Int32 × (Nat → Nat → Int32)) := zlet (zst S0 0 0 0) fun S0_1 => if v1 = 0 then ((f_X7_within v2 1 99).bind fun r_7 => f_X7_set_J54 S0_1 v1 v2 r_7) else (if v1 = 1 then ((f_X7_within v2 0 40).bind fun r_6 => f_X7_set_J54 S0_1 v1 v2 r_6) else (if v1 = 2 then ((f_X7_within v2 0 6).bind fun r_5 => if r_5 = 0 then (f_X7_set_J53 S0_1 v1 v2) else (f_X7_set_J54 S0_1 v1 v2 1)) else (f_X7_set_J53 S0_1 v1 v2)))
theorem dd_X7_set : RX7 ≠ "java/lang/invoke/MethodHandle" ∧ RX7 ≠ "java/lang/invoke/VarHandle" ∧ (parseMethodDescriptor yX7_set.desc).map (fun d => d.parameters.length) = some 2 := by decide +kernel
set_option maxHeartbeats 4000000 in
set_option maxRecDepth 100000 in
theorem c_X7_set (l : Launch) (D : va_G) (T : Nat → ClassId) (a0 : Nat → Nat) (S0 : Nat → Nat → Int32) (v1 : Int32) (v2 : Int32) (ex : Int32 × (Nat → Nat → Int32)) (h : f_X7_set S0 v1 v2 = some ex) : zWI l yX7_set wsX7_set ({ frames := 1, cells := 0, slots := 0, locals := 22 } : Room) D T [.ref (a0 99), .int v1, .int v2] (wX7 T a0 S0) ex.1 (wX7 T a0 ex.2) := by
  refine z_begin (cc := cX7_set) (nL := 5) (own := RX7) (fr := 1) (lc := 22) (ret := some .int) (by decide) rfl (Nat.le_of_ble_eq_true rfl) (zA (wX7 T a0 S0)) rfl [(0, .ref (a0 99)), (1, .int v1), (2, .int v2)] rfl ⟨rfl, rfl⟩ rfl ?_
  intro p e s m args below meth c C hr hD
  have hD := hD.zself
  unfold f_X7_set at h
  refine z_aload_n C dX7_set_0 rfl 0 rfl 1 rfl ?_
  refine z_iconst C 0 dX7_set_1 (by decide) 2 rfl ?_
  refine z_put (ty := .int) C (fun z => wX7 T a0 z) S0 (hD.zaddr rfl) (in_X7_set_X7) tyX7 tyX7_ok nmX7 0 rfl rfl 0 (by decide) (List.mem_of_getElem? (i := 1) rfl) rfl rfl (by decide +kernel) rfl rfl (Nat.le_of_ble_eq_true rfl) rfl dX7_set_2 5 rfl h (fun S0_1 h => ?_)
  refine z_iload_n C dX7_set_5 rfl 1 rfl 6 rfl ?_
  refine z_if_ne C 19 dX7_set_6 (by decide) 9 rfl h (fun h => ?_) (fun h => ?_)
  · refine z_iload_n C dX7_set_19 rfl 1 rfl 20 rfl ?_
    refine z_iconst C 1 dX7_set_20 (by decide) 21 rfl ?_
    refine z_icmp_ne C 34 dX7_set_21 (by decide) 24 rfl h (fun h => ?_) (fun h => ?_)
    · refine z_iload_n C dX7_set_34 rfl 1 rfl 35 rfl ?_
      refine z_iconst C 2 dX7_set_35 (by decide) 36 rfl ?_
      refine z_icmp_ne C 53 dX7_set_36 (by decide) 39 rfl h (fun h => ?_) (fun h => ?_)
      · exact z_locals (ks := [0, 1, 2]) rfl (p_X7_set_J53 C hr S0_1 v1 v2 (hD.zaddr rfl) h)
      · refine z_iload_n C dX7_set_39 rfl 2 rfl 40 rfl ?_
        refine z_iconst C 0 dX7_set_40 (by decide) 41 rfl ?_
        refine z_bipush C 6 dX7_set_41 (by decide) 43 rfl ?_
        refine z_callR C ([]) (fun v h => c_X7_within l D T    v2 0 6 v h) ⟨rfl, rfl⟩ (z_cwS C 3 gX7_set_X7_within rfl dd_X7_within ⟨(Nat.le_of_ble_eq_true rfl), (Nat.le_of_ble_eq_true rfl)⟩) (hD.zaddr rfl) [] rfl rfl (fun h => absurd h (by decide)) (fun _ => rfl) rfl (Nat.le_of_ble_eq_true rfl) dX7_set_43 46 rfl h (fun r_5 h => ?_)
        refine z_if_eq C 53 dX7_set_46 (by decide) 49 rfl h (fun h => ?_) (fun h => ?_)
        · exact z_locals (ks := [0, 1, 2]) rfl (p_X7_set_J53 C hr S0_1 v1 v2 (hD.zaddr rfl) h)
        · refine z_iconst C 1 dX7_set_49 (by decide) 50 rfl ?_
          refine z_goto C 54 dX7_set_50 (by decide) ?_
          exact z_locals (ks := [0, 1, 2]) rfl (p_X7_set_J54 C hr S0_1 v1 v2 1 (hD.zaddr rfl) h)
    · refine z_iload_n C dX7_set_24 rfl 2 rfl 25 rfl ?_
      refine z_iconst C 0 dX7_set_25 (by decide) 26 rfl ?_
      refine z_bipush C 40 dX7_set_26 (by decide) 28 rfl ?_
      refine z_callR C ([]) (fun v h => c_X7_within l D T    v2 0 40 v h) ⟨rfl, rfl⟩ (z_cwS C 3 gX7_set_X7_within rfl dd_X7_within ⟨(Nat.le_of_ble_eq_true rfl), (Nat.le_of_ble_eq_true rfl)⟩) (hD.zaddr rfl) [] rfl rfl (fun h => absurd h (by decide)) (fun _ => rfl) rfl (Nat.le_of_ble_eq_true rfl) dX7_set_28 31 rfl h (fun r_6 h => ?_)
      refine z_goto C 54 dX7_set_31 (by decide) ?_
      exact z_locals (ks := [0, 1, 2]) rfl (p_X7_set_J54 C hr S0_1 v1 v2 r_6 (hD.zaddr rfl) h)
  · refine z_iload_n C dX7_set_9 rfl 2 rfl 10 rfl ?_
    refine z_iconst C 1 dX7_set_10 (by decide) 11 rfl ?_
    refine z_bipush C 99 dX7_set_11 (by decide) 13 rfl ?_
    refine z_callR C ([]) (fun v h => c_X7_within l D T    v2 1 99 v h) ⟨rfl, rfl⟩ (z_cwS C 3 gX7_set_X7_within rfl dd_X7_within ⟨(Nat.le_of_ble_eq_true rfl), (Nat.le_of_ble_eq_true rfl)⟩) (hD.zaddr rfl) [] rfl rfl (fun h => absurd h (by decide)) (fun _ => rfl) rfl (Nat.le_of_ble_eq_true rfl) dX7_set_13 16 rfl h (fun r_7 h => ?_)
    refine z_goto C 54 dX7_set_16 (by decide) ?_
    exact z_locals (ks := [0, 1, 2]) rfl (p_X7_set_J54 C hr S0_1 v1 v2 r_7 (hD.zaddr rfl) h)

end
/-! StreamTreeModel.at (II)I -/
section
variable {p : Program} {l : Launch} {e : Env} {R : Room} {s : State} {m : MethodId} {args : Array Value} {below : List Frame} {meth : Method} {c : Code} {Q : State → Prop} {A : Nat → Prop} {D : va_G} {T : Nat → ClassId} {a0 : Nat → Nat}
theorem in_X7_at_X7 : ∀ w ∈ u_ws RX7 TX7 35, w ∈ wsX7_at := fun _ h => (List.mem_cons_of_mem _ (List.mem_append_right _ h))
def f_X7_at_J29 (S0 : Nat → Nat → Int32) (x1 : Int32) (x2 : Int32) (k1 : Int32) : Option (Int32 × (Nat → Nat → Int32)) := zlet (zst S0 0 0 k1) fun S0_2 => if (S0_2 0 0) ≤ 0 then (if x2 = 0 then (zix x1 8 fun _ => some ((S0_2 6 (Int32.toNatClampNeg x1)), S0_2)) else (if x2 = 1 then (zix x1 8 fun _ => some ((S0_2 7 (Int32.toNatClampNeg x1)), S0_2)) else (zix x1 8 fun _ => some ((S0_2 8 (Int32.toNatClampNeg x1)), S0_2)))) else (some (0, S0_2))
set_option maxHeartbeats 4000000 in
set_option maxRecDepth 100000 in
theorem p_X7_at_J29 {w0 : va_W} (C : zC p R s m args meth c cX7_at 3 RX7 wsX7_at D T 1 22 0 0) (hr : meth.sig.returnType = some .int) (S0 : Nat → Nat → Int32) (x1 : Int32) (x2 : Int32) (k1 : Int32) (hD : va_D (zA w0) (wX7 T a0 S0)) {ex : Int32 × (Nat → Nat → Int32)} (h : f_X7_at_J29 S0 x1 x2 k1 = some ex) : zt p l e R s m args below meth c 3 (zA w0) D 0 0 (MQ below (zQJ D w0 ex.1 (wX7 T a0 ex.2)) args s 0 0 (zA w0)) (wX7 T a0 S0) [(0, .ref (a0 99)), (1, .int x1), (2, .int x2)] 29 [.int k1, .ref (a0 99)] := by
  unfold f_X7_at_J29 at h
  refine z_put (ty := .int) C (fun z => wX7 T a0 z) S0 (hD.zaddr rfl) (in_X7_at_X7) tyX7 tyX7_ok nmX7 0 rfl rfl 0 (by decide) (List.mem_of_getElem? (i := 2) rfl) rfl rfl (by decide +kernel) rfl rfl (Nat.le_of_ble_eq_true rfl) rfl dX7_at_29 32 rfl h (fun S0_2 h => ?_)
  refine z_aload_n C dX7_at_32 rfl 0 rfl 33 rfl ?_
  refine z_get C (in_X7_at_X7) 0 rfl rfl 0 (by decide) (List.mem_of_getElem? (i := 2) rfl) rfl rfl dX7_at_33 36 rfl ?_
  refine z_if_le C 43 dX7_at_36 (by decide) 39 rfl h (fun h => ?_) (fun h => ?_)
  · refine z_iload_n C dX7_at_43 rfl 2 rfl 44 rfl ?_
    refine z_if_ne C 56 dX7_at_44 (by decide) 47 rfl h (fun h => ?_) (fun h => ?_)
    · refine z_iload_n C dX7_at_56 rfl 2 rfl 57 rfl ?_
      refine z_iconst C 1 dX7_at_57 (by decide) 58 rfl ?_
      refine z_icmp_ne C 70 dX7_at_58 (by decide) 61 rfl h (fun h => ?_) (fun h => ?_)
      · refine z_aload_n C dX7_at_70 rfl 0 rfl 71 rfl ?_
        refine z_get C (in_X7_at_X7) 0 rfl rfl 8 (by decide) (List.mem_of_getElem? (i := 5) rfl) rfl rfl dX7_at_71 74 rfl ?_
        refine z_iload_n C dX7_at_74 rfl 1 rfl 75 rfl ?_
        refine z_iald C 3 rfl rfl dX7_at_75 76 rfl h (fun h => ?_)
        exact z_iretW (x := S0_2) (ex := ex) (fun z => wX7 T a0 z) C hr dX7_at_76 h rfl
      · refine z_aload_n C dX7_at_61 rfl 0 rfl 62 rfl ?_
        refine z_get C (in_X7_at_X7) 0 rfl rfl 7 (by decide) (List.mem_of_getElem? (i := 4) rfl) rfl rfl dX7_at_62 65 rfl ?_
        refine z_iload_n C dX7_at_65 rfl 1 rfl 66 rfl ?_
        refine z_iald C 2 rfl rfl dX7_at_66 67 rfl h (fun h => ?_)
        refine z_goto C 76 dX7_at_67 (by decide) ?_
        exact z_iretW (x := S0_2) (ex := ex) (fun z => wX7 T a0 z) C hr dX7_at_76 h rfl
    · refine z_aload_n C dX7_at_47 rfl 0 rfl 48 rfl ?_
      refine z_get C (in_X7_at_X7) 0 rfl rfl 6 (by decide) (List.mem_of_getElem? (i := 3) rfl) rfl rfl dX7_at_48 51 rfl ?_
      refine z_iload_n C dX7_at_51 rfl 1 rfl 52 rfl ?_
      refine z_iald C 1 rfl rfl dX7_at_52 53 rfl h (fun h => ?_)
      refine z_goto C 76 dX7_at_53 (by decide) ?_
      exact z_iretW (x := S0_2) (ex := ex) (fun z => wX7 T a0 z) C hr dX7_at_76 h rfl
  · refine z_iconst C 0 dX7_at_39 (by decide) 40 rfl ?_
    refine z_goto C 76 dX7_at_40 (by decide) ?_
    exact z_iretW (x := S0_2) (ex := ex) (fun z => wX7 T a0 z) C hr dX7_at_76 h rfl

def f_X7_at_J28 (S0 : Nat → Nat → Int32) (x1 : Int32) (x2 : Int32)  : Option (Int32 × (Nat → Nat → Int32)) := f_X7_at_J29 S0 x1 x2 1
set_option maxHeartbeats 4000000 in
set_option maxRecDepth 100000 in
theorem p_X7_at_J28 {w0 : va_W} (C : zC p R s m args meth c cX7_at 3 RX7 wsX7_at D T 1 22 0 0) (hr : meth.sig.returnType = some .int) (S0 : Nat → Nat → Int32) (x1 : Int32) (x2 : Int32)  (hD : va_D (zA w0) (wX7 T a0 S0)) {ex : Int32 × (Nat → Nat → Int32)} (h : f_X7_at_J28 S0 x1 x2 = some ex) : zt p l e R s m args below meth c 3 (zA w0) D 0 0 (MQ below (zQJ D w0 ex.1 (wX7 T a0 ex.2)) args s 0 0 (zA w0)) (wX7 T a0 S0) [(0, .ref (a0 99)), (1, .int x1), (2, .int x2)] 28 [.ref (a0 99)] := by
  unfold f_X7_at_J28 at h
  refine z_iconst C 1 dX7_at_28 (by decide) 29 rfl ?_
  exact z_locals (ks := [0, 1, 2]) rfl (p_X7_at_J29 C hr S0 x1 x2 1 (hD.zaddr rfl) h)

def f_X7_at (S0 : Nat → Nat → Int32) (v1 : Int32) (v2 : Int32) : Option (Int32 × (Nat → Nat → Int32)) := (f_X7_within v1 0 ((S0 9 0) - 1)).bind fun r_1 => if r_1 = 0 then (f_X7_at_J28 S0 v1 v2) else ((f_X7_within v2 0 2).bind fun r_3 => if r_3 = 0 then (f_X7_at_J28 S0 v1 v2) else (f_X7_at_J29 S0 v1 v2 0))
theorem dd_X7_at : RX7 ≠ "java/lang/invoke/MethodHandle" ∧ RX7 ≠ "java/lang/invoke/VarHandle" ∧ (parseMethodDescriptor yX7_at.desc).map (fun d => d.parameters.length) = some 2 := by decide +kernel
set_option maxHeartbeats 4000000 in
set_option maxRecDepth 100000 in
theorem c_X7_at (l : Launch) (D : va_G) (T : Nat → ClassId) (a0 : Nat → Nat) (S0 : Nat → Nat → Int32) (v1 : Int32) (v2 : Int32) (ex : Int32 × (Nat → Nat → Int32)) (h : f_X7_at S0 v1 v2 = some ex) : zWI l yX7_at wsX7_at ({ frames := 1, cells := 0, slots := 0, locals := 22 } : Room) D T [.ref (a0 99), .int v1, .int v2] (wX7 T a0 S0) ex.1 (wX7 T a0 ex.2) := by
  refine z_begin (cc := cX7_at) (nL := 3) (own := RX7) (fr := 1) (lc := 22) (ret := some .int) (by decide) rfl (Nat.le_of_ble_eq_true rfl) (zA (wX7 T a0 S0)) rfl [(0, .ref (a0 99)), (1, .int v1), (2, .int v2)] rfl ⟨rfl, rfl⟩ rfl ?_
  intro p e s m args below meth c C hr hD
  have hD := hD.zself
  unfold f_X7_at at h
  refine z_aload_n C dX7_at_0 rfl 0 rfl 1 rfl ?_
  refine z_iload_n C dX7_at_1 rfl 1 rfl 2 rfl ?_
  refine z_iconst C 0 dX7_at_2 (by decide) 3 rfl ?_
  refine z_aload_n C dX7_at_3 rfl 0 rfl 4 rfl ?_
  refine z_get C (in_X7_at_X7) 0 rfl rfl 9 (by decide) (List.mem_of_getElem? (i := 1) rfl) rfl rfl dX7_at_4 7 rfl ?_
  refine z_iconst C 1 dX7_at_7 (by decide) 8 rfl ?_
  refine z_isub C dX7_at_8 9 rfl ?_
  refine z_callR C ([]) (fun v h => c_X7_within l D T    v1 0 ((S0 9 0) - 1) v h) ⟨rfl, rfl⟩ (z_cwS C 3 gX7_at_X7_within rfl dd_X7_within ⟨(Nat.le_of_ble_eq_true rfl), (Nat.le_of_ble_eq_true rfl)⟩) (hD.zaddr rfl) [] rfl rfl (fun h => absurd h (by decide)) (fun _ => rfl) rfl (Nat.le_of_ble_eq_true rfl) dX7_at_9 12 rfl h (fun r_1 h => ?_)
  refine z_if_eq C 28 dX7_at_12 (by decide) 15 rfl h (fun h => ?_) (fun h => ?_)
  · exact z_locals (ks := [0, 1, 2]) rfl (p_X7_at_J28 C hr S0 v1 v2 (hD.zaddr rfl) h)
  · refine z_iload_n C dX7_at_15 rfl 2 rfl 16 rfl ?_
    refine z_iconst C 0 dX7_at_16 (by decide) 17 rfl ?_
    refine z_iconst C 2 dX7_at_17 (by decide) 18 rfl ?_
    refine z_callR C ([]) (fun v h => c_X7_within l D T    v2 0 2 v h) ⟨rfl, rfl⟩ (z_cwS C 3 gX7_at_X7_within rfl dd_X7_within ⟨(Nat.le_of_ble_eq_true rfl), (Nat.le_of_ble_eq_true rfl)⟩) (hD.zaddr rfl) [] rfl rfl (fun h => absurd h (by decide)) (fun _ => rfl) rfl (Nat.le_of_ble_eq_true rfl) dX7_at_18 21 rfl h (fun r_3 h => ?_)
    refine z_if_eq C 28 dX7_at_21 (by decide) 24 rfl h (fun h => ?_) (fun h => ?_)
    · exact z_locals (ks := [0, 1, 2]) rfl (p_X7_at_J28 C hr S0 v1 v2 (hD.zaddr rfl) h)
    · refine z_iconst C 0 dX7_at_24 (by decide) 25 rfl ?_
      refine z_goto C 29 dX7_at_25 (by decide) ?_
      exact z_locals (ks := [0, 1, 2]) rfl (p_X7_at_J29 C hr S0 v1 v2 0 (hD.zaddr rfl) h)

end
/-! StreamTreeModel.targetTurn (III)I -/
section
variable {p : Program} {l : Launch} {e : Env} {R : Room} {s : State} {m : MethodId} {args : Array Value} {below : List Frame} {meth : Method} {c : Code} {Q : State → Prop} {A : Nat → Prop} {D : va_G} {T : Nat → ClassId} {a0 : Nat → Nat}
def f_X7_targetTurn_J30 (S0 : Nat → Nat → Int32)  (k1 : Int32) (k2 : Int32) : Option (Int32) := (f_X7_around S0 (k1 + k2)).bind fun r_1 => some r_1
set_option maxHeartbeats 4000000 in
set_option maxRecDepth 100000 in
theorem p_X7_targetTurn_J30 (C : zC p R s m args meth c cX7_targetTurn 4 RX7 wsX7_targetTurn D T 1 21 0 0) (hr : meth.sig.returnType = some .int) (S0 : Nat → Nat → Int32)  (k1 : Int32) (k2 : Int32) (hD : va_D (fun _ => True) (wX7 T a0 S0)) {ex : Int32} (h : f_X7_targetTurn_J30 S0 k1 k2 = some ex) : zt p l e R s m args below meth c 4 (fun _ => False) D 0 0 (MQ below (zQI ex) args s 0 0 (fun _ => False)) (wX7 T a0 S0) [] 30 [.int k2, .int k1, .ref (a0 99)] := by
  unfold f_X7_targetTurn_J30 at h
  refine z_iadd C dX7_targetTurn_30 31 rfl ?_
  refine z_callR C (wX7 T a0 S0) (fun v h => c_X7_around l D T a0  S0 (k1 + k2) v h) ⟨rfl, rfl⟩ (z_cwV C 1 gX7_targetTurn_X7_around rfl rfl dd_X7_around ⟨(Nat.le_of_ble_eq_true rfl), (Nat.le_of_ble_eq_true rfl)⟩) (hD.zaddr rfl) [0, 1, 2, 3, 4, 5, 6, 7, 8, 9, 10, 11, 12, 13, 14, 15, 16, 17] rfl rfl (fun _ => ⟨a0 99, [.int (k1 + k2)], 6, 0, _, _, rfl, rfl, rfl, rfl, rfl⟩) (fun h => absurd rfl h) rfl (Nat.le_of_ble_eq_true rfl) dX7_targetTurn_31 34 rfl h (fun r_1 h => ?_)
  exact z_iretR C hr dX7_targetTurn_34 h

def f_X7_targetTurn (S0 : Nat → Nat → Int32) (v1 : Int32) (v2 : Int32) (v3 : Int32) : Option (Int32) := if v1 = 1 then (some 0) else (if v3 = 1 then (f_X7_targetTurn_J30 S0 v2 (-1)) else (if v3 = 2 then (f_X7_targetTurn_J30 S0 v2 1) else (f_X7_targetTurn_J30 S0 v2 0)))
theorem dd_X7_targetTurn : RX7 ≠ "java/lang/invoke/MethodHandle" ∧ RX7 ≠ "java/lang/invoke/VarHandle" ∧ (parseMethodDescriptor yX7_targetTurn.desc).map (fun d => d.parameters.length) = some 3 := by decide +kernel
set_option maxHeartbeats 4000000 in
set_option maxRecDepth 100000 in
theorem c_X7_targetTurn (l : Launch) (D : va_G) (T : Nat → ClassId) (a0 : Nat → Nat) (S0 : Nat → Nat → Int32) (v1 : Int32) (v2 : Int32) (v3 : Int32) (ex : Int32) (h : f_X7_targetTurn S0 v1 v2 v3 = some ex) : zRI l yX7_targetTurn wsX7_targetTurn ({ frames := 1, cells := 0, slots := 0, locals := 21 } : Room) D T [.ref (a0 99), .int v1, .int v2, .int v3] (wX7 T a0 S0) ex := by
  refine z_begin (cc := cX7_targetTurn) (nL := 4) (own := RX7) (fr := 1) (lc := 21) (ret := some .int) (by decide) rfl (Nat.le_of_ble_eq_true rfl) (fun _ => False) rfl [(0, .ref (a0 99)), (1, .int v1), (2, .int v2), (3, .int v3)] rfl ⟨rfl, rfl⟩ rfl ?_
  intro p e s m args below meth c C hr hD
  unfold f_X7_targetTurn at h
  refine z_iload_n C dX7_targetTurn_0 rfl 1 rfl 1 rfl ?_
  refine z_iconst C 1 dX7_targetTurn_1 (by decide) 2 rfl ?_
  refine z_icmp_ne C 9 dX7_targetTurn_2 (by decide) 5 rfl h (fun h => ?_) (fun h => ?_)
  · refine z_aload_n C dX7_targetTurn_9 rfl 0 rfl 10 rfl ?_
    refine z_iload_n C dX7_targetTurn_10 rfl 2 rfl 11 rfl ?_
    refine z_iload_n C dX7_targetTurn_11 rfl 3 rfl 12 rfl ?_
    refine z_iconst C 1 dX7_targetTurn_12 (by decide) 13 rfl ?_
    refine z_icmp_ne C 20 dX7_targetTurn_13 (by decide) 16 rfl h (fun h => ?_) (fun h => ?_)
    · refine z_iload_n C dX7_targetTurn_20 rfl 3 rfl 21 rfl ?_
      refine z_iconst C 2 dX7_targetTurn_21 (by decide) 22 rfl ?_
      refine z_icmp_ne C 29 dX7_targetTurn_22 (by decide) 25 rfl h (fun h => ?_) (fun h => ?_)
      · refine z_iconst C 0 dX7_targetTurn_29 (by decide) 30 rfl ?_
        exact z_locals (ks := []) rfl (p_X7_targetTurn_J30 C hr S0 v2 0 (hD.zaddr rfl) h)
      · refine z_iconst C 1 dX7_targetTurn_25 (by decide) 26 rfl ?_
        refine z_goto C 30 dX7_targetTurn_26 (by decide) ?_
        exact z_locals (ks := []) rfl (p_X7_targetTurn_J30 C hr S0 v2 1 (hD.zaddr rfl) h)
    · refine z_iconst C (-1) dX7_targetTurn_16 (by decide) 17 rfl ?_
      refine z_goto C 30 dX7_targetTurn_17 (by decide) ?_
      exact z_locals (ks := []) rfl (p_X7_targetTurn_J30 C hr S0 v2 (-1) (hD.zaddr rfl) h)
  · refine z_iconst C 0 dX7_targetTurn_5 (by decide) 6 rfl ?_
    refine z_goto C 34 dX7_targetTurn_6 (by decide) ?_
    exact z_iretR C hr dX7_targetTurn_34 h

end
/-! StreamTreeModel.target (III)I -/
section
variable {p : Program} {l : Launch} {e : Env} {R : Room} {s : State} {m : MethodId} {args : Array Value} {below : List Frame} {meth : Method} {c : Code} {Q : State → Prop} {A : Nat → Prop} {D : va_G} {T : Nat → ClassId} {a0 : Nat → Nat}
def f_X7_target (S0 : Nat → Nat → Int32) (v1 : Int32) (v2 : Int32) (v3 : Int32) : Option (Int32) := (f_X7_targetTurn S0 v1 v2 v3).bind fun r_1 => (f_X7_cell (v1 - 1) r_1).bind fun r_2 => some r_2
theorem dd_X7_target : RX7 ≠ "java/lang/invoke/MethodHandle" ∧ RX7 ≠ "java/lang/invoke/VarHandle" ∧ (parseMethodDescriptor yX7_target.desc).map (fun d => d.parameters.length) = some 3 := by decide +kernel
set_option maxHeartbeats 4000000 in
set_option maxRecDepth 100000 in
theorem c_X7_target (l : Launch) (D : va_G) (T : Nat → ClassId) (a0 : Nat → Nat) (S0 : Nat → Nat → Int32) (v1 : Int32) (v2 : Int32) (v3 : Int32) (ex : Int32) (h : f_X7_target S0 v1 v2 v3 = some ex) : zRI l yX7_target wsX7_target ({ frames := 2, cells := 0, slots := 0, locals := 44 } : Room) D T [.ref (a0 99), .int v1, .int v2, .int v3] (wX7 T a0 S0) ex := by
  refine z_begin (cc := cX7_target) (nL := 4) (own := RX7) (fr := 2) (lc := 44) (ret := some .int) (by decide) rfl (Nat.le_of_ble_eq_true rfl) (fun _ => False) rfl [(0, .ref (a0 99)), (1, .int v1), (2, .int v2), (3, .int v3)] rfl ⟨rfl, rfl⟩ rfl ?_
  intro p e s m args below meth c C hr hD
  unfold f_X7_target at h
  refine z_iload_n C dX7_target_0 rfl 1 rfl 1 rfl ?_
  refine z_iconst C 1 dX7_target_1 (by decide) 2 rfl ?_
  refine z_isub C dX7_target_2 3 rfl ?_
  refine z_aload_n C dX7_target_3 rfl 0 rfl 4 rfl ?_
  refine z_iload_n C dX7_target_4 rfl 1 rfl 5 rfl ?_
  refine z_iload_n C dX7_target_5 rfl 2 rfl 6 rfl ?_
  refine z_iload_n C dX7_target_6 rfl 3 rfl 7 rfl ?_
  refine z_callR C (wX7 T a0 S0) (fun v h => c_X7_targetTurn l D T a0  S0 v1 v2 v3 v h) ⟨rfl, rfl⟩ (z_cwV C 3 gX7_target_X7_targetTurn rfl rfl dd_X7_targetTurn ⟨(Nat.le_of_ble_eq_true rfl), (Nat.le_of_ble_eq_true rfl)⟩) (hD.zaddr rfl) [0, 1, 2, 3, 4, 5, 6, 7, 8, 9, 10, 11, 12, 13, 14, 15, 16, 17] rfl rfl (fun _ => ⟨a0 99, [.int v1, .int v2, .int v3], 6, 0, _, _, rfl, rfl, rfl, rfl, rfl⟩) (fun h => absurd rfl h) rfl (Nat.le_of_ble_eq_true rfl) dX7_target_7 10 rfl h (fun r_1 h => ?_)
  refine z_callR C ([]) (fun v h => c_X7_cell l D T    (v1 - 1) r_1 v h) ⟨rfl, rfl⟩ (z_cwS C 2 gX7_target_X7_cell rfl dd_X7_cell ⟨(Nat.le_of_ble_eq_true rfl), (Nat.le_of_ble_eq_true rfl)⟩) (hD.zaddr rfl) [] rfl rfl (fun h => absurd h (by decide)) (fun _ => rfl) rfl (Nat.le_of_ble_eq_true rfl) dX7_target_10 13 rfl h (fun r_2 h => ?_)
  exact z_iretR C hr dX7_target_13 h

end
/-! StreamTreeModel.isFree (III)Z -/
section
variable {p : Program} {l : Launch} {e : Env} {R : Room} {s : State} {m : MethodId} {args : Array Value} {below : List Frame} {meth : Method} {c : Code} {Q : State → Prop} {A : Nat → Prop} {D : va_G} {T : Nat → ClassId} {a0 : Nat → Nat}
theorem in_X7_isFree_X7 : ∀ w ∈ u_ws RX7 TX7 35, w ∈ wsX7_isFree := fun _ h => (List.mem_cons_of_mem _ (List.mem_append_right _ h))
def f_X7_isFree (S0 : Nat → Nat → Int32) (v1 : Int32) (v2 : Int32) (v3 : Int32) : Option (Int32) := if v1 = 1 then (some 1) else ((f_X7_target S0 v1 v2 v3).bind fun r_1 => zix r_1 240 fun _ => if (S0 10 (Int32.toNatClampNeg r_1)) = 0 then (some 1) else (some 0))
theorem dd_X7_isFree : RX7 ≠ "java/lang/invoke/MethodHandle" ∧ RX7 ≠ "java/lang/invoke/VarHandle" ∧ (parseMethodDescriptor yX7_isFree.desc).map (fun d => d.parameters.length) = some 3 := by decide +kernel
set_option maxHeartbeats 4000000 in
set_option maxRecDepth 100000 in
theorem c_X7_isFree (l : Launch) (D : va_G) (T : Nat → ClassId) (a0 : Nat → Nat) (S0 : Nat → Nat → Int32) (v1 : Int32) (v2 : Int32) (v3 : Int32) (ex : Int32) (h : f_X7_isFree S0 v1 v2 v3 = some ex) : zRI l yX7_isFree wsX7_isFree ({ frames := 3, cells := 0, slots := 0, locals := 67 } : Room) D T [.ref (a0 99), .int v1, .int v2, .int v3] (wX7 T a0 S0) ex := by
  refine z_begin (cc := cX7_isFree) (nL := 4) (own := RX7) (fr := 3) (lc := 67) (ret := some .boolean) (by decide) rfl (Nat.le_of_ble_eq_true rfl) (fun _ => False) rfl [(0, .ref (a0 99)), (1, .int v1), (2, .int v2), (3, .int v3)] rfl ⟨rfl, rfl⟩ rfl ?_
  intro p e s m args below meth c C hr hD
  unfold f_X7_isFree at h
  refine z_iload_n C dX7_isFree_0 rfl 1 rfl 1 rfl ?_
  refine z_iconst C 1 dX7_isFree_1 (by decide) 2 rfl ?_
  refine z_icmp_eq C 20 dX7_isFree_2 (by decide) 5 rfl h (fun h => ?_) (fun h => ?_)
  · refine z_iconst C 1 dX7_isFree_20 (by decide) 21 rfl ?_
    refine z_goto C 25 dX7_isFree_21 (by decide) ?_
    exact z_zretRc C hr dX7_isFree_25 (Or.inr rfl) h
  · refine z_aload_n C dX7_isFree_5 rfl 0 rfl 6 rfl ?_
    refine z_get C (in_X7_isFree_X7) 0 rfl rfl 10 (by decide) (List.mem_of_getElem? (i := 1) rfl) rfl rfl dX7_isFree_6 9 rfl ?_
    refine z_aload_n C dX7_isFree_9 rfl 0 rfl 10 rfl ?_
    refine z_iload_n C dX7_isFree_10 rfl 1 rfl 11 rfl ?_
    refine z_iload_n C dX7_isFree_11 rfl 2 rfl 12 rfl ?_
    refine z_iload_n C dX7_isFree_12 rfl 3 rfl 13 rfl ?_
    refine z_callR C (wX7 T a0 S0) (fun v h => c_X7_target l D T a0  S0 v1 v2 v3 v h) ⟨rfl, rfl⟩ (z_cwV C 3 gX7_isFree_X7_target rfl rfl dd_X7_target ⟨(Nat.le_of_ble_eq_true rfl), (Nat.le_of_ble_eq_true rfl)⟩) (hD.zaddr rfl) [0, 1, 2, 3, 4, 5, 6, 7, 8, 9, 10, 11, 12, 13, 14, 15, 16, 17] rfl rfl (fun _ => ⟨a0 99, [.int v1, .int v2, .int v3], 6, 0, _, _, rfl, rfl, rfl, rfl, rfl⟩) (fun h => absurd rfl h) rfl (Nat.le_of_ble_eq_true rfl) dX7_isFree_13 16 rfl h (fun r_1 h => ?_)
    refine z_zald C 4 rfl rfl dX7_isFree_16 17 rfl h (fun h => ?_)
    refine z_if_ne C 24 dX7_isFree_17 (by decide) 20 rfl h (fun h => ?_) (fun h => ?_)
    · refine z_iconst C 0 dX7_isFree_24 (by decide) 25 rfl ?_
      exact z_zretRc C hr dX7_isFree_25 (Or.inl rfl) h
    · refine z_iconst C 1 dX7_isFree_20 (by decide) 21 rfl ?_
      refine z_goto C 25 dX7_isFree_21 (by decide) ?_
      exact z_zretRc C hr dX7_isFree_25 (Or.inr rfl) h

end
/-! StreamTreeModel.lengthOf (II)I -/
section
variable {p : Program} {l : Launch} {e : Env} {R : Room} {s : State} {m : MethodId} {args : Array Value} {below : List Frame} {meth : Method} {c : Code} {Q : State → Prop} {A : Nat → Prop} {D : va_G} {T : Nat → ClassId} {a0 : Nat → Nat}
theorem in_X7_lengthOf_X7 : ∀ w ∈ u_ws RX7 TX7 35, w ∈ wsX7_lengthOf := fun _ h => (List.mem_cons_of_mem _ (List.mem_append_right _ h))
def f_X7_lengthOf (S0 : Nat → Nat → Int32) (v1 : Int32) (v2 : Int32) : Option (Int32) := if v1 = 1 then (some 10) else (if v2 = 0 then (some 10) else (some (10 + (S0 4 0))))
theorem dd_X7_lengthOf : RX7 ≠ "java/lang/invoke/MethodHandle" ∧ RX7 ≠ "java/lang/invoke/VarHandle" ∧ (parseMethodDescriptor yX7_lengthOf.desc).map (fun d => d.parameters.length) = some 2 := by decide +kernel
set_option maxHeartbeats 4000000 in
set_option maxRecDepth 100000 in
theorem c_X7_lengthOf (l : Launch) (D : va_G) (T : Nat → ClassId) (a0 : Nat → Nat) (S0 : Nat → Nat → Int32) (v1 : Int32) (v2 : Int32) (ex : Int32) (h : f_X7_lengthOf S0 v1 v2 = some ex) : zRI l yX7_lengthOf wsX7_lengthOf ({ frames := 0, cells := 0, slots := 0, locals := 0 } : Room) D T [.ref (a0 99), .int v1, .int v2] (wX7 T a0 S0) ex := by
  refine z_begin (cc := cX7_lengthOf) (nL := 3) (own := RX7) (fr := 0) (lc := 0) (ret := some .int) (by decide) rfl (Nat.le_of_ble_eq_true rfl) (fun _ => False) rfl [(0, .ref (a0 99)), (1, .int v1), (2, .int v2)] rfl ⟨rfl, rfl⟩ rfl ?_
  intro p e s m args below meth c C hr hD
  unfold f_X7_lengthOf at h
  refine z_iload_n C dX7_lengthOf_0 rfl 1 rfl 1 rfl ?_
  refine z_iconst C 1 dX7_lengthOf_1 (by decide) 2 rfl ?_
  refine z_icmp_eq C 9 dX7_lengthOf_2 (by decide) 5 rfl h (fun h => ?_) (fun h => ?_)
  · refine z_bipush C 10 dX7_lengthOf_9 (by decide) 11 rfl ?_
    refine z_goto C 21 dX7_lengthOf_11 (by decide) ?_
    exact z_iretR C hr dX7_lengthOf_21 h
  · refine z_iload_n C dX7_lengthOf_5 rfl 2 rfl 6 rfl ?_
    refine z_if_ne C 14 dX7_lengthOf_6 (by decide) 9 rfl h (fun h => ?_) (fun h => ?_)
    · refine z_bipush C 10 dX7_lengthOf_14 (by decide) 16 rfl ?_
      refine z_aload_n C dX7_lengthOf_16 rfl 0 rfl 17 rfl ?_
      refine z_get C (in_X7_lengthOf_X7) 0 rfl rfl 4 (by decide) (List.mem_of_getElem? (i := 1) rfl) rfl rfl dX7_lengthOf_17 20 rfl ?_
      refine z_iadd C dX7_lengthOf_20 21 rfl ?_
      exact z_iretR C hr dX7_lengthOf_21 h
    · refine z_bipush C 10 dX7_lengthOf_9 (by decide) 11 rfl ?_
      refine z_goto C 21 dX7_lengthOf_11 (by decide) ?_
      exact z_iretR C hr dX7_lengthOf_21 h

end
/-! StreamTreeModel.clears ()V -/
section
variable {p : Program} {l : Launch} {e : Env} {R : Room} {s : State} {m : MethodId} {args : Array Value} {below : List Frame} {meth : Method} {c : Code} {Q : State → Prop} {A : Nat → Prop} {D : va_G} {T : Nat → ClassId} {a0 : Nat → Nat}
theorem in_X7_clears_X7 : ∀ w ∈ u_ws RX7 TX7 35, w ∈ wsX7_clears := fun _ h => (List.mem_cons_of_mem _ (List.mem_append_right _ h))
def f_X7_clears_L2b   (rec : (Int32 × (Nat → Nat → Int32)) → Option ((Nat → Nat → Int32))) (a : Int32 × (Nat → Nat → Int32)) : Option ((Nat → Nat → Int32)) := if 240 ≤ a.1 then (some a.2) else (zix a.1 240 fun j => zlet (zst a.2 26 j (-1)) fun S0_1 => zix a.1 240 fun j => zlet (zst S0_1 27 j 0) fun S0_2 => rec ((a.1 + 1), S0_2))
def f_X7_clears_L2   : Nat → (Int32 × (Nat → Nat → Int32)) → Option ((Nat → Nat → Int32)) := zloop (fun rec a => f_X7_clears_L2b  rec a)
set_option maxHeartbeats 4000000 in
set_option maxRecDepth 100000 in
theorem p_X7_clears_L2 (C : zC p R s m args meth c cX7_clears 2 RX7 wsX7_clears D T 1 21 0 0) (S0 : Nat → Nat → Int32)  (hD : va_D A (wX7 T a0 S0)) : ∀ (n : Nat) (c0 : Int32) (c1 : Nat → Nat → Int32) (b : (Nat → Nat → Int32)), f_X7_clears_L2  n (c0, c1) = some b → (zt p l e R s m args below meth c 2 A D 0 0 Q (wX7 T a0 b) [(0, .ref (a0 99))] 29 []) → zt p l e R s m args below meth c 2 A D 0 0 Q (wX7 T a0 c1) [(0, .ref (a0 99)), (1, .int c0)] 2 [] := by
  intro n c0 c1 b h K
  refine zloop_ind (P := fun a b => (zt p l e R s m args below meth c 2 A D 0 0 Q (wX7 T a0 b) [(0, .ref (a0 99))] 29 []) → zt p l e R s m args below meth c 2 A D 0 0 Q (wX7 T a0 a.2) [(0, .ref (a0 99)), (1, .int a.1)] 2 []) ?_ n (c0, c1) b h K
  clear h K b c0 c1
  intro rec hrec a b h K
  have hrec : ∀ (c0 : Int32) (c1 : Nat → Nat → Int32) (b : (Nat → Nat → Int32)), rec (c0, c1) = some b → (zt p l e R s m args below meth c 2 A D 0 0 Q (wX7 T a0 b) [(0, .ref (a0 99))] 29 []) → zt p l e R s m args below meth c 2 A D 0 0 Q (wX7 T a0 c1) [(0, .ref (a0 99)), (1, .int c0)] 2 [] := fun c0 c1 b h K => hrec (c0, c1) b h K
  unfold f_X7_clears_L2b at h
  refine z_iload_n C dX7_clears_2 rfl 1 rfl 3 rfl ?_
  refine z_sipush C 240 dX7_clears_3 (by decide) 6 rfl ?_
  refine z_icmp_ge C 29 dX7_clears_6 (by decide) 9 rfl h (fun h => ?_) (fun h => ?_)
  · refine z_locals (ks := [0]) (lv' := [(0, .ref (a0 99))]) rfl ?_
    exact zex1 (F := (fun e0 => zt p l e R s m args below meth c 2 A D 0 0 Q (wX7 T a0 e0) [(0, .ref (a0 99))] 29 [])) h K
  · refine z_aload_n C dX7_clears_9 rfl 0 rfl 10 rfl ?_
    refine z_get C (in_X7_clears_X7) 0 rfl rfl 26 (by decide) (List.mem_of_getElem? (i := 1) rfl) rfl rfl dX7_clears_10 13 rfl ?_
    refine z_iload_n C dX7_clears_13 rfl 1 rfl 14 rfl ?_
    refine z_iconst C (-1) dX7_clears_14 (by decide) 15 rfl ?_
    refine z_iast C (fun z => wX7 T a0 z) a.2 26 (hD.zaddr rfl) 9 rfl rfl (fun _ => rfl) dX7_clears_15 16 rfl h (fun S0_1 h => ?_)
    refine z_aload_n C dX7_clears_16 rfl 0 rfl 17 rfl ?_
    refine z_get C (in_X7_clears_X7) 0 rfl rfl 27 (by decide) (List.mem_of_getElem? (i := 2) rfl) rfl rfl dX7_clears_17 20 rfl ?_
    refine z_iload_n C dX7_clears_20 rfl 1 rfl 21 rfl ?_
    refine z_iconst C 0 dX7_clears_21 (by decide) 22 rfl ?_
    refine z_iast C (fun z => wX7 T a0 z) S0_1 27 (hD.zaddr rfl) 10 rfl rfl (fun _ => rfl) dX7_clears_22 23 rfl h (fun S0_2 h => ?_)
    refine z_iinc C (a.1 + 1) [(0, .ref (a0 99)), (1, .int (a.1 + 1))] dX7_clears_23 1 rfl rfl (Nat.le_of_ble_eq_true rfl) [1, 0] rfl 26 rfl ?_
    refine z_goto C 2 dX7_clears_26 (by decide) ?_
    exact z_locals (ks := [0, 1]) rfl (hrec _ _ _ h K)

def f_X7_clears_L31b   (rec : (Int32 × (Nat → Nat → Int32)) → Option ((Nat → Nat → Int32))) (a : Int32 × (Nat → Nat → Int32)) : Option ((Nat → Nat → Int32)) := if (a.2 9 0) ≤ a.1 then (some a.2) else (zix a.1 8 fun _ => zix a.1 8 fun _ => (f_X7_cell (a.2 6 (Int32.toNatClampNeg a.1)) (a.2 7 (Int32.toNatClampNeg a.1))).bind fun r_4 => zix a.1 8 fun _ => zix r_4 240 fun j => zlet (zst a.2 27 j (a.2 8 (Int32.toNatClampNeg a.1))) fun S0_5 => rec ((a.1 + 1), S0_5))
def f_X7_clears_L31   : Nat → (Int32 × (Nat → Nat → Int32)) → Option ((Nat → Nat → Int32)) := zloop (fun rec a => f_X7_clears_L31b  rec a)
set_option maxHeartbeats 4000000 in
set_option maxRecDepth 100000 in
theorem p_X7_clears_L31 (C : zC p R s m args meth c cX7_clears 2 RX7 wsX7_clears D T 1 21 0 0) (S0 : Nat → Nat → Int32)  (hD : va_D A (wX7 T a0 S0)) : ∀ (n : Nat) (c0 : Int32) (c1 : Nat → Nat → Int32) (b : (Nat → Nat → Int32)), f_X7_clears_L31  n (c0, c1) = some b → (zt p l e R s m args below meth c 2 A D 0 0 Q (wX7 T a0 b) [] 71 []) → zt p l e R s m args below meth c 2 A D 0 0 Q (wX7 T a0 c1) [(0, .ref (a0 99)), (1, .int c0)] 31 [] := by
  intro n c0 c1 b h K
  refine zloop_ind (P := fun a b => (zt p l e R s m args below meth c 2 A D 0 0 Q (wX7 T a0 b) [] 71 []) → zt p l e R s m args below meth c 2 A D 0 0 Q (wX7 T a0 a.2) [(0, .ref (a0 99)), (1, .int a.1)] 31 []) ?_ n (c0, c1) b h K
  clear h K b c0 c1
  intro rec hrec a b h K
  have hrec : ∀ (c0 : Int32) (c1 : Nat → Nat → Int32) (b : (Nat → Nat → Int32)), rec (c0, c1) = some b → (zt p l e R s m args below meth c 2 A D 0 0 Q (wX7 T a0 b) [] 71 []) → zt p l e R s m args below meth c 2 A D 0 0 Q (wX7 T a0 c1) [(0, .ref (a0 99)), (1, .int c0)] 31 [] := fun c0 c1 b h K => hrec (c0, c1) b h K
  unfold f_X7_clears_L31b at h
  refine z_iload_n C dX7_clears_31 rfl 1 rfl 32 rfl ?_
  refine z_aload_n C dX7_clears_32 rfl 0 rfl 33 rfl ?_
  refine z_get C (in_X7_clears_X7) 0 rfl rfl 9 (by decide) (List.mem_of_getElem? (i := 3) rfl) rfl rfl dX7_clears_33 36 rfl ?_
  refine z_icmp_ge C 71 dX7_clears_36 (by decide) 39 rfl h (fun h => ?_) (fun h => ?_)
  · refine z_locals (ks := []) (lv' := []) rfl ?_
    exact zex1 (F := (fun e0 => zt p l e R s m args below meth c 2 A D 0 0 Q (wX7 T a0 e0) [] 71 [])) h K
  · refine z_aload_n C dX7_clears_39 rfl 0 rfl 40 rfl ?_
    refine z_get C (in_X7_clears_X7) 0 rfl rfl 27 (by decide) (List.mem_of_getElem? (i := 2) rfl) rfl rfl dX7_clears_40 43 rfl ?_
    refine z_aload_n C dX7_clears_43 rfl 0 rfl 44 rfl ?_
    refine z_get C (in_X7_clears_X7) 0 rfl rfl 6 (by decide) (List.mem_of_getElem? (i := 4) rfl) rfl rfl dX7_clears_44 47 rfl ?_
    refine z_iload_n C dX7_clears_47 rfl 1 rfl 48 rfl ?_
    refine z_iald C 1 rfl rfl dX7_clears_48 49 rfl h (fun h => ?_)
    refine z_aload_n C dX7_clears_49 rfl 0 rfl 50 rfl ?_
    refine z_get C (in_X7_clears_X7) 0 rfl rfl 7 (by decide) (List.mem_of_getElem? (i := 5) rfl) rfl rfl dX7_clears_50 53 rfl ?_
    refine z_iload_n C dX7_clears_53 rfl 1 rfl 54 rfl ?_
    refine z_iald C 2 rfl rfl dX7_clears_54 55 rfl h (fun h => ?_)
    refine z_callR C ([]) (fun v h => c_X7_cell l D T    (a.2 6 (Int32.toNatClampNeg a.1)) (a.2 7 (Int32.toNatClampNeg a.1)) v h) ⟨rfl, rfl⟩ (z_cwS C 2 gX7_clears_X7_cell rfl dd_X7_cell ⟨(Nat.le_of_ble_eq_true rfl), (Nat.le_of_ble_eq_true rfl)⟩) (hD.zaddr rfl) [] rfl rfl (fun h => absurd h (by decide)) (fun _ => rfl) rfl (Nat.le_of_ble_eq_true rfl) dX7_clears_55 58 rfl h (fun r_4 h => ?_)
    refine z_aload_n C dX7_clears_58 rfl 0 rfl 59 rfl ?_
    refine z_get C (in_X7_clears_X7) 0 rfl rfl 8 (by decide) (List.mem_of_getElem? (i := 6) rfl) rfl rfl dX7_clears_59 62 rfl ?_
    refine z_iload_n C dX7_clears_62 rfl 1 rfl 63 rfl ?_
    refine z_iald C 3 rfl rfl dX7_clears_63 64 rfl h (fun h => ?_)
    refine z_iast C (fun z => wX7 T a0 z) a.2 27 (hD.zaddr rfl) 10 rfl rfl (fun _ => rfl) dX7_clears_64 65 rfl h (fun S0_5 h => ?_)
    refine z_iinc C (a.1 + 1) [(0, .ref (a0 99)), (1, .int (a.1 + 1))] dX7_clears_65 1 rfl rfl (Nat.le_of_ble_eq_true rfl) [1, 0] rfl 68 rfl ?_
    refine z_goto C 31 dX7_clears_68 (by decide) ?_
    exact z_locals (ks := [0, 1]) rfl (hrec _ _ _ h K)

def f_X7_clears (S0 : Nat → Nat → Int32)  : Option ((Nat → Nat → Int32)) := (f_X7_clears_L2  zfuel (0, S0)).bind fun y_3 => (f_X7_clears_L31  zfuel (0, y_3)).bind fun y_6 => some y_6
theorem dd_X7_clears : RX7 ≠ "java/lang/invoke/MethodHandle" ∧ RX7 ≠ "java/lang/invoke/VarHandle" ∧ (parseMethodDescriptor yX7_clears.desc).map (fun d => d.parameters.length) = some 0 := by decide +kernel
set_option maxHeartbeats 4000000 in
set_option maxRecDepth 100000 in
theorem c_X7_clears (l : Launch) (D : va_G) (T : Nat → ClassId) (a0 : Nat → Nat) (S0 : Nat → Nat → Int32)  (ex : (Nat → Nat → Int32)) (h : f_X7_clears S0 = some ex) : zWV l yX7_clears wsX7_clears ({ frames := 1, cells := 0, slots := 0, locals := 21 } : Room) D T [.ref (a0 99)] (wX7 T a0 S0) (wX7 T a0 ex) := by
  refine z_begin (cc := cX7_clears) (nL := 2) (own := RX7) (fr := 1) (lc := 21) (ret := none) (by decide) rfl (Nat.le_of_ble_eq_true rfl) (zA (wX7 T a0 S0)) rfl [(0, .ref (a0 99))] rfl ⟨rfl, rfl⟩ rfl ?_
  intro p e s m args below meth c C hr hD
  have hD := hD.zself
  unfold f_X7_clears at h
  refine z_iconst C 0 dX7_clears_0 (by decide) 1 rfl ?_
  refine z_istore_n C [(0, .ref (a0 99)), (1, .int 0)] dX7_clears_1 rfl (Nat.le_of_ble_eq_true rfl) [1, 0] rfl 2 rfl ?_
  obtain ⟨y_3, hl_y_3, h⟩ := Option.bind_eq_some_iff.mp h
  refine z_locals (ks := [0, 1]) rfl (p_X7_clears_L2 C S0  (hD.zaddr rfl) _ _ _ _ hl_y_3 ?_)
  refine z_iconst C 0 dX7_clears_29 (by decide) 30 rfl ?_
  refine z_istore_n C [(0, .ref (a0 99)), (1, .int 0)] dX7_clears_30 rfl (Nat.le_of_ble_eq_true rfl) [1, 0] rfl 31 rfl ?_
  obtain ⟨y_6, hl_y_6, h⟩ := Option.bind_eq_some_iff.mp h
  refine z_locals (ks := [0, 1]) rfl (p_X7_clears_L31 C y_3  (hD.zaddr rfl) _ _ _ _ hl_y_6 ?_)
  exact z_vretW (x := y_6) (ex := ex) (fun z => wX7 T a0 z) C hr dX7_clears_71 h rfl

end
/-! StreamTreeModel.steps (III)V -/
section
variable {p : Program} {l : Launch} {e : Env} {R : Room} {s : State} {m : MethodId} {args : Array Value} {below : List Frame} {meth : Method} {c : Code} {Q : State → Prop} {A : Nat → Prop} {D : va_G} {T : Nat → ClassId} {a0 : Nat → Nat}
theorem in_X7_steps_X7 : ∀ w ∈ u_ws RX7 TX7 35, w ∈ wsX7_steps := fun _ h => (List.mem_cons_of_mem _ (List.mem_append_right _ h))
def f_X7_steps (S0 : Nat → Nat → Int32) (v1 : Int32) (v2 : Int32) (v3 : Int32) : Option ((Nat → Nat → Int32)) := (f_X7_cell v1 v2).bind fun r_1 => zix r_1 240 fun j => zlet (zst S0 26 j v3) fun S0_2 => (f_X7_target S0_2 v1 v2 v3).bind fun r_3 => zix r_3 240 fun _ => (f_X7_cell v1 v2).bind fun r_4 => zix r_4 240 fun _ => zix r_3 240 fun j => zlet (zst S0_2 27 j ((S0_2 27 (Int32.toNatClampNeg r_3)) + (S0_2 27 (Int32.toNatClampNeg r_4)))) fun S0_5 => some S0_5
theorem dd_X7_steps : RX7 ≠ "java/lang/invoke/MethodHandle" ∧ RX7 ≠ "java/lang/invoke/VarHandle" ∧ (parseMethodDescriptor yX7_steps.desc).map (fun d => d.parameters.length) = some 3 := by decide +kernel
set_option maxHeartbeats 4000000 in
set_option maxRecDepth 100000 in
theorem c_X7_steps (l : Launch) (D : va_G) (T : Nat → ClassId) (a0 : Nat → Nat) (S0 : Nat → Nat → Int32) (v1 : Int32) (v2 : Int32) (v3 : Int32) (ex : (Nat → Nat → Int32)) (h : f_X7_steps S0 v1 v2 v3 = some ex) : zWV l yX7_steps wsX7_steps ({ frames := 3, cells := 0, slots := 0, locals := 67 } : Room) D T [.ref (a0 99), .int v1, .int v2, .int v3] (wX7 T a0 S0) (wX7 T a0 ex) := by
  refine z_begin (cc := cX7_steps) (nL := 4) (own := RX7) (fr := 3) (lc := 67) (ret := none) (by decide) rfl (Nat.le_of_ble_eq_true rfl) (zA (wX7 T a0 S0)) rfl [(0, .ref (a0 99)), (1, .int v1), (2, .int v2), (3, .int v3)] rfl ⟨rfl, rfl⟩ rfl ?_
  intro p e s m args below meth c C hr hD
  have hD := hD.zself
  unfold f_X7_steps at h
  refine z_aload_n C dX7_steps_0 rfl 0 rfl 1 rfl ?_
  refine z_get C (in_X7_steps_X7) 0 rfl rfl 26 (by decide) (List.mem_of_getElem? (i := 1) rfl) rfl rfl dX7_steps_1 4 rfl ?_
  refine z_iload_n C dX7_steps_4 rfl 1 rfl 5 rfl ?_
  refine z_iload_n C dX7_steps_5 rfl 2 rfl 6 rfl ?_
  refine z_callR C ([]) (fun v h => c_X7_cell l D T    v1 v2 v h) ⟨rfl, rfl⟩ (z_cwS C 2 gX7_steps_X7_cell rfl dd_X7_cell ⟨(Nat.le_of_ble_eq_true rfl), (Nat.le_of_ble_eq_true rfl)⟩) (hD.zaddr rfl) [] rfl rfl (fun h => absurd h (by decide)) (fun _ => rfl) rfl (Nat.le_of_ble_eq_true rfl) dX7_steps_6 9 rfl h (fun r_1 h => ?_)
  refine z_iload_n C dX7_steps_9 rfl 3 rfl 10 rfl ?_
  refine z_iast C (fun z => wX7 T a0 z) S0 26 (hD.zaddr rfl) 9 rfl rfl (fun _ => rfl) dX7_steps_10 11 rfl h (fun S0_2 h => ?_)
  refine z_aload_n C dX7_steps_11 rfl 0 rfl 12 rfl ?_
  refine z_get C (in_X7_steps_X7) 0 rfl rfl 27 (by decide) (List.mem_of_getElem? (i := 2) rfl) rfl rfl dX7_steps_12 15 rfl ?_
  refine z_aload_n C dX7_steps_15 rfl 0 rfl 16 rfl ?_
  refine z_iload_n C dX7_steps_16 rfl 1 rfl 17 rfl ?_
  refine z_iload_n C dX7_steps_17 rfl 2 rfl 18 rfl ?_
  refine z_iload_n C dX7_steps_18 rfl 3 rfl 19 rfl ?_
  refine z_callR C (wX7 T a0 S0_2) (fun v h => c_X7_target l D T a0  S0_2 v1 v2 v3 v h) ⟨rfl, rfl⟩ (z_cwV C 3 gX7_steps_X7_target rfl rfl dd_X7_target ⟨(Nat.le_of_ble_eq_true rfl), (Nat.le_of_ble_eq_true rfl)⟩) (hD.zaddr rfl) [0, 1, 2, 3, 4, 5, 6, 7, 8, 9, 10, 11, 12, 13, 14, 15, 16, 17] rfl rfl (fun _ => ⟨a0 99, [.int v1, .int v2, .int v3], 6, 0, _, _, rfl, rfl, rfl, rfl, rfl⟩) (fun h => absurd rfl h) rfl (Nat.le_of_ble_eq_true rfl) dX7_steps_19 22 rfl h (fun r_3 h => ?_)
  refine z_dup2 C dX7_steps_22 rfl rfl 23 rfl ?_
  refine z_iald C 10 rfl rfl dX7_steps_23 24 rfl h (fun h => ?_)
  refine z_aload_n C dX7_steps_24 rfl 0 rfl 25 rfl ?_
  refine z_get C (in_X7_steps_X7) 0 rfl rfl 27 (by decide) (List.mem_of_getElem? (i := 2) rfl) rfl rfl dX7_steps_25 28 rfl ?_
  refine z_iload_n C dX7_steps_28 rfl 1 rfl 29 rfl ?_
  refine z_iload_n C dX7_steps_29 rfl 2 rfl 30 rfl ?_
  refine z_callR C ([]) (fun v h => c_X7_cell l D T    v1 v2 v h) ⟨rfl, rfl⟩ (z_cwS C 2 gX7_steps_X7_cell rfl dd_X7_cell ⟨(Nat.le_of_ble_eq_true rfl), (Nat.le_of_ble_eq_true rfl)⟩) (hD.zaddr rfl) [] rfl rfl (fun h => absurd h (by decide)) (fun _ => rfl) rfl (Nat.le_of_ble_eq_true rfl) dX7_steps_30 33 rfl h (fun r_4 h => ?_)
  refine z_iald C 10 rfl rfl dX7_steps_33 34 rfl h (fun h => ?_)
  refine z_iadd C dX7_steps_34 35 rfl ?_
  refine z_iast C (fun z => wX7 T a0 z) S0_2 27 (hD.zaddr rfl) 10 rfl rfl (fun _ => rfl) dX7_steps_35 36 rfl h (fun S0_5 h => ?_)
  exact z_vretW (x := S0_5) (ex := ex) (fun z => wX7 T a0 z) C hr dX7_steps_36 h rfl

end
/-! StreamTreeModel.laysStraight ()Z -/
section
variable {p : Program} {l : Launch} {e : Env} {R : Room} {s : State} {m : MethodId} {args : Array Value} {below : List Frame} {meth : Method} {c : Code} {Q : State → Prop} {A : Nat → Prop} {D : va_G} {T : Nat → ClassId} {a0 : Nat → Nat}
theorem in_X7_laysStraight_X7 : ∀ w ∈ u_ws RX7 TX7 35, w ∈ wsX7_laysStraight := fun _ h => (List.mem_cons_of_mem _ (List.mem_append_right _ h))
def f_X7_laysStraight_J51 (rec : (Int32 × (Nat → Nat → Int32)) → Option (Nat × (Nat → Nat → Int32))) (S0 : Nat → Nat → Int32) (v1 : Int32) (x2 : Int32)  : Option (Nat × (Nat → Nat → Int32)) := rec ((x2 + 1), S0)
set_option maxHeartbeats 4000000 in
set_option maxRecDepth 100000 in
theorem p_X7_laysStraight_J51 (C : zC p R s m args meth c cX7_laysStraight 3 RX7 wsX7_laysStraight D T 4 90 0 0) (S0 : Nat → Nat → Int32) {v1 : Int32} (x2 : Int32)  (hD : va_D A (wX7 T a0 S0)) {rec : (Int32 × (Nat → Nat → Int32)) → Option (Nat × (Nat → Nat → Int32))} (hrec : ∀ (c0 : Int32) (c1 : Nat → Nat → Int32) (b : Nat × (Nat → Nat → Int32)), rec (c0, c1) = some b → ((b.1 = 0 → zt p l e R s m args below meth c 3 A D 0 0 Q (wX7 T a0 b.2) [] 42 []) ∧ (b.1 = 1 → zt p l e R s m args below meth c 3 A D 0 0 Q (wX7 T a0 b.2) [(0, .ref (a0 99)), (1, .int v1)] 57 [])) → zt p l e R s m args below meth c 3 A D 0 0 Q (wX7 T a0 c1) [(0, .ref (a0 99)), (1, .int v1), (2, .int c0)] 11 []) {b : Nat × (Nat → Nat → Int32)} (K : (b.1 = 0 → zt p l e R s m args below meth c 3 A D 0 0 Q (wX7 T a0 b.2) [] 42 []) ∧ (b.1 = 1 → zt p l e R s m args below meth c 3 A D 0 0 Q (wX7 T a0 b.2) [(0, .ref (a0 99)), (1, .int v1)] 57 [])) (h : f_X7_laysStraight_J51 rec S0 v1 x2 = some b) : zt p l e R s m args below meth c 3 A D 0 0 Q (wX7 T a0 S0) [(0, .ref (a0 99)), (1, .int v1), (2, .int x2)] 51 [] := by
  unfold f_X7_laysStraight_J51 at h
  refine z_iinc C (x2 + 1) [(0, .ref (a0 99)), (1, .int v1), (2, .int (x2 + 1))] dX7_laysStraight_51 2 rfl rfl (Nat.le_of_ble_eq_true rfl) [1, 2, 0] rfl 54 rfl ?_
  refine z_goto C 11 dX7_laysStraight_54 (by decide) ?_
  exact z_locals (ks := [0, 1, 2]) rfl (hrec _ _ _ h K)

def f_X7_laysStraight_L11b  (v1 : Int32) (rec : (Int32 × (Nat → Nat → Int32)) → Option (Nat × (Nat → Nat → Int32))) (a : Int32 × (Nat → Nat → Int32)) : Option (Nat × (Nat → Nat → Int32)) := if (a.2 2 0) ≤ a.1 then (some (1, a.2)) else ((f_X7_cell v1 a.1).bind fun r_2 => zix r_2 240 fun _ => if (a.2 27 (Int32.toNatClampNeg r_2)) ≤ 0 then (f_X7_laysStraight_J51 rec a.2 v1 a.1) else ((f_X7_isFree a.2 v1 a.1 0).bind fun r_3 => if r_3 = 0 then (some (0, a.2)) else ((f_X7_steps a.2 v1 a.1 0).bind fun r_4 => f_X7_laysStraight_J51 rec r_4 v1 a.1)))
def f_X7_laysStraight_L11  (v1 : Int32) : Nat → (Int32 × (Nat → Nat → Int32)) → Option (Nat × (Nat → Nat → Int32)) := zloop (fun rec a => f_X7_laysStraight_L11b v1 rec a)
set_option maxHeartbeats 4000000 in
set_option maxRecDepth 100000 in
theorem p_X7_laysStraight_L11 (C : zC p R s m args meth c cX7_laysStraight 3 RX7 wsX7_laysStraight D T 4 90 0 0) (S0 : Nat → Nat → Int32) (v1 : Int32) (hD : va_D A (wX7 T a0 S0)) : ∀ (n : Nat) (c0 : Int32) (c1 : Nat → Nat → Int32) (b : Nat × (Nat → Nat → Int32)), f_X7_laysStraight_L11 v1 n (c0, c1) = some b → ((b.1 = 0 → zt p l e R s m args below meth c 3 A D 0 0 Q (wX7 T a0 b.2) [] 42 []) ∧ (b.1 = 1 → zt p l e R s m args below meth c 3 A D 0 0 Q (wX7 T a0 b.2) [(0, .ref (a0 99)), (1, .int v1)] 57 [])) → zt p l e R s m args below meth c 3 A D 0 0 Q (wX7 T a0 c1) [(0, .ref (a0 99)), (1, .int v1), (2, .int c0)] 11 [] := by
  intro n c0 c1 b h K
  refine zloop_ind (P := fun a b => ((b.1 = 0 → zt p l e R s m args below meth c 3 A D 0 0 Q (wX7 T a0 b.2) [] 42 []) ∧ (b.1 = 1 → zt p l e R s m args below meth c 3 A D 0 0 Q (wX7 T a0 b.2) [(0, .ref (a0 99)), (1, .int v1)] 57 [])) → zt p l e R s m args below meth c 3 A D 0 0 Q (wX7 T a0 a.2) [(0, .ref (a0 99)), (1, .int v1), (2, .int a.1)] 11 []) ?_ n (c0, c1) b h K
  clear h K b c0 c1
  intro rec hrec a b h K
  have hrec : ∀ (c0 : Int32) (c1 : Nat → Nat → Int32) (b : Nat × (Nat → Nat → Int32)), rec (c0, c1) = some b → ((b.1 = 0 → zt p l e R s m args below meth c 3 A D 0 0 Q (wX7 T a0 b.2) [] 42 []) ∧ (b.1 = 1 → zt p l e R s m args below meth c 3 A D 0 0 Q (wX7 T a0 b.2) [(0, .ref (a0 99)), (1, .int v1)] 57 [])) → zt p l e R s m args below meth c 3 A D 0 0 Q (wX7 T a0 c1) [(0, .ref (a0 99)), (1, .int v1), (2, .int c0)] 11 [] := fun c0 c1 b h K => hrec (c0, c1) b h K
  unfold f_X7_laysStraight_L11b at h
  refine z_iload_n C dX7_laysStraight_11 rfl 2 rfl 12 rfl ?_
  refine z_aload_n C dX7_laysStraight_12 rfl 0 rfl 13 rfl ?_
  refine z_get C (in_X7_laysStraight_X7) 0 rfl rfl 2 (by decide) (List.mem_of_getElem? (i := 2) rfl) rfl rfl dX7_laysStraight_13 16 rfl ?_
  refine z_icmp_ge C 57 dX7_laysStraight_16 (by decide) 19 rfl h (fun h => ?_) (fun h => ?_)
  · refine z_locals (ks := [0, 1]) (lv' := [(0, .ref (a0 99)), (1, .int v1)]) rfl ?_
    exact zexT1 (F := (fun e0 => zt p l e R s m args below meth c 3 A D 0 0 Q (wX7 T a0 e0) [(0, .ref (a0 99)), (1, .int v1)] 57 [])) h K.2
  · refine z_aload_n C dX7_laysStraight_19 rfl 0 rfl 20 rfl ?_
    refine z_get C (in_X7_laysStraight_X7) 0 rfl rfl 27 (by decide) (List.mem_of_getElem? (i := 3) rfl) rfl rfl dX7_laysStraight_20 23 rfl ?_
    refine z_iload_n C dX7_laysStraight_23 rfl 1 rfl 24 rfl ?_
    refine z_iload_n C dX7_laysStraight_24 rfl 2 rfl 25 rfl ?_
    refine z_callR C ([]) (fun v h => c_X7_cell l D T    v1 a.1 v h) ⟨rfl, rfl⟩ (z_cwS C 2 gX7_laysStraight_X7_cell rfl dd_X7_cell ⟨(Nat.le_of_ble_eq_true rfl), (Nat.le_of_ble_eq_true rfl)⟩) (hD.zaddr rfl) [] rfl rfl (fun h => absurd h (by decide)) (fun _ => rfl) rfl (Nat.le_of_ble_eq_true rfl) dX7_laysStraight_25 28 rfl h (fun r_2 h => ?_)
    refine z_iald C 10 rfl rfl dX7_laysStraight_28 29 rfl h (fun h => ?_)
    refine z_if_le C 51 dX7_laysStraight_29 (by decide) 32 rfl h (fun h => ?_) (fun h => ?_)
    · exact z_locals (ks := [0, 1, 2]) rfl (p_X7_laysStraight_J51 C a.2 a.1 (hD.zaddr rfl) hrec K h)
    · refine z_aload_n C dX7_laysStraight_32 rfl 0 rfl 33 rfl ?_
      refine z_iload_n C dX7_laysStraight_33 rfl 1 rfl 34 rfl ?_
      refine z_iload_n C dX7_laysStraight_34 rfl 2 rfl 35 rfl ?_
      refine z_iconst C 0 dX7_laysStraight_35 (by decide) 36 rfl ?_
      refine z_callR C (wX7 T a0 a.2) (fun v h => c_X7_isFree l D T a0  a.2 v1 a.1 0 v h) ⟨rfl, rfl⟩ (z_cwV C 3 gX7_laysStraight_X7_isFree rfl rfl dd_X7_isFree ⟨(Nat.le_of_ble_eq_true rfl), (Nat.le_of_ble_eq_true rfl)⟩) (hD.zaddr rfl) [0, 1, 2, 3, 4, 5, 6, 7, 8, 9, 10, 11, 12, 13, 14, 15, 16, 17] rfl rfl (fun _ => ⟨a0 99, [.int v1, .int a.1, .int 0], 6, 0, _, _, rfl, rfl, rfl, rfl, rfl⟩) (fun h => absurd rfl h) rfl (Nat.le_of_ble_eq_true rfl) dX7_laysStraight_36 39 rfl h (fun r_3 h => ?_)
      refine z_if_ne C 44 dX7_laysStraight_39 (by decide) 42 rfl h (fun h => ?_) (fun h => ?_)
      · refine z_aload_n C dX7_laysStraight_44 rfl 0 rfl 45 rfl ?_
        refine z_iload_n C dX7_laysStraight_45 rfl 1 rfl 46 rfl ?_
        refine z_iload_n C dX7_laysStraight_46 rfl 2 rfl 47 rfl ?_
        refine z_iconst C 0 dX7_laysStraight_47 (by decide) 48 rfl ?_
        refine z_callV C (wX7 T a0 a.2) (([] : va_W)) (fun z => wX7 T a0 z) (fun z => wX7 T a0 z) (fun z h => c_X7_steps l D T a0  a.2 v1 a.1 0 z h) ⟨rfl, rfl⟩ (z_cwV C 3 gX7_laysStraight_X7_steps rfl rfl dd_X7_steps ⟨(Nat.le_of_ble_eq_true rfl), (Nat.le_of_ble_eq_true rfl)⟩) (hD.zaddr rfl) [0, 1, 2, 3, 4, 5, 6, 7, 8, 9, 10, 11, 12, 13, 14, 15, 16, 17] [] [0, 1, 2, 3, 4, 5, 6, 7, 8, 9, 10, 11, 12, 13, 14, 15, 16, 17] rfl rfl rfl (by decide) (fun _ => rfl) (fun _ => ⟨a0 99, [.int v1, .int a.1, .int 0], 6, 0, _, _, rfl, rfl, rfl, rfl, rfl⟩) (fun h => absurd rfl h) rfl (Nat.le_of_ble_eq_true rfl) dX7_laysStraight_48 51 rfl h (fun r_4 h => ?_)
        exact z_locals (ks := [0, 1, 2]) rfl (p_X7_laysStraight_J51 C r_4 a.1 (hD.zaddr rfl) hrec K h)
      · refine z_locals (ks := []) (lv' := []) rfl ?_
        exact zexT1 (F := (fun e0 => zt p l e R s m args below meth c 3 A D 0 0 Q (wX7 T a0 e0) [] 42 [])) h K.1

def f_X7_laysStraight_L5b   (rec : (Int32 × (Nat → Nat → Int32)) → Option (Nat × (Nat → Nat → Int32))) (a : Int32 × (Nat → Nat → Int32)) : Option (Nat × (Nat → Nat → Int32)) := if a.1 ≤ 0 then (some (1, a.2)) else ((f_X7_laysStraight_L11 a.1 zfuel (0, a.2)).bind fun y_5 => if y_5.1 = 0 then (some (0, y_5.2)) else (rec ((a.1 + (-1)), y_5.2)))
def f_X7_laysStraight_L5   : Nat → (Int32 × (Nat → Nat → Int32)) → Option (Nat × (Nat → Nat → Int32)) := zloop (fun rec a => f_X7_laysStraight_L5b  rec a)
set_option maxHeartbeats 4000000 in
set_option maxRecDepth 100000 in
theorem p_X7_laysStraight_L5 (C : zC p R s m args meth c cX7_laysStraight 3 RX7 wsX7_laysStraight D T 4 90 0 0) (S0 : Nat → Nat → Int32)  (hD : va_D A (wX7 T a0 S0)) : ∀ (n : Nat) (c0 : Int32) (c1 : Nat → Nat → Int32) (b : Nat × (Nat → Nat → Int32)), f_X7_laysStraight_L5  n (c0, c1) = some b → ((b.1 = 0 → zt p l e R s m args below meth c 3 A D 0 0 Q (wX7 T a0 b.2) [] 42 []) ∧ (b.1 = 1 → zt p l e R s m args below meth c 3 A D 0 0 Q (wX7 T a0 b.2) [] 63 [])) → zt p l e R s m args below meth c 3 A D 0 0 Q (wX7 T a0 c1) [(0, .ref (a0 99)), (1, .int c0)] 5 [] := by
  intro n c0 c1 b h K
  refine zloop_ind (P := fun a b => ((b.1 = 0 → zt p l e R s m args below meth c 3 A D 0 0 Q (wX7 T a0 b.2) [] 42 []) ∧ (b.1 = 1 → zt p l e R s m args below meth c 3 A D 0 0 Q (wX7 T a0 b.2) [] 63 [])) → zt p l e R s m args below meth c 3 A D 0 0 Q (wX7 T a0 a.2) [(0, .ref (a0 99)), (1, .int a.1)] 5 []) ?_ n (c0, c1) b h K
  clear h K b c0 c1
  intro rec hrec a b h K
  have hrec : ∀ (c0 : Int32) (c1 : Nat → Nat → Int32) (b : Nat × (Nat → Nat → Int32)), rec (c0, c1) = some b → ((b.1 = 0 → zt p l e R s m args below meth c 3 A D 0 0 Q (wX7 T a0 b.2) [] 42 []) ∧ (b.1 = 1 → zt p l e R s m args below meth c 3 A D 0 0 Q (wX7 T a0 b.2) [] 63 [])) → zt p l e R s m args below meth c 3 A D 0 0 Q (wX7 T a0 c1) [(0, .ref (a0 99)), (1, .int c0)] 5 [] := fun c0 c1 b h K => hrec (c0, c1) b h K
  unfold f_X7_laysStraight_L5b at h
  refine z_iload_n C dX7_laysStraight_5 rfl 1 rfl 6 rfl ?_
  refine z_if_le C 63 dX7_laysStraight_6 (by decide) 9 rfl h (fun h => ?_) (fun h => ?_)
  · refine z_locals (ks := []) (lv' := []) rfl ?_
    exact zexT1 (F := (fun e0 => zt p l e R s m args below meth c 3 A D 0 0 Q (wX7 T a0 e0) [] 63 [])) h K.2
  · refine z_iconst C 0 dX7_laysStraight_9 (by decide) 10 rfl ?_
    refine z_istore_n C [(0, .ref (a0 99)), (1, .int a.1), (2, .int 0)] dX7_laysStraight_10 rfl (Nat.le_of_ble_eq_true rfl) [1, 2, 0] rfl 11 rfl ?_
    obtain ⟨y_5, hl_y_5, h⟩ := Option.bind_eq_some_iff.mp h
    refine z_locals (ks := [0, 1, 2]) rfl (p_X7_laysStraight_L11 C a.2 a.1 (hD.zaddr rfl) _ _ _ _ hl_y_5 ⟨fun ht => ?_, fun ht => ?_⟩)
    · replace h := z_pos ht h
      refine z_locals (ks := []) (lv' := []) rfl ?_
      exact zexT1 (F := (fun e0 => zt p l e R s m args below meth c 3 A D 0 0 Q (wX7 T a0 e0) [] 42 [])) h K.1
    · replace h := z_neg (by rw [ht]; decide) h
      refine z_iinc C (a.1 + (-1)) [(0, .ref (a0 99)), (1, .int (a.1 + (-1)))] dX7_laysStraight_57 1 rfl rfl (Nat.le_of_ble_eq_true rfl) [1, 0] rfl 60 rfl ?_
      refine z_goto C 5 dX7_laysStraight_60 (by decide) ?_
      exact z_locals (ks := [0, 1]) rfl (hrec _ _ _ h K)

def f_X7_laysStraight (S0 : Nat → Nat → Int32)  : Option (Int32 × (Nat → Nat → Int32)) := zlet (S0 1 0) fun u_1 => (f_X7_laysStraight_L5  zfuel (u_1, S0)).bind fun y_6 => if y_6.1 = 0 then (some (0, y_6.2)) else (some (1, y_6.2))
theorem dd_X7_laysStraight : RX7 ≠ "java/lang/invoke/MethodHandle" ∧ RX7 ≠ "java/lang/invoke/VarHandle" ∧ (parseMethodDescriptor yX7_laysStraight.desc).map (fun d => d.parameters.length) = some 0 := by decide +kernel
set_option maxHeartbeats 4000000 in
set_option maxRecDepth 100000 in
theorem c_X7_laysStraight (l : Launch) (D : va_G) (T : Nat → ClassId) (a0 : Nat → Nat) (S0 : Nat → Nat → Int32)  (ex : Int32 × (Nat → Nat → Int32)) (h : f_X7_laysStraight S0 = some ex) : zWI l yX7_laysStraight wsX7_laysStraight ({ frames := 4, cells := 0, slots := 0, locals := 90 } : Room) D T [.ref (a0 99)] (wX7 T a0 S0) ex.1 (wX7 T a0 ex.2) := by
  refine z_begin (cc := cX7_laysStraight) (nL := 3) (own := RX7) (fr := 4) (lc := 90) (ret := some .boolean) (by decide) rfl (Nat.le_of_ble_eq_true rfl) (zA (wX7 T a0 S0)) rfl [(0, .ref (a0 99))] rfl ⟨rfl, rfl⟩ rfl ?_
  intro p e s m args below meth c C hr hD
  have hD := hD.zself
  unfold f_X7_laysStraight at h
  refine z_aload_n C dX7_laysStraight_0 rfl 0 rfl 1 rfl ?_
  refine z_get C (in_X7_laysStraight_X7) 0 rfl rfl 1 (by decide) (List.mem_of_getElem? (i := 1) rfl) rfl rfl dX7_laysStraight_1 4 rfl ?_
  refine z_top h (fun u_1 h => ?_)
  refine z_istore_n C [(0, .ref (a0 99)), (1, .int u_1)] dX7_laysStraight_4 rfl (Nat.le_of_ble_eq_true rfl) [1, 0] rfl 5 rfl ?_
  obtain ⟨y_6, hl_y_6, h⟩ := Option.bind_eq_some_iff.mp h
  refine z_locals (ks := [0, 1]) rfl (p_X7_laysStraight_L5 C S0  (hD.zaddr rfl) _ _ _ _ hl_y_6 ⟨fun ht => ?_, fun ht => ?_⟩)
  · replace h := z_pos ht h
    refine z_iconst C 0 dX7_laysStraight_42 (by decide) 43 rfl ?_
    exact z_zretWc (x := y_6.2) (ex := ex) (fun z => wX7 T a0 z) C hr dX7_laysStraight_43 (Or.inl rfl) h rfl
  · replace h := z_neg (by rw [ht]; decide) h
    refine z_iconst C 1 dX7_laysStraight_63 (by decide) 64 rfl ?_
    exact z_zretWc (x := y_6.2) (ex := ex) (fun z => wX7 T a0 z) C hr dX7_laysStraight_64 (Or.inr rfl) h rfl

end
