/-! StreamTree.set (II)I -/
section
variable {p : Program} {l : Launch} {e : Env} {R : Room} {s : State} {m : MethodId} {args : Array Value} {below : List Frame} {meth : Method} {c : Code} {Q : State → Prop} {A : Nat → Prop} {D : va_G} {T : Nat → ClassId} {a0 : Nat → Nat} {a1 : Nat → Nat} {a2 : Nat → Nat} {a3 : Nat → Nat} {a4 : Nat → Nat} {a5 : Nat → Nat} {a6 : Nat → Nat} {a7 : Nat → Nat} {a8 : Nat → Nat} {a9 : Nat → Nat}
theorem in_X6_set_X1 : ∀ w ∈ u_ws RX1 TX1 10, w ∈ wsX6_set := fun _ h => (List.mem_cons_of_mem _ (List.mem_append_left _ (List.mem_append_left _ (List.mem_append_right _ h))))
theorem in_X6_set_X6 : ∀ w ∈ u_ws RX6 TX6 9, w ∈ wsX6_set := fun _ h => (List.mem_cons_of_mem _ (List.mem_append_left _ (List.mem_append_left _ (List.mem_append_left _ (List.mem_append_right _ h)))))
def f_X6_set_J100 (S1 : Nat → Nat → Int32) (S2 : Nat → Nat → Int32) (S3 : Nat → Nat → Int32) (S4 : Nat → Nat → Int32) (S5 : Nat → Nat → Int32) (S6 : Nat → Nat → Int32) (S7 : Nat → Nat → Int32) (S8 : Nat → Nat → Int32) (S9 : Nat → Nat → Int32) (x3 : Int32)  : Option (Int32 × (Nat → Nat → Int32) × (Nat → Nat → Int32) × (Nat → Nat → Int32) × (Nat → Nat → Int32) × (Nat → Nat → Int32) × (Nat → Nat → Int32)) := if x3 = (-1) then (some (x3, S2, S4, S5, S6, S7, S8)) else ((f_X6_forgetDrawings S1 S2 S3 S4 S5 S6 S7 S8 S9).bind fun r_1 => some (x3, S2, r_1.1, r_1.2.1, r_1.2.2.1, r_1.2.2.2.1, r_1.2.2.2.2))
set_option maxHeartbeats 4000000 in
set_option maxRecDepth 100000 in
theorem p_X6_set_J100 {w0 : va_W} (C : zC p R s m args meth c cX6_set 4 RX6 wsX6_set D T 1 22 0 0) (hr : meth.sig.returnType = some .int) (S1 : Nat → Nat → Int32) (S2 : Nat → Nat → Int32) (S3 : Nat → Nat → Int32) (S4 : Nat → Nat → Int32) (S5 : Nat → Nat → Int32) (S6 : Nat → Nat → Int32) (S7 : Nat → Nat → Int32) (S8 : Nat → Nat → Int32) (S9 : Nat → Nat → Int32) (x3 : Int32)  (hD : va_D (zA w0) (wX6 a0 a1 a2 a3 a4 a5 a6 a7 a8 a9 ++ (wX4 T a1 S1 ++ (wX1 T a2 S2 ++ (wX1 T a3 S3 ++ (wX0 T a4 S4 ++ (wX5 T a5 S5 ++ (wX5 T a6 S6 ++ (wX5 T a7 S7 ++ (wX5 T a8 S8 ++ wX3 T a9 S9)))))))))) {ex : Int32 × (Nat → Nat → Int32) × (Nat → Nat → Int32) × (Nat → Nat → Int32) × (Nat → Nat → Int32) × (Nat → Nat → Int32) × (Nat → Nat → Int32)} (h : f_X6_set_J100 S1 S2 S3 S4 S5 S6 S7 S8 S9 x3 = some ex) : zt p l e R s m args below meth c 4 (zA w0) D 0 0 (MQ below (zQJ D w0 ex.1 (wX6 a0 a1 a2 a3 a4 a5 a6 a7 a8 a9 ++ (wX4 T a1 S1 ++ (wX1 T a2 ex.2.1 ++ (wX1 T a3 S3 ++ (wX0 T a4 ex.2.2.1 ++ (wX5 T a5 ex.2.2.2.1 ++ (wX5 T a6 ex.2.2.2.2.1 ++ (wX5 T a7 ex.2.2.2.2.2.1 ++ (wX5 T a8 ex.2.2.2.2.2.2 ++ wX3 T a9 S9)))))))))) args s 0 0 (zA w0)) (wX6 a0 a1 a2 a3 a4 a5 a6 a7 a8 a9 ++ (wX4 T a1 S1 ++ (wX1 T a2 S2 ++ (wX1 T a3 S3 ++ (wX0 T a4 S4 ++ (wX5 T a5 S5 ++ (wX5 T a6 S6 ++ (wX5 T a7 S7 ++ (wX5 T a8 S8 ++ wX3 T a9 S9))))))))) [(0, .ref (a0 99)), (3, .int x3)] 100 [] := by
  unfold f_X6_set_J100 at h
  refine z_iload_n C dX6_set_100 rfl 1 rfl 101 rfl ?_
  refine z_iconst C (-1) dX6_set_101 (by decide) 102 rfl ?_
  refine z_icmp_eq C 109 dX6_set_102 (by decide) 105 rfl h (fun h => ?_) (fun h => ?_)
  · refine z_iload_n C dX6_set_109 rfl 1 rfl 110 rfl ?_
    exact z_iretW (x := (S2, S4, S5, S6, S7, S8)) (ex := ex) (fun z => wX6 a0 a1 a2 a3 a4 a5 a6 a7 a8 a9 ++ (wX4 T a1 S1 ++ (wX1 T a2 z.1 ++ (wX1 T a3 S3 ++ (wX0 T a4 z.2.1 ++ (wX5 T a5 z.2.2.1 ++ (wX5 T a6 z.2.2.2.1 ++ (wX5 T a7 z.2.2.2.2.1 ++ (wX5 T a8 z.2.2.2.2.2 ++ wX3 T a9 S9))))))))) C hr dX6_set_110 h rfl
  · refine z_aload_n C dX6_set_105 rfl 0 rfl 106 rfl ?_
    refine z_callV C (wX6 a0 a1 a2 a3 a4 a5 a6 a7 a8 a9 ++ (wX4 T a1 S1 ++ (wX1 T a2 S2 ++ (wX1 T a3 S3 ++ (wX0 T a4 S4 ++ (wX5 T a5 S5 ++ (wX5 T a6 S6 ++ (wX5 T a7 S7 ++ (wX5 T a8 S8 ++ wX3 T a9 S9))))))))) (([] : va_W)) (fun z => wX6 a0 a1 a2 a3 a4 a5 a6 a7 a8 a9 ++ (wX4 T a1 S1 ++ (wX1 T a2 S2 ++ (wX1 T a3 S3 ++ (wX0 T a4 z.1 ++ (wX5 T a5 z.2.1 ++ (wX5 T a6 z.2.2.1 ++ (wX5 T a7 z.2.2.2.1 ++ (wX5 T a8 z.2.2.2.2 ++ wX3 T a9 S9))))))))) (fun z => wX6 a0 a1 a2 a3 a4 a5 a6 a7 a8 a9 ++ (wX4 T a1 S1 ++ (wX1 T a2 S2 ++ (wX1 T a3 S3 ++ (wX0 T a4 z.1 ++ (wX5 T a5 z.2.1 ++ (wX5 T a6 z.2.2.1 ++ (wX5 T a7 z.2.2.2.1 ++ (wX5 T a8 z.2.2.2.2 ++ wX3 T a9 S9))))))))) (fun z h => c_X6_forgetDrawings l D T a0 a1 a2 a3 a4 a5 a6 a7 a8 a9  S1 S2 S3 S4 S5 S6 S7 S8 S9  z h) ⟨rfl, rfl⟩ (z_cwV C 0 gX6_set_X6_forgetDrawings rfl rfl dd_X6_forgetDrawings ⟨(Nat.le_of_ble_eq_true rfl), (Nat.le_of_ble_eq_true rfl)⟩) (hD.zaddr rfl) [0, 1, 2, 3, 4, 5, 6, 7, 8, 9, 10, 11, 12, 13, 14, 15, 16, 17, 18, 19, 20, 21, 22, 23, 24, 25, 26, 27, 28, 29, 30, 31, 32, 33] [] [0, 1, 2, 3, 4, 5, 6, 7, 8, 9, 10, 11, 12, 13, 14, 15, 16, 17, 18, 19, 20, 21, 22, 23, 24, 25, 26, 27, 28, 29, 30, 31, 32, 33] rfl rfl rfl (by decide) (fun _ => rfl) (fun _ => ⟨a0 99, [], 5, 0, _, _, rfl, rfl, rfl, rfl, rfl⟩) (fun h => absurd rfl h) rfl (Nat.le_of_ble_eq_true rfl) dX6_set_106 109 rfl h (fun r_1 h => ?_)
    refine z_iload_n C dX6_set_109 rfl 1 rfl 110 rfl ?_
    exact z_iretW (x := (S2, r_1.1, r_1.2.1, r_1.2.2.1, r_1.2.2.2.1, r_1.2.2.2.2)) (ex := ex) (fun z => wX6 a0 a1 a2 a3 a4 a5 a6 a7 a8 a9 ++ (wX4 T a1 S1 ++ (wX1 T a2 z.1 ++ (wX1 T a3 S3 ++ (wX0 T a4 z.2.1 ++ (wX5 T a5 z.2.2.1 ++ (wX5 T a6 z.2.2.2.1 ++ (wX5 T a7 z.2.2.2.2.1 ++ (wX5 T a8 z.2.2.2.2.2 ++ wX3 T a9 S9))))))))) C hr dX6_set_110 h rfl

def f_X6_set_J69 (S1 : Nat → Nat → Int32) (S2 : Nat → Nat → Int32) (S3 : Nat → Nat → Int32) (S4 : Nat → Nat → Int32) (S5 : Nat → Nat → Int32) (S6 : Nat → Nat → Int32) (S7 : Nat → Nat → Int32) (S8 : Nat → Nat → Int32) (S9 : Nat → Nat → Int32) (x1 : Int32) (x2 : Int32) (x3 : Int32)  : Option (Int32 × (Nat → Nat → Int32) × (Nat → Nat → Int32) × (Nat → Nat → Int32) × (Nat → Nat → Int32) × (Nat → Nat → Int32) × (Nat → Nat → Int32)) := if x1 = 2 then ((f_X6_isWithin x2 0 6).bind fun r_2 => if r_2 = 0 then (f_X6_set_J100 S1 S2 S3 S4 S5 S6 S7 S8 S9 x3) else (zlet (S2 4 0) fun u_3 => zlet (zst S2 4 0 x2) fun S2_4 => f_X6_set_J100 S1 S2_4 S3 S4 S5 S6 S7 S8 S9 u_3)) else (f_X6_set_J100 S1 S2 S3 S4 S5 S6 S7 S8 S9 x3)
set_option maxHeartbeats 4000000 in
set_option maxRecDepth 100000 in
theorem p_X6_set_J69 {w0 : va_W} (C : zC p R s m args meth c cX6_set 4 RX6 wsX6_set D T 1 22 0 0) (hr : meth.sig.returnType = some .int) (S1 : Nat → Nat → Int32) (S2 : Nat → Nat → Int32) (S3 : Nat → Nat → Int32) (S4 : Nat → Nat → Int32) (S5 : Nat → Nat → Int32) (S6 : Nat → Nat → Int32) (S7 : Nat → Nat → Int32) (S8 : Nat → Nat → Int32) (S9 : Nat → Nat → Int32) (x1 : Int32) (x2 : Int32) (x3 : Int32)  (hD : va_D (zA w0) (wX6 a0 a1 a2 a3 a4 a5 a6 a7 a8 a9 ++ (wX4 T a1 S1 ++ (wX1 T a2 S2 ++ (wX1 T a3 S3 ++ (wX0 T a4 S4 ++ (wX5 T a5 S5 ++ (wX5 T a6 S6 ++ (wX5 T a7 S7 ++ (wX5 T a8 S8 ++ wX3 T a9 S9)))))))))) {ex : Int32 × (Nat → Nat → Int32) × (Nat → Nat → Int32) × (Nat → Nat → Int32) × (Nat → Nat → Int32) × (Nat → Nat → Int32) × (Nat → Nat → Int32)} (h : f_X6_set_J69 S1 S2 S3 S4 S5 S6 S7 S8 S9 x1 x2 x3 = some ex) : zt p l e R s m args below meth c 4 (zA w0) D 0 0 (MQ below (zQJ D w0 ex.1 (wX6 a0 a1 a2 a3 a4 a5 a6 a7 a8 a9 ++ (wX4 T a1 S1 ++ (wX1 T a2 ex.2.1 ++ (wX1 T a3 S3 ++ (wX0 T a4 ex.2.2.1 ++ (wX5 T a5 ex.2.2.2.1 ++ (wX5 T a6 ex.2.2.2.2.1 ++ (wX5 T a7 ex.2.2.2.2.2.1 ++ (wX5 T a8 ex.2.2.2.2.2.2 ++ wX3 T a9 S9)))))))))) args s 0 0 (zA w0)) (wX6 a0 a1 a2 a3 a4 a5 a6 a7 a8 a9 ++ (wX4 T a1 S1 ++ (wX1 T a2 S2 ++ (wX1 T a3 S3 ++ (wX0 T a4 S4 ++ (wX5 T a5 S5 ++ (wX5 T a6 S6 ++ (wX5 T a7 S7 ++ (wX5 T a8 S8 ++ wX3 T a9 S9))))))))) [(0, .ref (a0 99)), (1, .int x1), (2, .int x2), (3, .int x3)] 69 [] := by
  unfold f_X6_set_J69 at h
  refine z_iload_n C dX6_set_69 rfl 1 rfl 70 rfl ?_
  refine z_iconst C 2 dX6_set_70 (by decide) 71 rfl ?_
  refine z_icmp_ne C 100 dX6_set_71 (by decide) 74 rfl h (fun h => ?_) (fun h => ?_)
  · exact z_locals (ks := [0, 3]) rfl (p_X6_set_J100 C hr S1 S2 S3 S4 S5 S6 S7 S8 S9 x3 (hD.zaddr rfl) h)
  · refine z_iload_n C dX6_set_74 rfl 2 rfl 75 rfl ?_
    refine z_iconst C 0 dX6_set_75 (by decide) 76 rfl ?_
    refine z_bipush C 6 dX6_set_76 (by decide) 78 rfl ?_
    refine z_callR C ([]) (fun v h => c_X6_isWithin l D T    x2 0 6 v h) ⟨rfl, rfl⟩ (z_cwS C 3 gX6_set_X6_isWithin rfl dd_X6_isWithin ⟨(Nat.le_of_ble_eq_true rfl), (Nat.le_of_ble_eq_true rfl)⟩) (hD.zaddr rfl) [] rfl rfl (fun h => absurd h (by decide)) (fun _ => rfl) rfl (Nat.le_of_ble_eq_true rfl) dX6_set_78 81 rfl h (fun r_2 h => ?_)
    refine z_if_eq C 100 dX6_set_81 (by decide) 84 rfl h (fun h => ?_) (fun h => ?_)
    · exact z_locals (ks := [0, 3]) rfl (p_X6_set_J100 C hr S1 S2 S3 S4 S5 S6 S7 S8 S9 x3 (hD.zaddr rfl) h)
    · refine z_aload_n C dX6_set_84 rfl 0 rfl 85 rfl ?_
      refine z_get C (in_X6_set_X6) 0 rfl rfl 1 (by decide) (List.mem_of_getElem? (i := 1) rfl) rfl rfl dX6_set_85 88 rfl ?_
      refine z_get C (in_X6_set_X1) 3 rfl rfl 4 (by decide) (List.mem_of_getElem? (i := 4) rfl) rfl rfl dX6_set_88 91 rfl ?_
      refine z_top h (fun u_3 h => ?_)
      refine z_istore_n C [(0, .ref (a0 99)), (1, .int x1), (2, .int x2), (3, .int u_3)] dX6_set_91 rfl (Nat.le_of_ble_eq_true rfl) [1, 2, 3, 0] rfl 92 rfl ?_
      refine z_aload_n C dX6_set_92 rfl 0 rfl 93 rfl ?_
      refine z_get C (in_X6_set_X6) 0 rfl rfl 1 (by decide) (List.mem_of_getElem? (i := 1) rfl) rfl rfl dX6_set_93 96 rfl ?_
      refine z_iload_n C dX6_set_96 rfl 2 rfl 97 rfl ?_
      refine z_put (ty := .int) C (fun z => wX6 a0 a1 a2 a3 a4 a5 a6 a7 a8 a9 ++ (wX4 T a1 S1 ++ (wX1 T a2 z ++ (wX1 T a3 S3 ++ (wX0 T a4 S4 ++ (wX5 T a5 S5 ++ (wX5 T a6 S6 ++ (wX5 T a7 S7 ++ (wX5 T a8 S8 ++ wX3 T a9 S9))))))))) S2 (hD.zaddr rfl) (in_X6_set_X1) tyX1 tyX1_ok nmX1 3 rfl rfl 4 (by decide) (List.mem_of_getElem? (i := 4) rfl) rfl rfl (by decide +kernel) rfl rfl (Nat.le_of_ble_eq_true rfl) (zsetR (i := 2) rfl (zsetR (i := 0) rfl (zsetL rfl (Nat.le_of_ble_eq_true rfl)))) dX6_set_97 100 rfl h (fun S2_4 h => ?_)
      exact z_locals (ks := [0, 3]) rfl (p_X6_set_J100 C hr S1 S2_4 S3 S4 S5 S6 S7 S8 S9 u_3 (hD.zaddr rfl) h)

def f_X6_set_J35 (S1 : Nat → Nat → Int32) (S2 : Nat → Nat → Int32) (S3 : Nat → Nat → Int32) (S4 : Nat → Nat → Int32) (S5 : Nat → Nat → Int32) (S6 : Nat → Nat → Int32) (S7 : Nat → Nat → Int32) (S8 : Nat → Nat → Int32) (S9 : Nat → Nat → Int32) (x1 : Int32) (x2 : Int32) (x3 : Int32)  : Option (Int32 × (Nat → Nat → Int32) × (Nat → Nat → Int32) × (Nat → Nat → Int32) × (Nat → Nat → Int32) × (Nat → Nat → Int32) × (Nat → Nat → Int32)) := if x1 = 1 then ((f_X6_isWithin x2 0 40).bind fun r_5 => if r_5 = 0 then (f_X6_set_J69 S1 S2 S3 S4 S5 S6 S7 S8 S9 x1 x2 x3) else (zlet (S2 3 0) fun u_6 => zlet (zst S2 3 0 x2) fun S2_7 => f_X6_set_J100 S1 S2_7 S3 S4 S5 S6 S7 S8 S9 u_6)) else (f_X6_set_J69 S1 S2 S3 S4 S5 S6 S7 S8 S9 x1 x2 x3)
set_option maxHeartbeats 4000000 in
set_option maxRecDepth 100000 in
theorem p_X6_set_J35 {w0 : va_W} (C : zC p R s m args meth c cX6_set 4 RX6 wsX6_set D T 1 22 0 0) (hr : meth.sig.returnType = some .int) (S1 : Nat → Nat → Int32) (S2 : Nat → Nat → Int32) (S3 : Nat → Nat → Int32) (S4 : Nat → Nat → Int32) (S5 : Nat → Nat → Int32) (S6 : Nat → Nat → Int32) (S7 : Nat → Nat → Int32) (S8 : Nat → Nat → Int32) (S9 : Nat → Nat → Int32) (x1 : Int32) (x2 : Int32) (x3 : Int32)  (hD : va_D (zA w0) (wX6 a0 a1 a2 a3 a4 a5 a6 a7 a8 a9 ++ (wX4 T a1 S1 ++ (wX1 T a2 S2 ++ (wX1 T a3 S3 ++ (wX0 T a4 S4 ++ (wX5 T a5 S5 ++ (wX5 T a6 S6 ++ (wX5 T a7 S7 ++ (wX5 T a8 S8 ++ wX3 T a9 S9)))))))))) {ex : Int32 × (Nat → Nat → Int32) × (Nat → Nat → Int32) × (Nat → Nat → Int32) × (Nat → Nat → Int32) × (Nat → Nat → Int32) × (Nat → Nat → Int32)} (h : f_X6_set_J35 S1 S2 S3 S4 S5 S6 S7 S8 S9 x1 x2 x3 = some ex) : zt p l e R s m args below meth c 4 (zA w0) D 0 0 (MQ below (zQJ D w0 ex.1 (wX6 a0 a1 a2 a3 a4 a5 a6 a7 a8 a9 ++ (wX4 T a1 S1 ++ (wX1 T a2 ex.2.1 ++ (wX1 T a3 S3 ++ (wX0 T a4 ex.2.2.1 ++ (wX5 T a5 ex.2.2.2.1 ++ (wX5 T a6 ex.2.2.2.2.1 ++ (wX5 T a7 ex.2.2.2.2.2.1 ++ (wX5 T a8 ex.2.2.2.2.2.2 ++ wX3 T a9 S9)))))))))) args s 0 0 (zA w0)) (wX6 a0 a1 a2 a3 a4 a5 a6 a7 a8 a9 ++ (wX4 T a1 S1 ++ (wX1 T a2 S2 ++ (wX1 T a3 S3 ++ (wX0 T a4 S4 ++ (wX5 T a5 S5 ++ (wX5 T a6 S6 ++ (wX5 T a7 S7 ++ (wX5 T a8 S8 ++ wX3 T a9 S9))))))))) [(0, .ref (a0 99)), (1, .int x1), (2, .int x2), (3, .int x3)] 35 [] := by
  unfold f_X6_set_J35 at h
  refine z_iload_n C dX6_set_35 rfl 1 rfl 36 rfl ?_
  refine z_iconst C 1 dX6_set_36 (by decide) 37 rfl ?_
  refine z_icmp_ne C 69 dX6_set_37 (by decide) 40 rfl h (fun h => ?_) (fun h => ?_)
  · exact z_locals (ks := [0, 1, 2, 3]) rfl (p_X6_set_J69 C hr S1 S2 S3 S4 S5 S6 S7 S8 S9 x1 x2 x3 (hD.zaddr rfl) h)
  · refine z_iload_n C dX6_set_40 rfl 2 rfl 41 rfl ?_
    refine z_iconst C 0 dX6_set_41 (by decide) 42 rfl ?_
    refine z_bipush C 40 dX6_set_42 (by decide) 44 rfl ?_
    refine z_callR C ([]) (fun v h => c_X6_isWithin l D T    x2 0 40 v h) ⟨rfl, rfl⟩ (z_cwS C 3 gX6_set_X6_isWithin rfl dd_X6_isWithin ⟨(Nat.le_of_ble_eq_true rfl), (Nat.le_of_ble_eq_true rfl)⟩) (hD.zaddr rfl) [] rfl rfl (fun h => absurd h (by decide)) (fun _ => rfl) rfl (Nat.le_of_ble_eq_true rfl) dX6_set_44 47 rfl h (fun r_5 h => ?_)
    refine z_if_eq C 69 dX6_set_47 (by decide) 50 rfl h (fun h => ?_) (fun h => ?_)
    · exact z_locals (ks := [0, 1, 2, 3]) rfl (p_X6_set_J69 C hr S1 S2 S3 S4 S5 S6 S7 S8 S9 x1 x2 x3 (hD.zaddr rfl) h)
    · refine z_aload_n C dX6_set_50 rfl 0 rfl 51 rfl ?_
      refine z_get C (in_X6_set_X6) 0 rfl rfl 1 (by decide) (List.mem_of_getElem? (i := 1) rfl) rfl rfl dX6_set_51 54 rfl ?_
      refine z_get C (in_X6_set_X1) 3 rfl rfl 3 (by decide) (List.mem_of_getElem? (i := 3) rfl) rfl rfl dX6_set_54 57 rfl ?_
      refine z_top h (fun u_6 h => ?_)
      refine z_istore_n C [(0, .ref (a0 99)), (1, .int x1), (2, .int x2), (3, .int u_6)] dX6_set_57 rfl (Nat.le_of_ble_eq_true rfl) [1, 2, 3, 0] rfl 58 rfl ?_
      refine z_aload_n C dX6_set_58 rfl 0 rfl 59 rfl ?_
      refine z_get C (in_X6_set_X6) 0 rfl rfl 1 (by decide) (List.mem_of_getElem? (i := 1) rfl) rfl rfl dX6_set_59 62 rfl ?_
      refine z_iload_n C dX6_set_62 rfl 2 rfl 63 rfl ?_
      refine z_put (ty := .int) C (fun z => wX6 a0 a1 a2 a3 a4 a5 a6 a7 a8 a9 ++ (wX4 T a1 S1 ++ (wX1 T a2 z ++ (wX1 T a3 S3 ++ (wX0 T a4 S4 ++ (wX5 T a5 S5 ++ (wX5 T a6 S6 ++ (wX5 T a7 S7 ++ (wX5 T a8 S8 ++ wX3 T a9 S9))))))))) S2 (hD.zaddr rfl) (in_X6_set_X1) tyX1 tyX1_ok nmX1 3 rfl rfl 3 (by decide) (List.mem_of_getElem? (i := 3) rfl) rfl rfl (by decide +kernel) rfl rfl (Nat.le_of_ble_eq_true rfl) (zsetR (i := 2) rfl (zsetR (i := 0) rfl (zsetL rfl (Nat.le_of_ble_eq_true rfl)))) dX6_set_63 66 rfl h (fun S2_7 h => ?_)
      refine z_goto C 100 dX6_set_66 (by decide) ?_
      exact z_locals (ks := [0, 3]) rfl (p_X6_set_J100 C hr S1 S2_7 S3 S4 S5 S6 S7 S8 S9 u_6 (hD.zaddr rfl) h)

def f_X6_set (S1 : Nat → Nat → Int32) (S2 : Nat → Nat → Int32) (S3 : Nat → Nat → Int32) (S4 : Nat → Nat → Int32) (S5 : Nat → Nat → Int32) (S6 : Nat → Nat → Int32) (S7 : Nat → Nat → Int32) (S8 : Nat → Nat → Int32) (S9 : Nat → Nat → Int32) (v1 : Int32) (v2 : Int32) : Option (Int32 × (Nat → Nat → Int32) × (Nat → Nat → Int32) × (Nat → Nat → Int32) × (Nat → Nat → Int32) × (Nat → Nat → Int32) × (Nat → Nat → Int32)) := if v1 = 0 then ((f_X6_isWithin v2 1 99).bind fun r_8 => if r_8 = 0 then (f_X6_set_J35 S1 S2 S3 S4 S5 S6 S7 S8 S9 v1 v2 (-1)) else (zlet (S2 2 0) fun u_9 => zlet (zst S2 2 0 v2) fun S2_10 => f_X6_set_J100 S1 S2_10 S3 S4 S5 S6 S7 S8 S9 u_9)) else (f_X6_set_J35 S1 S2 S3 S4 S5 S6 S7 S8 S9 v1 v2 (-1))
theorem dd_X6_set : RX6 ≠ "java/lang/invoke/MethodHandle" ∧ RX6 ≠ "java/lang/invoke/VarHandle" ∧ (parseMethodDescriptor yX6_set.desc).map (fun d => d.parameters.length) = some 2 := by decide +kernel
set_option maxHeartbeats 4000000 in
set_option maxRecDepth 100000 in
theorem c_X6_set (l : Launch) (D : va_G) (T : Nat → ClassId) (a0 : Nat → Nat) (a1 : Nat → Nat) (a2 : Nat → Nat) (a3 : Nat → Nat) (a4 : Nat → Nat) (a5 : Nat → Nat) (a6 : Nat → Nat) (a7 : Nat → Nat) (a8 : Nat → Nat) (a9 : Nat → Nat) (S1 : Nat → Nat → Int32) (S2 : Nat → Nat → Int32) (S3 : Nat → Nat → Int32) (S4 : Nat → Nat → Int32) (S5 : Nat → Nat → Int32) (S6 : Nat → Nat → Int32) (S7 : Nat → Nat → Int32) (S8 : Nat → Nat → Int32) (S9 : Nat → Nat → Int32) (v1 : Int32) (v2 : Int32) (ex : Int32 × (Nat → Nat → Int32) × (Nat → Nat → Int32) × (Nat → Nat → Int32) × (Nat → Nat → Int32) × (Nat → Nat → Int32) × (Nat → Nat → Int32)) (h : f_X6_set S1 S2 S3 S4 S5 S6 S7 S8 S9 v1 v2 = some ex) : zWI l yX6_set wsX6_set ({ frames := 1, cells := 0, slots := 0, locals := 22 } : Room) D T [.ref (a0 99), .int v1, .int v2] (wX6 a0 a1 a2 a3 a4 a5 a6 a7 a8 a9 ++ (wX4 T a1 S1 ++ (wX1 T a2 S2 ++ (wX1 T a3 S3 ++ (wX0 T a4 S4 ++ (wX5 T a5 S5 ++ (wX5 T a6 S6 ++ (wX5 T a7 S7 ++ (wX5 T a8 S8 ++ wX3 T a9 S9))))))))) ex.1 (wX6 a0 a1 a2 a3 a4 a5 a6 a7 a8 a9 ++ (wX4 T a1 S1 ++ (wX1 T a2 ex.2.1 ++ (wX1 T a3 S3 ++ (wX0 T a4 ex.2.2.1 ++ (wX5 T a5 ex.2.2.2.1 ++ (wX5 T a6 ex.2.2.2.2.1 ++ (wX5 T a7 ex.2.2.2.2.2.1 ++ (wX5 T a8 ex.2.2.2.2.2.2 ++ wX3 T a9 S9))))))))) := by
  refine z_begin (cc := cX6_set) (nL := 4) (own := RX6) (fr := 1) (lc := 22) (ret := some .int) (by decide) rfl (Nat.le_of_ble_eq_true rfl) (zA (wX6 a0 a1 a2 a3 a4 a5 a6 a7 a8 a9 ++ (wX4 T a1 S1 ++ (wX1 T a2 S2 ++ (wX1 T a3 S3 ++ (wX0 T a4 S4 ++ (wX5 T a5 S5 ++ (wX5 T a6 S6 ++ (wX5 T a7 S7 ++ (wX5 T a8 S8 ++ wX3 T a9 S9)))))))))) rfl [(0, .ref (a0 99)), (1, .int v1), (2, .int v2)] rfl ⟨rfl, rfl⟩ rfl ?_
  intro p e s m args below meth c C hr hD
  have hD := hD.zself
  unfold f_X6_set at h
  refine z_iconst C (-1) dX6_set_0 (by decide) 1 rfl ?_
  refine z_istore_n C [(0, .ref (a0 99)), (1, .int v1), (2, .int v2), (3, .int (-1))] dX6_set_1 rfl (Nat.le_of_ble_eq_true rfl) [1, 2, 3, 0] rfl 2 rfl ?_
  refine z_iload_n C dX6_set_2 rfl 1 rfl 3 rfl ?_
  refine z_if_ne C 35 dX6_set_3 (by decide) 6 rfl h (fun h => ?_) (fun h => ?_)
  · exact z_locals (ks := [0, 1, 2, 3]) rfl (p_X6_set_J35 C hr S1 S2 S3 S4 S5 S6 S7 S8 S9 v1 v2 (-1) (hD.zaddr rfl) h)
  · refine z_iload_n C dX6_set_6 rfl 2 rfl 7 rfl ?_
    refine z_iconst C 1 dX6_set_7 (by decide) 8 rfl ?_
    refine z_bipush C 99 dX6_set_8 (by decide) 10 rfl ?_
    refine z_callR C ([]) (fun v h => c_X6_isWithin l D T    v2 1 99 v h) ⟨rfl, rfl⟩ (z_cwS C 3 gX6_set_X6_isWithin rfl dd_X6_isWithin ⟨(Nat.le_of_ble_eq_true rfl), (Nat.le_of_ble_eq_true rfl)⟩) (hD.zaddr rfl) [] rfl rfl (fun h => absurd h (by decide)) (fun _ => rfl) rfl (Nat.le_of_ble_eq_true rfl) dX6_set_10 13 rfl h (fun r_8 h => ?_)
    refine z_if_eq C 35 dX6_set_13 (by decide) 16 rfl h (fun h => ?_) (fun h => ?_)
    · exact z_locals (ks := [0, 1, 2, 3]) rfl (p_X6_set_J35 C hr S1 S2 S3 S4 S5 S6 S7 S8 S9 v1 v2 (-1) (hD.zaddr rfl) h)
    · refine z_aload_n C dX6_set_16 rfl 0 rfl 17 rfl ?_
      refine z_get C (in_X6_set_X6) 0 rfl rfl 1 (by decide) (List.mem_of_getElem? (i := 1) rfl) rfl rfl dX6_set_17 20 rfl ?_
      refine z_get C (in_X6_set_X1) 3 rfl rfl 2 (by decide) (List.mem_of_getElem? (i := 2) rfl) rfl rfl dX6_set_20 23 rfl ?_
      refine z_top h (fun u_9 h => ?_)
      refine z_istore_n C [(0, .ref (a0 99)), (1, .int v1), (2, .int v2), (3, .int u_9)] dX6_set_23 rfl (Nat.le_of_ble_eq_true rfl) [1, 2, 3, 0] rfl 24 rfl ?_
      refine z_aload_n C dX6_set_24 rfl 0 rfl 25 rfl ?_
      refine z_get C (in_X6_set_X6) 0 rfl rfl 1 (by decide) (List.mem_of_getElem? (i := 1) rfl) rfl rfl dX6_set_25 28 rfl ?_
      refine z_iload_n C dX6_set_28 rfl 2 rfl 29 rfl ?_
      refine z_put (ty := .int) C (fun z => wX6 a0 a1 a2 a3 a4 a5 a6 a7 a8 a9 ++ (wX4 T a1 S1 ++ (wX1 T a2 z ++ (wX1 T a3 S3 ++ (wX0 T a4 S4 ++ (wX5 T a5 S5 ++ (wX5 T a6 S6 ++ (wX5 T a7 S7 ++ (wX5 T a8 S8 ++ wX3 T a9 S9))))))))) S2 (hD.zaddr rfl) (in_X6_set_X1) tyX1 tyX1_ok nmX1 3 rfl rfl 2 (by decide) (List.mem_of_getElem? (i := 2) rfl) rfl rfl (by decide +kernel) rfl rfl (Nat.le_of_ble_eq_true rfl) (zsetR (i := 2) rfl (zsetR (i := 0) rfl (zsetL rfl (Nat.le_of_ble_eq_true rfl)))) dX6_set_29 32 rfl h (fun S2_10 h => ?_)
      refine z_goto C 100 dX6_set_32 (by decide) ?_
      exact z_locals (ks := [0, 3]) rfl (p_X6_set_J100 C hr S1 S2_10 S3 S4 S5 S6 S7 S8 S9 u_9 (hD.zaddr rfl) h)

end
/-! StreamTree.ink (I)I -/
section
variable {p : Program} {l : Launch} {e : Env} {R : Room} {s : State} {m : MethodId} {args : Array Value} {below : List Frame} {meth : Method} {c : Code} {Q : State → Prop} {A : Nat → Prop} {D : va_G} {T : Nat → ClassId} {a0 : Nat → Nat} {a1 : Nat → Nat} {a2 : Nat → Nat} {a3 : Nat → Nat} {a4 : Nat → Nat} {a5 : Nat → Nat} {a6 : Nat → Nat} {a7 : Nat → Nat} {a8 : Nat → Nat} {a9 : Nat → Nat}
theorem in_X6_ink_X6 : ∀ w ∈ u_ws RX6 TX6 9, w ∈ wsX6_ink := fun _ h => (List.mem_cons_of_mem _ (List.mem_append_left _ (List.mem_append_left _ (List.mem_append_left _ (List.mem_append_right _ h)))))
theorem in_X6_ink_X5 : ∀ w ∈ u_ws RX5 TX5 5, w ∈ wsX6_ink := fun _ h => (List.mem_cons_of_mem _ (List.mem_append_left _ (List.mem_append_left _ (List.mem_append_right _ h))))
def f_X6_ink (S1 : Nat → Nat → Int32) (S2 : Nat → Nat → Int32) (S3 : Nat → Nat → Int32) (S4 : Nat → Nat → Int32) (S5 : Nat → Nat → Int32) (S6 : Nat → Nat → Int32) (S7 : Nat → Nat → Int32) (S8 : Nat → Nat → Int32) (S9 : Nat → Nat → Int32) (v1 : Int32) : Option (Int32 × (Nat → Nat → Int32) × (Nat → Nat → Int32) × (Nat → Nat → Int32) × (Nat → Nat → Int32) × (Nat → Nat → Int32)) := if v1 = 0 then ((f_X6_knownBests S1 S2 S3 S4 S5 S6 S7 S8 S9).bind fun r_3 => (f_X0_inkOfAllAlone r_3 S2).bind fun r_4 => some (r_4, r_3, S5, S6, S7, S8)) else ((f_X6_isTreeManner v1).bind fun r_1 => if r_1 = 0 then (some ((-1), S4, S5, S6, S7, S8)) else ((f_X6_treeOf S1 S2 S3 S4 S5 S6 S7 S8 S9 v1).bind fun r_2 => if r_2.1 = 5 then (if (r_2.2.2.1 1 0) = 0 then (some ((-2), r_2.2.1, r_2.2.2.1, r_2.2.2.2.1, r_2.2.2.2.2.1, r_2.2.2.2.2.2)) else (some ((r_2.2.2.1 2 0), r_2.2.1, r_2.2.2.1, r_2.2.2.2.1, r_2.2.2.2.2.1, r_2.2.2.2.2.2))) else (if r_2.1 = 6 then (if (r_2.2.2.2.1 1 0) = 0 then (some ((-2), r_2.2.1, r_2.2.2.1, r_2.2.2.2.1, r_2.2.2.2.2.1, r_2.2.2.2.2.2)) else (some ((r_2.2.2.2.1 2 0), r_2.2.1, r_2.2.2.1, r_2.2.2.2.1, r_2.2.2.2.2.1, r_2.2.2.2.2.2))) else (if r_2.1 = 7 then (if (r_2.2.2.2.2.1 1 0) = 0 then (some ((-2), r_2.2.1, r_2.2.2.1, r_2.2.2.2.1, r_2.2.2.2.2.1, r_2.2.2.2.2.2)) else (some ((r_2.2.2.2.2.1 2 0), r_2.2.1, r_2.2.2.1, r_2.2.2.2.1, r_2.2.2.2.2.1, r_2.2.2.2.2.2))) else (if (r_2.2.2.2.2.2 1 0) = 0 then (some ((-2), r_2.2.1, r_2.2.2.1, r_2.2.2.2.1, r_2.2.2.2.2.1, r_2.2.2.2.2.2)) else (some ((r_2.2.2.2.2.2 2 0), r_2.2.1, r_2.2.2.1, r_2.2.2.2.1, r_2.2.2.2.2.1, r_2.2.2.2.2.2)))))))
theorem dd_X6_ink : RX6 ≠ "java/lang/invoke/MethodHandle" ∧ RX6 ≠ "java/lang/invoke/VarHandle" ∧ (parseMethodDescriptor yX6_ink.desc).map (fun d => d.parameters.length) = some 1 := by decide +kernel
set_option maxHeartbeats 4000000 in
set_option maxRecDepth 100000 in
theorem c_X6_ink (l : Launch) (D : va_G) (T : Nat → ClassId) (a0 : Nat → Nat) (a1 : Nat → Nat) (a2 : Nat → Nat) (a3 : Nat → Nat) (a4 : Nat → Nat) (a5 : Nat → Nat) (a6 : Nat → Nat) (a7 : Nat → Nat) (a8 : Nat → Nat) (a9 : Nat → Nat) (S1 : Nat → Nat → Int32) (S2 : Nat → Nat → Int32) (S3 : Nat → Nat → Int32) (S4 : Nat → Nat → Int32) (S5 : Nat → Nat → Int32) (S6 : Nat → Nat → Int32) (S7 : Nat → Nat → Int32) (S8 : Nat → Nat → Int32) (S9 : Nat → Nat → Int32) (v1 : Int32) (ex : Int32 × (Nat → Nat → Int32) × (Nat → Nat → Int32) × (Nat → Nat → Int32) × (Nat → Nat → Int32) × (Nat → Nat → Int32)) (h : f_X6_ink S1 S2 S3 S4 S5 S6 S7 S8 S9 v1 = some ex) : zWI l yX6_ink wsX6_ink ({ frames := 6, cells := 0, slots := 0, locals := 150 } : Room) D T [.ref (a0 99), .int v1] (wX6 a0 a1 a2 a3 a4 a5 a6 a7 a8 a9 ++ (wX4 T a1 S1 ++ (wX1 T a2 S2 ++ (wX1 T a3 S3 ++ (wX0 T a4 S4 ++ (wX5 T a5 S5 ++ (wX5 T a6 S6 ++ (wX5 T a7 S7 ++ (wX5 T a8 S8 ++ wX3 T a9 S9))))))))) ex.1 (wX6 a0 a1 a2 a3 a4 a5 a6 a7 a8 a9 ++ (wX4 T a1 S1 ++ (wX1 T a2 S2 ++ (wX1 T a3 S3 ++ (wX0 T a4 ex.2.1 ++ (wX5 T a5 ex.2.2.1 ++ (wX5 T a6 ex.2.2.2.1 ++ (wX5 T a7 ex.2.2.2.2.1 ++ (wX5 T a8 ex.2.2.2.2.2 ++ wX3 T a9 S9))))))))) := by
  refine z_begin (cc := cX6_ink) (nL := 3) (own := RX6) (fr := 6) (lc := 150) (ret := some .int) (by decide) rfl (Nat.le_of_ble_eq_true rfl) (zA (wX6 a0 a1 a2 a3 a4 a5 a6 a7 a8 a9 ++ (wX4 T a1 S1 ++ (wX1 T a2 S2 ++ (wX1 T a3 S3 ++ (wX0 T a4 S4 ++ (wX5 T a5 S5 ++ (wX5 T a6 S6 ++ (wX5 T a7 S7 ++ (wX5 T a8 S8 ++ wX3 T a9 S9)))))))))) rfl [(0, .ref (a0 99)), (1, .int v1)] rfl ⟨rfl, rfl⟩ rfl ?_
  intro p e s m args below meth c C hr hD
  have hD := hD.zself
  unfold f_X6_ink at h
  refine z_iload_n C dX6_ink_0 rfl 1 rfl 1 rfl ?_
  refine z_if_ne C 16 dX6_ink_1 (by decide) 4 rfl h (fun h => ?_) (fun h => ?_)
  · refine z_iload_n C dX6_ink_16 rfl 1 rfl 17 rfl ?_
    refine z_callR C ([]) (fun v h => c_X6_isTreeManner l D T    v1 v h) ⟨rfl, rfl⟩ (z_cwS C 1 gX6_ink_X6_isTreeManner rfl dd_X6_isTreeManner ⟨(Nat.le_of_ble_eq_true rfl), (Nat.le_of_ble_eq_true rfl)⟩) (hD.zaddr rfl) [] rfl rfl (fun h => absurd h (by decide)) (fun _ => rfl) rfl (Nat.le_of_ble_eq_true rfl) dX6_ink_17 20 rfl h (fun r_1 h => ?_)
    refine z_if_ne C 25 dX6_ink_20 (by decide) 23 rfl h (fun h => ?_) (fun h => ?_)
    · refine z_aload_n C dX6_ink_25 rfl 0 rfl 26 rfl ?_
      refine z_iload_n C dX6_ink_26 rfl 1 rfl 27 rfl ?_
      refine z_callA C (wX6 a0 a1 a2 a3 a4 a5 a6 a7 a8 a9 ++ (wX4 T a1 S1 ++ (wX1 T a2 S2 ++ (wX1 T a3 S3 ++ (wX0 T a4 S4 ++ (wX5 T a5 S5 ++ (wX5 T a6 S6 ++ (wX5 T a7 S7 ++ (wX5 T a8 S8 ++ wX3 T a9 S9))))))))) (([] : va_W)) (fun z => if z.1 = 5 then a5 99 else if z.1 = 6 then a6 99 else if z.1 = 7 then a7 99 else a8 99) (fun z => wX6 a0 a1 a2 a3 a4 a5 a6 a7 a8 a9 ++ (wX4 T a1 S1 ++ (wX1 T a2 S2 ++ (wX1 T a3 S3 ++ (wX0 T a4 z.2.1 ++ (wX5 T a5 z.2.2.1 ++ (wX5 T a6 z.2.2.2.1 ++ (wX5 T a7 z.2.2.2.2.1 ++ (wX5 T a8 z.2.2.2.2.2 ++ wX3 T a9 S9))))))))) (fun z => wX6 a0 a1 a2 a3 a4 a5 a6 a7 a8 a9 ++ (wX4 T a1 S1 ++ (wX1 T a2 S2 ++ (wX1 T a3 S3 ++ (wX0 T a4 z.2.1 ++ (wX5 T a5 z.2.2.1 ++ (wX5 T a6 z.2.2.2.1 ++ (wX5 T a7 z.2.2.2.2.1 ++ (wX5 T a8 z.2.2.2.2.2 ++ wX3 T a9 S9))))))))) (fun z h => c_X6_treeOf l D T a0 a1 a2 a3 a4 a5 a6 a7 a8 a9  S1 S2 S3 S4 S5 S6 S7 S8 S9 v1 z h) ⟨rfl, rfl⟩ (z_cwV C 1 gX6_ink_X6_treeOf rfl rfl dd_X6_treeOf ⟨(Nat.le_of_ble_eq_true rfl), (Nat.le_of_ble_eq_true rfl)⟩) (hD.zaddr rfl) [0, 1, 2, 3, 4, 5, 6, 7, 8, 9, 10, 11, 12, 13, 14, 15, 16, 17, 18, 19, 20, 21, 22, 23, 24, 25, 26, 27, 28, 29, 30, 31, 32, 33] [] [0, 1, 2, 3, 4, 5, 6, 7, 8, 9, 10, 11, 12, 13, 14, 15, 16, 17, 18, 19, 20, 21, 22, 23, 24, 25, 26, 27, 28, 29, 30, 31, 32, 33] rfl rfl rfl (by decide) (fun _ => rfl) (fun _ => ⟨a0 99, [.int v1], 5, 0, _, _, rfl, rfl, rfl, rfl, rfl⟩) (fun h => absurd rfl h) rfl (Nat.le_of_ble_eq_true rfl) dX6_ink_27 30 rfl h (fun r_2 h => ?_)
      refine z_tag (t := r_2.1) 5 (fun t => if t = 5 then a5 99 else if t = 6 then a6 99 else if t = 7 then a7 99 else a8 99) rfl h (fun h => ?_) (fun hx_0 h => ?_)
      · refine z_astore_n C [(0, .ref (a0 99)), (1, .int v1), (2, .ref (a5 99))] dX6_ink_30 rfl (Nat.le_of_ble_eq_true rfl) [1, 2, 0] rfl 31 rfl ?_
        refine z_aload_n C dX6_ink_31 rfl 2 rfl 32 rfl ?_
        refine z_get C (in_X6_ink_X5) 20 rfl rfl 1 (by decide) (List.mem_of_getElem? (i := 2) rfl) rfl rfl dX6_ink_32 35 rfl ?_
        refine z_if_eq C 45 dX6_ink_35 (by decide) 38 rfl h (fun h => ?_) (fun h => ?_)
        · refine z_bipush C (-2) dX6_ink_45 (by decide) 47 rfl ?_
          exact z_iretW (x := (r_2.2.1, r_2.2.2.1, r_2.2.2.2.1, r_2.2.2.2.2.1, r_2.2.2.2.2.2)) (ex := ex) (fun z => wX6 a0 a1 a2 a3 a4 a5 a6 a7 a8 a9 ++ (wX4 T a1 S1 ++ (wX1 T a2 S2 ++ (wX1 T a3 S3 ++ (wX0 T a4 z.1 ++ (wX5 T a5 z.2.1 ++ (wX5 T a6 z.2.2.1 ++ (wX5 T a7 z.2.2.2.1 ++ (wX5 T a8 z.2.2.2.2 ++ wX3 T a9 S9))))))))) C hr dX6_ink_47 h rfl
        · refine z_aload_n C dX6_ink_38 rfl 2 rfl 39 rfl ?_
          refine z_get C (in_X6_ink_X5) 20 rfl rfl 2 (by decide) (List.mem_of_getElem? (i := 3) rfl) rfl rfl dX6_ink_39 42 rfl ?_
          refine z_goto C 47 dX6_ink_42 (by decide) ?_
          exact z_iretW (x := (r_2.2.1, r_2.2.2.1, r_2.2.2.2.1, r_2.2.2.2.2.1, r_2.2.2.2.2.2)) (ex := ex) (fun z => wX6 a0 a1 a2 a3 a4 a5 a6 a7 a8 a9 ++ (wX4 T a1 S1 ++ (wX1 T a2 S2 ++ (wX1 T a3 S3 ++ (wX0 T a4 z.1 ++ (wX5 T a5 z.2.1 ++ (wX5 T a6 z.2.2.1 ++ (wX5 T a7 z.2.2.2.1 ++ (wX5 T a8 z.2.2.2.2 ++ wX3 T a9 S9))))))))) C hr dX6_ink_47 h rfl
      · refine z_tag (t := r_2.1) 6 (fun t => if t = 5 then a5 99 else if t = 6 then a6 99 else if t = 7 then a7 99 else a8 99) rfl h (fun h => ?_) (fun hx_1 h => ?_)
        · refine z_astore_n C [(0, .ref (a0 99)), (1, .int v1), (2, .ref (a6 99))] dX6_ink_30 rfl (Nat.le_of_ble_eq_true rfl) [1, 2, 0] rfl 31 rfl ?_
          refine z_aload_n C dX6_ink_31 rfl 2 rfl 32 rfl ?_
          refine z_get C (in_X6_ink_X5) 23 rfl rfl 1 (by decide) (List.mem_of_getElem? (i := 2) rfl) rfl rfl dX6_ink_32 35 rfl ?_
          refine z_if_eq C 45 dX6_ink_35 (by decide) 38 rfl h (fun h => ?_) (fun h => ?_)
          · refine z_bipush C (-2) dX6_ink_45 (by decide) 47 rfl ?_
            exact z_iretW (x := (r_2.2.1, r_2.2.2.1, r_2.2.2.2.1, r_2.2.2.2.2.1, r_2.2.2.2.2.2)) (ex := ex) (fun z => wX6 a0 a1 a2 a3 a4 a5 a6 a7 a8 a9 ++ (wX4 T a1 S1 ++ (wX1 T a2 S2 ++ (wX1 T a3 S3 ++ (wX0 T a4 z.1 ++ (wX5 T a5 z.2.1 ++ (wX5 T a6 z.2.2.1 ++ (wX5 T a7 z.2.2.2.1 ++ (wX5 T a8 z.2.2.2.2 ++ wX3 T a9 S9))))))))) C hr dX6_ink_47 h rfl
          · refine z_aload_n C dX6_ink_38 rfl 2 rfl 39 rfl ?_
            refine z_get C (in_X6_ink_X5) 23 rfl rfl 2 (by decide) (List.mem_of_getElem? (i := 3) rfl) rfl rfl dX6_ink_39 42 rfl ?_
            refine z_goto C 47 dX6_ink_42 (by decide) ?_
            exact z_iretW (x := (r_2.2.1, r_2.2.2.1, r_2.2.2.2.1, r_2.2.2.2.2.1, r_2.2.2.2.2.2)) (ex := ex) (fun z => wX6 a0 a1 a2 a3 a4 a5 a6 a7 a8 a9 ++ (wX4 T a1 S1 ++ (wX1 T a2 S2 ++ (wX1 T a3 S3 ++ (wX0 T a4 z.1 ++ (wX5 T a5 z.2.1 ++ (wX5 T a6 z.2.2.1 ++ (wX5 T a7 z.2.2.2.1 ++ (wX5 T a8 z.2.2.2.2 ++ wX3 T a9 S9))))))))) C hr dX6_ink_47 h rfl
        · refine z_tag (t := r_2.1) 7 (fun t => if t = 5 then a5 99 else if t = 6 then a6 99 else if t = 7 then a7 99 else a8 99) rfl h (fun h => ?_) (fun hx_2 h => ?_)
          · refine z_astore_n C [(0, .ref (a0 99)), (1, .int v1), (2, .ref (a7 99))] dX6_ink_30 rfl (Nat.le_of_ble_eq_true rfl) [1, 2, 0] rfl 31 rfl ?_
            refine z_aload_n C dX6_ink_31 rfl 2 rfl 32 rfl ?_
            refine z_get C (in_X6_ink_X5) 26 rfl rfl 1 (by decide) (List.mem_of_getElem? (i := 2) rfl) rfl rfl dX6_ink_32 35 rfl ?_
            refine z_if_eq C 45 dX6_ink_35 (by decide) 38 rfl h (fun h => ?_) (fun h => ?_)
            · refine z_bipush C (-2) dX6_ink_45 (by decide) 47 rfl ?_
              exact z_iretW (x := (r_2.2.1, r_2.2.2.1, r_2.2.2.2.1, r_2.2.2.2.2.1, r_2.2.2.2.2.2)) (ex := ex) (fun z => wX6 a0 a1 a2 a3 a4 a5 a6 a7 a8 a9 ++ (wX4 T a1 S1 ++ (wX1 T a2 S2 ++ (wX1 T a3 S3 ++ (wX0 T a4 z.1 ++ (wX5 T a5 z.2.1 ++ (wX5 T a6 z.2.2.1 ++ (wX5 T a7 z.2.2.2.1 ++ (wX5 T a8 z.2.2.2.2 ++ wX3 T a9 S9))))))))) C hr dX6_ink_47 h rfl
            · refine z_aload_n C dX6_ink_38 rfl 2 rfl 39 rfl ?_
              refine z_get C (in_X6_ink_X5) 26 rfl rfl 2 (by decide) (List.mem_of_getElem? (i := 3) rfl) rfl rfl dX6_ink_39 42 rfl ?_
              refine z_goto C 47 dX6_ink_42 (by decide) ?_
              exact z_iretW (x := (r_2.2.1, r_2.2.2.1, r_2.2.2.2.1, r_2.2.2.2.2.1, r_2.2.2.2.2.2)) (ex := ex) (fun z => wX6 a0 a1 a2 a3 a4 a5 a6 a7 a8 a9 ++ (wX4 T a1 S1 ++ (wX1 T a2 S2 ++ (wX1 T a3 S3 ++ (wX0 T a4 z.1 ++ (wX5 T a5 z.2.1 ++ (wX5 T a6 z.2.2.1 ++ (wX5 T a7 z.2.2.2.1 ++ (wX5 T a8 z.2.2.2.2 ++ wX3 T a9 S9))))))))) C hr dX6_ink_47 h rfl
          · refine z_ref (b := a8 99) (by show (if _ = _ then _ else _) = _; rw [if_neg hx_0, if_neg hx_1, if_neg hx_2]) ?_
            refine z_astore_n C [(0, .ref (a0 99)), (1, .int v1), (2, .ref (a8 99))] dX6_ink_30 rfl (Nat.le_of_ble_eq_true rfl) [1, 2, 0] rfl 31 rfl ?_
            refine z_aload_n C dX6_ink_31 rfl 2 rfl 32 rfl ?_
            refine z_get C (in_X6_ink_X5) 29 rfl rfl 1 (by decide) (List.mem_of_getElem? (i := 2) rfl) rfl rfl dX6_ink_32 35 rfl ?_
            refine z_if_eq C 45 dX6_ink_35 (by decide) 38 rfl h (fun h => ?_) (fun h => ?_)
            · refine z_bipush C (-2) dX6_ink_45 (by decide) 47 rfl ?_
              exact z_iretW (x := (r_2.2.1, r_2.2.2.1, r_2.2.2.2.1, r_2.2.2.2.2.1, r_2.2.2.2.2.2)) (ex := ex) (fun z => wX6 a0 a1 a2 a3 a4 a5 a6 a7 a8 a9 ++ (wX4 T a1 S1 ++ (wX1 T a2 S2 ++ (wX1 T a3 S3 ++ (wX0 T a4 z.1 ++ (wX5 T a5 z.2.1 ++ (wX5 T a6 z.2.2.1 ++ (wX5 T a7 z.2.2.2.1 ++ (wX5 T a8 z.2.2.2.2 ++ wX3 T a9 S9))))))))) C hr dX6_ink_47 h rfl
            · refine z_aload_n C dX6_ink_38 rfl 2 rfl 39 rfl ?_
              refine z_get C (in_X6_ink_X5) 29 rfl rfl 2 (by decide) (List.mem_of_getElem? (i := 3) rfl) rfl rfl dX6_ink_39 42 rfl ?_
              refine z_goto C 47 dX6_ink_42 (by decide) ?_
              exact z_iretW (x := (r_2.2.1, r_2.2.2.1, r_2.2.2.2.1, r_2.2.2.2.2.1, r_2.2.2.2.2.2)) (ex := ex) (fun z => wX6 a0 a1 a2 a3 a4 a5 a6 a7 a8 a9 ++ (wX4 T a1 S1 ++ (wX1 T a2 S2 ++ (wX1 T a3 S3 ++ (wX0 T a4 z.1 ++ (wX5 T a5 z.2.1 ++ (wX5 T a6 z.2.2.1 ++ (wX5 T a7 z.2.2.2.1 ++ (wX5 T a8 z.2.2.2.2 ++ wX3 T a9 S9))))))))) C hr dX6_ink_47 h rfl
    · refine z_iconst C (-1) dX6_ink_23 (by decide) 24 rfl ?_
      exact z_iretW (x := (S4, S5, S6, S7, S8)) (ex := ex) (fun z => wX6 a0 a1 a2 a3 a4 a5 a6 a7 a8 a9 ++ (wX4 T a1 S1 ++ (wX1 T a2 S2 ++ (wX1 T a3 S3 ++ (wX0 T a4 z.1 ++ (wX5 T a5 z.2.1 ++ (wX5 T a6 z.2.2.1 ++ (wX5 T a7 z.2.2.2.1 ++ (wX5 T a8 z.2.2.2.2 ++ wX3 T a9 S9))))))))) C hr dX6_ink_24 h rfl
  · refine z_aload_n C dX6_ink_4 rfl 0 rfl 5 rfl ?_
    refine z_callA C (wX6 a0 a1 a2 a3 a4 a5 a6 a7 a8 a9 ++ (wX4 T a1 S1 ++ (wX1 T a2 S2 ++ (wX1 T a3 S3 ++ (wX0 T a4 S4 ++ (wX5 T a5 S5 ++ (wX5 T a6 S6 ++ (wX5 T a7 S7 ++ (wX5 T a8 S8 ++ wX3 T a9 S9))))))))) (([] : va_W)) (fun z => a4 99) (fun z => wX6 a0 a1 a2 a3 a4 a5 a6 a7 a8 a9 ++ (wX4 T a1 S1 ++ (wX1 T a2 S2 ++ (wX1 T a3 S3 ++ (wX0 T a4 z ++ (wX5 T a5 S5 ++ (wX5 T a6 S6 ++ (wX5 T a7 S7 ++ (wX5 T a8 S8 ++ wX3 T a9 S9))))))))) (fun z => wX6 a0 a1 a2 a3 a4 a5 a6 a7 a8 a9 ++ (wX4 T a1 S1 ++ (wX1 T a2 S2 ++ (wX1 T a3 S3 ++ (wX0 T a4 z ++ (wX5 T a5 S5 ++ (wX5 T a6 S6 ++ (wX5 T a7 S7 ++ (wX5 T a8 S8 ++ wX3 T a9 S9))))))))) (fun z h => c_X6_knownBests l D T a0 a1 a2 a3 a4 a5 a6 a7 a8 a9  S1 S2 S3 S4 S5 S6 S7 S8 S9  z h) ⟨rfl, rfl⟩ (z_cwV C 0 gX6_ink_X6_knownBests rfl rfl dd_X6_knownBests ⟨(Nat.le_of_ble_eq_true rfl), (Nat.le_of_ble_eq_true rfl)⟩) (hD.zaddr rfl) [0, 1, 2, 3, 4, 5, 6, 7, 8, 9, 10, 11, 12, 13, 14, 15, 16, 17, 18, 19, 20, 21, 22, 23, 24, 25, 26, 27, 28, 29, 30, 31, 32, 33] [] [0, 1, 2, 3, 4, 5, 6, 7, 8, 9, 10, 11, 12, 13, 14, 15, 16, 17, 18, 19, 20, 21, 22, 23, 24, 25, 26, 27, 28, 29, 30, 31, 32, 33] rfl rfl rfl (by decide) (fun _ => rfl) (fun _ => ⟨a0 99, [], 5, 0, _, _, rfl, rfl, rfl, rfl, rfl⟩) (fun h => absurd rfl h) rfl (Nat.le_of_ble_eq_true rfl) dX6_ink_5 8 rfl h (fun r_3 h => ?_)
    refine z_aload_n C dX6_ink_8 rfl 0 rfl 9 rfl ?_
    refine z_get C (in_X6_ink_X6) 0 rfl rfl 1 (by decide) (List.mem_of_getElem? (i := 1) rfl) rfl rfl dX6_ink_9 12 rfl ?_
    refine z_callR C (wX0 T a4 r_3 ++ wX1 T a2 S2) (fun v h => c_X0_inkOfAllAlone l D T a4 a2  r_3 S2  v h) ⟨rfl, rfl⟩ (z_cwV C 1 gX6_ink_X0_inkOfAllAlone rfl rfl dd_X0_inkOfAllAlone ⟨(Nat.le_of_ble_eq_true rfl), (Nat.le_of_ble_eq_true rfl)⟩) (hD.zaddr rfl) [13, 14, 15, 16, 17, 18, 19, 3, 4, 5, 6, 7] rfl rfl (fun _ => ⟨a4 99, [.ref (a2 99)], 0, 0, _, _, rfl, rfl, rfl, rfl, rfl⟩) (fun h => absurd rfl h) rfl (Nat.le_of_ble_eq_true rfl) dX6_ink_12 15 rfl h (fun r_4 h => ?_)
    exact z_iretW (x := (r_3, S5, S6, S7, S8)) (ex := ex) (fun z => wX6 a0 a1 a2 a3 a4 a5 a6 a7 a8 a9 ++ (wX4 T a1 S1 ++ (wX1 T a2 S2 ++ (wX1 T a3 S3 ++ (wX0 T a4 z.1 ++ (wX5 T a5 z.2.1 ++ (wX5 T a6 z.2.2.1 ++ (wX5 T a7 z.2.2.2.1 ++ (wX5 T a8 z.2.2.2.2 ++ wX3 T a9 S9))))))))) C hr dX6_ink_15 h rfl

end
/-! StreamTree.width (III)I -/
section
variable {p : Program} {l : Launch} {e : Env} {R : Room} {s : State} {m : MethodId} {args : Array Value} {below : List Frame} {meth : Method} {c : Code} {Q : State → Prop} {A : Nat → Prop} {D : va_G} {T : Nat → ClassId} {a0 : Nat → Nat} {a1 : Nat → Nat} {a2 : Nat → Nat} {a3 : Nat → Nat} {a4 : Nat → Nat} {a5 : Nat → Nat} {a6 : Nat → Nat} {a7 : Nat → Nat} {a8 : Nat → Nat} {a9 : Nat → Nat}
theorem in_X6_width_X5 : ∀ w ∈ u_ws RX5 TX5 5, w ∈ wsX6_width := fun _ h => (List.mem_cons_of_mem _ (List.mem_append_left _ (List.mem_append_left _ (List.mem_append_right _ h))))
theorem in_X6_width_X6 : ∀ w ∈ u_ws RX6 TX6 9, w ∈ wsX6_width := fun _ h => (List.mem_cons_of_mem _ (List.mem_append_left _ (List.mem_append_left _ (List.mem_append_left _ (List.mem_append_right _ h)))))
def f_X6_width (S1 : Nat → Nat → Int32) (S2 : Nat → Nat → Int32) (S3 : Nat → Nat → Int32) (S4 : Nat → Nat → Int32) (S5 : Nat → Nat → Int32) (S6 : Nat → Nat → Int32) (S7 : Nat → Nat → Int32) (S8 : Nat → Nat → Int32) (S9 : Nat → Nat → Int32) (v1 : Int32) (v2 : Int32) (v3 : Int32) : Option (Int32 × (Nat → Nat → Int32) × (Nat → Nat → Int32) × (Nat → Nat → Int32) × (Nat → Nat → Int32) × (Nat → Nat → Int32)) := (f_X6_isTreeManner v1).bind fun r_1 => if r_1 = 0 then (some ((-1), S4, S5, S6, S7, S8)) else ((f_X1_hasCellOrSource S2 v2 v3).bind fun r_2 => if r_2 = 0 then (some ((-1), S4, S5, S6, S7, S8)) else ((f_X6_treeOf S1 S2 S3 S4 S5 S6 S7 S8 S9 v1).bind fun r_3 => if r_3.1 = 5 then (if (r_3.2.2.1 1 0) = 0 then (some ((-2), r_3.2.1, r_3.2.2.1, r_3.2.2.2.1, r_3.2.2.2.2.1, r_3.2.2.2.2.2)) else ((f_X6_cellOf v2 v3).bind fun r_4 => zix r_4 240 fun _ => (f_X1_amountOf S2 (r_3.2.2.1 3 (Int32.toNatClampNeg r_4))).bind fun r_5 => some (r_5, r_3.2.1, r_3.2.2.1, r_3.2.2.2.1, r_3.2.2.2.2.1, r_3.2.2.2.2.2))) else (if r_3.1 = 6 then (if (r_3.2.2.2.1 1 0) = 0 then (some ((-2), r_3.2.1, r_3.2.2.1, r_3.2.2.2.1, r_3.2.2.2.2.1, r_3.2.2.2.2.2)) else ((f_X6_cellOf v2 v3).bind fun r_6 => zix r_6 240 fun _ => (f_X1_amountOf S2 (r_3.2.2.2.1 3 (Int32.toNatClampNeg r_6))).bind fun r_7 => some (r_7, r_3.2.1, r_3.2.2.1, r_3.2.2.2.1, r_3.2.2.2.2.1, r_3.2.2.2.2.2))) else (if r_3.1 = 7 then (if (r_3.2.2.2.2.1 1 0) = 0 then (some ((-2), r_3.2.1, r_3.2.2.1, r_3.2.2.2.1, r_3.2.2.2.2.1, r_3.2.2.2.2.2)) else ((f_X6_cellOf v2 v3).bind fun r_8 => zix r_8 240 fun _ => (f_X1_amountOf S2 (r_3.2.2.2.2.1 3 (Int32.toNatClampNeg r_8))).bind fun r_9 => some (r_9, r_3.2.1, r_3.2.2.1, r_3.2.2.2.1, r_3.2.2.2.2.1, r_3.2.2.2.2.2))) else (if (r_3.2.2.2.2.2 1 0) = 0 then (some ((-2), r_3.2.1, r_3.2.2.1, r_3.2.2.2.1, r_3.2.2.2.2.1, r_3.2.2.2.2.2)) else ((f_X6_cellOf v2 v3).bind fun r_10 => zix r_10 240 fun _ => (f_X1_amountOf S2 (r_3.2.2.2.2.2 3 (Int32.toNatClampNeg r_10))).bind fun r_11 => some (r_11, r_3.2.1, r_3.2.2.1, r_3.2.2.2.1, r_3.2.2.2.2.1, r_3.2.2.2.2.2)))))))
theorem dd_X6_width : RX6 ≠ "java/lang/invoke/MethodHandle" ∧ RX6 ≠ "java/lang/invoke/VarHandle" ∧ (parseMethodDescriptor yX6_width.desc).map (fun d => d.parameters.length) = some 3 := by decide +kernel
set_option maxHeartbeats 4000000 in
set_option maxRecDepth 100000 in
theorem c_X6_width (l : Launch) (D : va_G) (T : Nat → ClassId) (a0 : Nat → Nat) (a1 : Nat → Nat) (a2 : Nat → Nat) (a3 : Nat → Nat) (a4 : Nat → Nat) (a5 : Nat → Nat) (a6 : Nat → Nat) (a7 : Nat → Nat) (a8 : Nat → Nat) (a9 : Nat → Nat) (S1 : Nat → Nat → Int32) (S2 : Nat → Nat → Int32) (S3 : Nat → Nat → Int32) (S4 : Nat → Nat → Int32) (S5 : Nat → Nat → Int32) (S6 : Nat → Nat → Int32) (S7 : Nat → Nat → Int32) (S8 : Nat → Nat → Int32) (S9 : Nat → Nat → Int32) (v1 : Int32) (v2 : Int32) (v3 : Int32) (ex : Int32 × (Nat → Nat → Int32) × (Nat → Nat → Int32) × (Nat → Nat → Int32) × (Nat → Nat → Int32) × (Nat → Nat → Int32)) (h : f_X6_width S1 S2 S3 S4 S5 S6 S7 S8 S9 v1 v2 v3 = some ex) : zWI l yX6_width wsX6_width ({ frames := 6, cells := 0, slots := 0, locals := 150 } : Room) D T [.ref (a0 99), .int v1, .int v2, .int v3] (wX6 a0 a1 a2 a3 a4 a5 a6 a7 a8 a9 ++ (wX4 T a1 S1 ++ (wX1 T a2 S2 ++ (wX1 T a3 S3 ++ (wX0 T a4 S4 ++ (wX5 T a5 S5 ++ (wX5 T a6 S6 ++ (wX5 T a7 S7 ++ (wX5 T a8 S8 ++ wX3 T a9 S9))))))))) ex.1 (wX6 a0 a1 a2 a3 a4 a5 a6 a7 a8 a9 ++ (wX4 T a1 S1 ++ (wX1 T a2 S2 ++ (wX1 T a3 S3 ++ (wX0 T a4 ex.2.1 ++ (wX5 T a5 ex.2.2.1 ++ (wX5 T a6 ex.2.2.2.1 ++ (wX5 T a7 ex.2.2.2.2.1 ++ (wX5 T a8 ex.2.2.2.2.2 ++ wX3 T a9 S9))))))))) := by
  refine z_begin (cc := cX6_width) (nL := 5) (own := RX6) (fr := 6) (lc := 150) (ret := some .int) (by decide) rfl (Nat.le_of_ble_eq_true rfl) (zA (wX6 a0 a1 a2 a3 a4 a5 a6 a7 a8 a9 ++ (wX4 T a1 S1 ++ (wX1 T a2 S2 ++ (wX1 T a3 S3 ++ (wX0 T a4 S4 ++ (wX5 T a5 S5 ++ (wX5 T a6 S6 ++ (wX5 T a7 S7 ++ (wX5 T a8 S8 ++ wX3 T a9 S9)))))))))) rfl [(0, .ref (a0 99)), (1, .int v1), (2, .int v2), (3, .int v3)] rfl ⟨rfl, rfl⟩ rfl ?_
  intro p e s m args below meth c C hr hD
  have hD := hD.zself
  unfold f_X6_width at h
  refine z_iload_n C dX6_width_0 rfl 1 rfl 1 rfl ?_
  refine z_callR C ([]) (fun v h => c_X6_isTreeManner l D T    v1 v h) ⟨rfl, rfl⟩ (z_cwS C 1 gX6_width_X6_isTreeManner rfl dd_X6_isTreeManner ⟨(Nat.le_of_ble_eq_true rfl), (Nat.le_of_ble_eq_true rfl)⟩) (hD.zaddr rfl) [] rfl rfl (fun h => absurd h (by decide)) (fun _ => rfl) rfl (Nat.le_of_ble_eq_true rfl) dX6_width_1 4 rfl h (fun r_1 h => ?_)
  refine z_if_eq C 19 dX6_width_4 (by decide) 7 rfl h (fun h => ?_) (fun h => ?_)
  · refine z_iconst C (-1) dX6_width_19 (by decide) 20 rfl ?_
    exact z_iretW (x := (S4, S5, S6, S7, S8)) (ex := ex) (fun z => wX6 a0 a1 a2 a3 a4 a5 a6 a7 a8 a9 ++ (wX4 T a1 S1 ++ (wX1 T a2 S2 ++ (wX1 T a3 S3 ++ (wX0 T a4 z.1 ++ (wX5 T a5 z.2.1 ++ (wX5 T a6 z.2.2.1 ++ (wX5 T a7 z.2.2.2.1 ++ (wX5 T a8 z.2.2.2.2 ++ wX3 T a9 S9))))))))) C hr dX6_width_20 h rfl
  · refine z_aload_n C dX6_width_7 rfl 0 rfl 8 rfl ?_
    refine z_get C (in_X6_width_X6) 0 rfl rfl 1 (by decide) (List.mem_of_getElem? (i := 1) rfl) rfl rfl dX6_width_8 11 rfl ?_
    refine z_iload_n C dX6_width_11 rfl 2 rfl 12 rfl ?_
    refine z_iload_n C dX6_width_12 rfl 3 rfl 13 rfl ?_
    refine z_callR C (wX1 T a2 S2) (fun v h => c_X1_hasCellOrSource l D T a2  S2 v2 v3 v h) ⟨rfl, rfl⟩ (z_cwV C 2 gX6_width_X1_hasCellOrSource rfl rfl dd_X1_hasCellOrSource ⟨(Nat.le_of_ble_eq_true rfl), (Nat.le_of_ble_eq_true rfl)⟩) (hD.zaddr rfl) [3, 4, 5, 6, 7] rfl rfl (fun _ => ⟨a2 99, [.int v2, .int v3], 1, 0, _, _, rfl, rfl, rfl, rfl, rfl⟩) (fun h => absurd rfl h) rfl (Nat.le_of_ble_eq_true rfl) dX6_width_13 16 rfl h (fun r_2 h => ?_)
    refine z_if_ne C 21 dX6_width_16 (by decide) 19 rfl h (fun h => ?_) (fun h => ?_)
    · refine z_aload_n C dX6_width_21 rfl 0 rfl 22 rfl ?_
      refine z_iload_n C dX6_width_22 rfl 1 rfl 23 rfl ?_
      refine z_callA C (wX6 a0 a1 a2 a3 a4 a5 a6 a7 a8 a9 ++ (wX4 T a1 S1 ++ (wX1 T a2 S2 ++ (wX1 T a3 S3 ++ (wX0 T a4 S4 ++ (wX5 T a5 S5 ++ (wX5 T a6 S6 ++ (wX5 T a7 S7 ++ (wX5 T a8 S8 ++ wX3 T a9 S9))))))))) (([] : va_W)) (fun z => if z.1 = 5 then a5 99 else if z.1 = 6 then a6 99 else if z.1 = 7 then a7 99 else a8 99) (fun z => wX6 a0 a1 a2 a3 a4 a5 a6 a7 a8 a9 ++ (wX4 T a1 S1 ++ (wX1 T a2 S2 ++ (wX1 T a3 S3 ++ (wX0 T a4 z.2.1 ++ (wX5 T a5 z.2.2.1 ++ (wX5 T a6 z.2.2.2.1 ++ (wX5 T a7 z.2.2.2.2.1 ++ (wX5 T a8 z.2.2.2.2.2 ++ wX3 T a9 S9))))))))) (fun z => wX6 a0 a1 a2 a3 a4 a5 a6 a7 a8 a9 ++ (wX4 T a1 S1 ++ (wX1 T a2 S2 ++ (wX1 T a3 S3 ++ (wX0 T a4 z.2.1 ++ (wX5 T a5 z.2.2.1 ++ (wX5 T a6 z.2.2.2.1 ++ (wX5 T a7 z.2.2.2.2.1 ++ (wX5 T a8 z.2.2.2.2.2 ++ wX3 T a9 S9))))))))) (fun z h => c_X6_treeOf l D T a0 a1 a2 a3 a4 a5 a6 a7 a8 a9  S1 S2 S3 S4 S5 S6 S7 S8 S9 v1 z h) ⟨rfl, rfl⟩ (z_cwV C 1 gX6_width_X6_treeOf rfl rfl dd_X6_treeOf ⟨(Nat.le_of_ble_eq_true rfl), (Nat.le_of_ble_eq_true rfl)⟩) (hD.zaddr rfl) [0, 1, 2, 3, 4, 5, 6, 7, 8, 9, 10, 11, 12, 13, 14, 15, 16, 17, 18, 19, 20, 21, 22, 23, 24, 25, 26, 27, 28, 29, 30, 31, 32, 33] [] [0, 1, 2, 3, 4, 5, 6, 7, 8, 9, 10, 11, 12, 13, 14, 15, 16, 17, 18, 19, 20, 21, 22, 23, 24, 25, 26, 27, 28, 29, 30, 31, 32, 33] rfl rfl rfl (by decide) (fun _ => rfl) (fun _ => ⟨a0 99, [.int v1], 5, 0, _, _, rfl, rfl, rfl, rfl, rfl⟩) (fun h => absurd rfl h) rfl (Nat.le_of_ble_eq_true rfl) dX6_width_23 26 rfl h (fun r_3 h => ?_)
      refine z_tag (t := r_3.1) 5 (fun t => if t = 5 then a5 99 else if t = 6 then a6 99 else if t = 7 then a7 99 else a8 99) rfl h (fun h => ?_) (fun hx_0 h => ?_)
      · refine z_astore C [(0, .ref (a0 99)), (1, .int v1), (2, .int v2), (3, .int v3), (4, .ref (a5 99))] dX6_width_26 (Nat.le_of_ble_eq_true rfl) [1, 2, 3, 4, 0] rfl 28 rfl ?_
        refine z_aload C dX6_width_28 4 rfl 30 rfl ?_
        refine z_get C (in_X6_width_X5) 20 rfl rfl 1 (by decide) (List.mem_of_getElem? (i := 2) rfl) rfl rfl dX6_width_30 33 rfl ?_
        refine z_if_eq C 57 dX6_width_33 (by decide) 36 rfl h (fun h => ?_) (fun h => ?_)
        · refine z_bipush C (-2) dX6_width_57 (by decide) 59 rfl ?_
          exact z_iretW (x := (r_3.2.1, r_3.2.2.1, r_3.2.2.2.1, r_3.2.2.2.2.1, r_3.2.2.2.2.2)) (ex := ex) (fun z => wX6 a0 a1 a2 a3 a4 a5 a6 a7 a8 a9 ++ (wX4 T a1 S1 ++ (wX1 T a2 S2 ++ (wX1 T a3 S3 ++ (wX0 T a4 z.1 ++ (wX5 T a5 z.2.1 ++ (wX5 T a6 z.2.2.1 ++ (wX5 T a7 z.2.2.2.1 ++ (wX5 T a8 z.2.2.2.2 ++ wX3 T a9 S9))))))))) C hr dX6_width_59 h rfl
        · refine z_aload_n C dX6_width_36 rfl 0 rfl 37 rfl ?_
          refine z_get C (in_X6_width_X6) 0 rfl rfl 1 (by decide) (List.mem_of_getElem? (i := 1) rfl) rfl rfl dX6_width_37 40 rfl ?_
          refine z_aload C dX6_width_40 4 rfl 42 rfl ?_
          refine z_get C (in_X6_width_X5) 20 rfl rfl 3 (by decide) (List.mem_of_getElem? (i := 3) rfl) rfl rfl dX6_width_42 45 rfl ?_
          refine z_iload_n C dX6_width_45 rfl 2 rfl 46 rfl ?_
          refine z_iload_n C dX6_width_46 rfl 3 rfl 47 rfl ?_
          refine z_callR C ([]) (fun v h => c_X6_cellOf l D T    v2 v3 v h) ⟨rfl, rfl⟩ (z_cwS C 2 gX6_width_X6_cellOf rfl dd_X6_cellOf ⟨(Nat.le_of_ble_eq_true rfl), (Nat.le_of_ble_eq_true rfl)⟩) (hD.zaddr rfl) [] rfl rfl (fun h => absurd h (by decide)) (fun _ => rfl) rfl (Nat.le_of_ble_eq_true rfl) dX6_width_47 50 rfl h (fun r_4 h => ?_)
          refine z_iald C 21 rfl rfl dX6_width_50 51 rfl h (fun h => ?_)
          refine z_callR C (wX1 T a2 S2) (fun v h => c_X1_amountOf l D T a2  S2 (r_3.2.2.1 3 (Int32.toNatClampNeg r_4)) v h) ⟨rfl, rfl⟩ (z_cwV C 1 gX6_width_X1_amountOf rfl rfl dd_X1_amountOf ⟨(Nat.le_of_ble_eq_true rfl), (Nat.le_of_ble_eq_true rfl)⟩) (hD.zaddr rfl) [3, 4, 5, 6, 7] rfl rfl (fun _ => ⟨a2 99, [.int (r_3.2.2.1 3 (Int32.toNatClampNeg r_4))], 1, 0, _, _, rfl, rfl, rfl, rfl, rfl⟩) (fun h => absurd rfl h) rfl (Nat.le_of_ble_eq_true rfl) dX6_width_51 54 rfl h (fun r_5 h => ?_)
          refine z_goto C 59 dX6_width_54 (by decide) ?_
          exact z_iretW (x := (r_3.2.1, r_3.2.2.1, r_3.2.2.2.1, r_3.2.2.2.2.1, r_3.2.2.2.2.2)) (ex := ex) (fun z => wX6 a0 a1 a2 a3 a4 a5 a6 a7 a8 a9 ++ (wX4 T a1 S1 ++ (wX1 T a2 S2 ++ (wX1 T a3 S3 ++ (wX0 T a4 z.1 ++ (wX5 T a5 z.2.1 ++ (wX5 T a6 z.2.2.1 ++ (wX5 T a7 z.2.2.2.1 ++ (wX5 T a8 z.2.2.2.2 ++ wX3 T a9 S9))))))))) C hr dX6_width_59 h rfl
      · refine z_tag (t := r_3.1) 6 (fun t => if t = 5 then a5 99 else if t = 6 then a6 99 else if t = 7 then a7 99 else a8 99) rfl h (fun h => ?_) (fun hx_1 h => ?_)
        · refine z_astore C [(0, .ref (a0 99)), (1, .int v1), (2, .int v2), (3, .int v3), (4, .ref (a6 99))] dX6_width_26 (Nat.le_of_ble_eq_true rfl) [1, 2, 3, 4, 0] rfl 28 rfl ?_
          refine z_aload C dX6_width_28 4 rfl 30 rfl ?_
          refine z_get C (in_X6_width_X5) 23 rfl rfl 1 (by decide) (List.mem_of_getElem? (i := 2) rfl) rfl rfl dX6_width_30 33 rfl ?_
          refine z_if_eq C 57 dX6_width_33 (by decide) 36 rfl h (fun h => ?_) (fun h => ?_)
          · refine z_bipush C (-2) dX6_width_57 (by decide) 59 rfl ?_
            exact z_iretW (x := (r_3.2.1, r_3.2.2.1, r_3.2.2.2.1, r_3.2.2.2.2.1, r_3.2.2.2.2.2)) (ex := ex) (fun z => wX6 a0 a1 a2 a3 a4 a5 a6 a7 a8 a9 ++ (wX4 T a1 S1 ++ (wX1 T a2 S2 ++ (wX1 T a3 S3 ++ (wX0 T a4 z.1 ++ (wX5 T a5 z.2.1 ++ (wX5 T a6 z.2.2.1 ++ (wX5 T a7 z.2.2.2.1 ++ (wX5 T a8 z.2.2.2.2 ++ wX3 T a9 S9))))))))) C hr dX6_width_59 h rfl
          · refine z_aload_n C dX6_width_36 rfl 0 rfl 37 rfl ?_
            refine z_get C (in_X6_width_X6) 0 rfl rfl 1 (by decide) (List.mem_of_getElem? (i := 1) rfl) rfl rfl dX6_width_37 40 rfl ?_
            refine z_aload C dX6_width_40 4 rfl 42 rfl ?_
            refine z_get C (in_X6_width_X5) 23 rfl rfl 3 (by decide) (List.mem_of_getElem? (i := 3) rfl) rfl rfl dX6_width_42 45 rfl ?_
            refine z_iload_n C dX6_width_45 rfl 2 rfl 46 rfl ?_
            refine z_iload_n C dX6_width_46 rfl 3 rfl 47 rfl ?_
            refine z_callR C ([]) (fun v h => c_X6_cellOf l D T    v2 v3 v h) ⟨rfl, rfl⟩ (z_cwS C 2 gX6_width_X6_cellOf rfl dd_X6_cellOf ⟨(Nat.le_of_ble_eq_true rfl), (Nat.le_of_ble_eq_true rfl)⟩) (hD.zaddr rfl) [] rfl rfl (fun h => absurd h (by decide)) (fun _ => rfl) rfl (Nat.le_of_ble_eq_true rfl) dX6_width_47 50 rfl h (fun r_6 h => ?_)
            refine z_iald C 24 rfl rfl dX6_width_50 51 rfl h (fun h => ?_)
            refine z_callR C (wX1 T a2 S2) (fun v h => c_X1_amountOf l D T a2  S2 (r_3.2.2.2.1 3 (Int32.toNatClampNeg r_6)) v h) ⟨rfl, rfl⟩ (z_cwV C 1 gX6_width_X1_amountOf rfl rfl dd_X1_amountOf ⟨(Nat.le_of_ble_eq_true rfl), (Nat.le_of_ble_eq_true rfl)⟩) (hD.zaddr rfl) [3, 4, 5, 6, 7] rfl rfl (fun _ => ⟨a2 99, [.int (r_3.2.2.2.1 3 (Int32.toNatClampNeg r_6))], 1, 0, _, _, rfl, rfl, rfl, rfl, rfl⟩) (fun h => absurd rfl h) rfl (Nat.le_of_ble_eq_true rfl) dX6_width_51 54 rfl h (fun r_7 h => ?_)
            refine z_goto C 59 dX6_width_54 (by decide) ?_
            exact z_iretW (x := (r_3.2.1, r_3.2.2.1, r_3.2.2.2.1, r_3.2.2.2.2.1, r_3.2.2.2.2.2)) (ex := ex) (fun z => wX6 a0 a1 a2 a3 a4 a5 a6 a7 a8 a9 ++ (wX4 T a1 S1 ++ (wX1 T a2 S2 ++ (wX1 T a3 S3 ++ (wX0 T a4 z.1 ++ (wX5 T a5 z.2.1 ++ (wX5 T a6 z.2.2.1 ++ (wX5 T a7 z.2.2.2.1 ++ (wX5 T a8 z.2.2.2.2 ++ wX3 T a9 S9))))))))) C hr dX6_width_59 h rfl
        · refine z_tag (t := r_3.1) 7 (fun t => if t = 5 then a5 99 else if t = 6 then a6 99 else if t = 7 then a7 99 else a8 99) rfl h (fun h => ?_) (fun hx_2 h => ?_)
          · refine z_astore C [(0, .ref (a0 99)), (1, .int v1), (2, .int v2), (3, .int v3), (4, .ref (a7 99))] dX6_width_26 (Nat.le_of_ble_eq_true rfl) [1, 2, 3, 4, 0] rfl 28 rfl ?_
            refine z_aload C dX6_width_28 4 rfl 30 rfl ?_
            refine z_get C (in_X6_width_X5) 26 rfl rfl 1 (by decide) (List.mem_of_getElem? (i := 2) rfl) rfl rfl dX6_width_30 33 rfl ?_
            refine z_if_eq C 57 dX6_width_33 (by decide) 36 rfl h (fun h => ?_) (fun h => ?_)
            · refine z_bipush C (-2) dX6_width_57 (by decide) 59 rfl ?_
              exact z_iretW (x := (r_3.2.1, r_3.2.2.1, r_3.2.2.2.1, r_3.2.2.2.2.1, r_3.2.2.2.2.2)) (ex := ex) (fun z => wX6 a0 a1 a2 a3 a4 a5 a6 a7 a8 a9 ++ (wX4 T a1 S1 ++ (wX1 T a2 S2 ++ (wX1 T a3 S3 ++ (wX0 T a4 z.1 ++ (wX5 T a5 z.2.1 ++ (wX5 T a6 z.2.2.1 ++ (wX5 T a7 z.2.2.2.1 ++ (wX5 T a8 z.2.2.2.2 ++ wX3 T a9 S9))))))))) C hr dX6_width_59 h rfl
            · refine z_aload_n C dX6_width_36 rfl 0 rfl 37 rfl ?_
              refine z_get C (in_X6_width_X6) 0 rfl rfl 1 (by decide) (List.mem_of_getElem? (i := 1) rfl) rfl rfl dX6_width_37 40 rfl ?_
              refine z_aload C dX6_width_40 4 rfl 42 rfl ?_
              refine z_get C (in_X6_width_X5) 26 rfl rfl 3 (by decide) (List.mem_of_getElem? (i := 3) rfl) rfl rfl dX6_width_42 45 rfl ?_
              refine z_iload_n C dX6_width_45 rfl 2 rfl 46 rfl ?_
              refine z_iload_n C dX6_width_46 rfl 3 rfl 47 rfl ?_
              refine z_callR C ([]) (fun v h => c_X6_cellOf l D T    v2 v3 v h) ⟨rfl, rfl⟩ (z_cwS C 2 gX6_width_X6_cellOf rfl dd_X6_cellOf ⟨(Nat.le_of_ble_eq_true rfl), (Nat.le_of_ble_eq_true rfl)⟩) (hD.zaddr rfl) [] rfl rfl (fun h => absurd h (by decide)) (fun _ => rfl) rfl (Nat.le_of_ble_eq_true rfl) dX6_width_47 50 rfl h (fun r_8 h => ?_)
              refine z_iald C 27 rfl rfl dX6_width_50 51 rfl h (fun h => ?_)
              refine z_callR C (wX1 T a2 S2) (fun v h => c_X1_amountOf l D T a2  S2 (r_3.2.2.2.2.1 3 (Int32.toNatClampNeg r_8)) v h) ⟨rfl, rfl⟩ (z_cwV C 1 gX6_width_X1_amountOf rfl rfl dd_X1_amountOf ⟨(Nat.le_of_ble_eq_true rfl), (Nat.le_of_ble_eq_true rfl)⟩) (hD.zaddr rfl) [3, 4, 5, 6, 7] rfl rfl (fun _ => ⟨a2 99, [.int (r_3.2.2.2.2.1 3 (Int32.toNatClampNeg r_8))], 1, 0, _, _, rfl, rfl, rfl, rfl, rfl⟩) (fun h => absurd rfl h) rfl (Nat.le_of_ble_eq_true rfl) dX6_width_51 54 rfl h (fun r_9 h => ?_)
              refine z_goto C 59 dX6_width_54 (by decide) ?_
              exact z_iretW (x := (r_3.2.1, r_3.2.2.1, r_3.2.2.2.1, r_3.2.2.2.2.1, r_3.2.2.2.2.2)) (ex := ex) (fun z => wX6 a0 a1 a2 a3 a4 a5 a6 a7 a8 a9 ++ (wX4 T a1 S1 ++ (wX1 T a2 S2 ++ (wX1 T a3 S3 ++ (wX0 T a4 z.1 ++ (wX5 T a5 z.2.1 ++ (wX5 T a6 z.2.2.1 ++ (wX5 T a7 z.2.2.2.1 ++ (wX5 T a8 z.2.2.2.2 ++ wX3 T a9 S9))))))))) C hr dX6_width_59 h rfl
          · refine z_ref (b := a8 99) (by show (if _ = _ then _ else _) = _; rw [if_neg hx_0, if_neg hx_1, if_neg hx_2]) ?_
            refine z_astore C [(0, .ref (a0 99)), (1, .int v1), (2, .int v2), (3, .int v3), (4, .ref (a8 99))] dX6_width_26 (Nat.le_of_ble_eq_true rfl) [1, 2, 3, 4, 0] rfl 28 rfl ?_
            refine z_aload C dX6_width_28 4 rfl 30 rfl ?_
            refine z_get C (in_X6_width_X5) 29 rfl rfl 1 (by decide) (List.mem_of_getElem? (i := 2) rfl) rfl rfl dX6_width_30 33 rfl ?_
            refine z_if_eq C 57 dX6_width_33 (by decide) 36 rfl h (fun h => ?_) (fun h => ?_)
            · refine z_bipush C (-2) dX6_width_57 (by decide) 59 rfl ?_
              exact z_iretW (x := (r_3.2.1, r_3.2.2.1, r_3.2.2.2.1, r_3.2.2.2.2.1, r_3.2.2.2.2.2)) (ex := ex) (fun z => wX6 a0 a1 a2 a3 a4 a5 a6 a7 a8 a9 ++ (wX4 T a1 S1 ++ (wX1 T a2 S2 ++ (wX1 T a3 S3 ++ (wX0 T a4 z.1 ++ (wX5 T a5 z.2.1 ++ (wX5 T a6 z.2.2.1 ++ (wX5 T a7 z.2.2.2.1 ++ (wX5 T a8 z.2.2.2.2 ++ wX3 T a9 S9))))))))) C hr dX6_width_59 h rfl
            · refine z_aload_n C dX6_width_36 rfl 0 rfl 37 rfl ?_
              refine z_get C (in_X6_width_X6) 0 rfl rfl 1 (by decide) (List.mem_of_getElem? (i := 1) rfl) rfl rfl dX6_width_37 40 rfl ?_
              refine z_aload C dX6_width_40 4 rfl 42 rfl ?_
              refine z_get C (in_X6_width_X5) 29 rfl rfl 3 (by decide) (List.mem_of_getElem? (i := 3) rfl) rfl rfl dX6_width_42 45 rfl ?_
              refine z_iload_n C dX6_width_45 rfl 2 rfl 46 rfl ?_
              refine z_iload_n C dX6_width_46 rfl 3 rfl 47 rfl ?_
              refine z_callR C ([]) (fun v h => c_X6_cellOf l D T    v2 v3 v h) ⟨rfl, rfl⟩ (z_cwS C 2 gX6_width_X6_cellOf rfl dd_X6_cellOf ⟨(Nat.le_of_ble_eq_true rfl), (Nat.le_of_ble_eq_true rfl)⟩) (hD.zaddr rfl) [] rfl rfl (fun h => absurd h (by decide)) (fun _ => rfl) rfl (Nat.le_of_ble_eq_true rfl) dX6_width_47 50 rfl h (fun r_10 h => ?_)
              refine z_iald C 30 rfl rfl dX6_width_50 51 rfl h (fun h => ?_)
              refine z_callR C (wX1 T a2 S2) (fun v h => c_X1_amountOf l D T a2  S2 (r_3.2.2.2.2.2 3 (Int32.toNatClampNeg r_10)) v h) ⟨rfl, rfl⟩ (z_cwV C 1 gX6_width_X1_amountOf rfl rfl dd_X1_amountOf ⟨(Nat.le_of_ble_eq_true rfl), (Nat.le_of_ble_eq_true rfl)⟩) (hD.zaddr rfl) [3, 4, 5, 6, 7] rfl rfl (fun _ => ⟨a2 99, [.int (r_3.2.2.2.2.2 3 (Int32.toNatClampNeg r_10))], 1, 0, _, _, rfl, rfl, rfl, rfl, rfl⟩) (fun h => absurd rfl h) rfl (Nat.le_of_ble_eq_true rfl) dX6_width_51 54 rfl h (fun r_11 h => ?_)
              refine z_goto C 59 dX6_width_54 (by decide) ?_
              exact z_iretW (x := (r_3.2.1, r_3.2.2.1, r_3.2.2.2.1, r_3.2.2.2.2.1, r_3.2.2.2.2.2)) (ex := ex) (fun z => wX6 a0 a1 a2 a3 a4 a5 a6 a7 a8 a9 ++ (wX4 T a1 S1 ++ (wX1 T a2 S2 ++ (wX1 T a3 S3 ++ (wX0 T a4 z.1 ++ (wX5 T a5 z.2.1 ++ (wX5 T a6 z.2.2.1 ++ (wX5 T a7 z.2.2.2.1 ++ (wX5 T a8 z.2.2.2.2 ++ wX3 T a9 S9))))))))) C hr dX6_width_59 h rfl
    · refine z_iconst C (-1) dX6_width_19 (by decide) 20 rfl ?_
      exact z_iretW (x := (S4, S5, S6, S7, S8)) (ex := ex) (fun z => wX6 a0 a1 a2 a3 a4 a5 a6 a7 a8 a9 ++ (wX4 T a1 S1 ++ (wX1 T a2 S2 ++ (wX1 T a3 S3 ++ (wX0 T a4 z.1 ++ (wX5 T a5 z.2.1 ++ (wX5 T a6 z.2.2.1 ++ (wX5 T a7 z.2.2.2.1 ++ (wX5 T a8 z.2.2.2.2 ++ wX3 T a9 S9))))))))) C hr dX6_width_20 h rfl

end
