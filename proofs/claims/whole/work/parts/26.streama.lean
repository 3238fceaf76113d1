/-! StreamTree.feed (IIIII)I -/
section
variable {p : Program} {l : Launch} {e : Env} {R : Room} {s : State} {m : MethodId} {args : Array Value} {below : List Frame} {meth : Method} {c : Code} {Q : State → Prop} {A : Nat → Prop} {D : va_G} {T : Nat → ClassId} {a0 : Nat → Nat} {a1 : Nat → Nat} {a2 : Nat → Nat} {a3 : Nat → Nat} {a4 : Nat → Nat} {a5 : Nat → Nat} {a6 : Nat → Nat} {a7 : Nat → Nat} {a8 : Nat → Nat} {a9 : Nat → Nat}
theorem in_X6_feed_X4 : ∀ w ∈ u_ws RX4 TX4 8, w ∈ wsX6_feed := fun _ h => (List.mem_cons_of_mem _ (List.mem_append_right _ h))
theorem in_X6_feed_X6 : ∀ w ∈ u_ws RX6 TX6 9, w ∈ wsX6_feed := fun _ h => (List.mem_cons_of_mem _ (List.mem_append_left _ (List.mem_append_right _ h)))
def f_X6_feed (S1 : Nat → Nat → Int32) (S2 : Nat → Nat → Int32) (S3 : Nat → Nat → Int32) (S4 : Nat → Nat → Int32) (S5 : Nat → Nat → Int32) (S6 : Nat → Nat → Int32) (S7 : Nat → Nat → Int32) (S8 : Nat → Nat → Int32) (S9 : Nat → Nat → Int32) (v1 : Int32) (v2 : Int32) (v3 : Int32) (v4 : Int32) (v5 : Int32) : Option (Int32 × (Nat → Nat → Int32)) := if (S1 0 0) ≤ 480 then ((f_X4_putNumber S1 v1).bind fun r_1 => (f_X4_putNumber r_1 v2).bind fun r_2 => (f_X4_putNumber r_2 v3).bind fun r_3 => (f_X4_putNumber r_3 v4).bind fun r_4 => (f_X4_putNumber r_4 v5).bind fun r_5 => some ((r_5 0 0), r_5)) else (some ((-1), S1))
theorem dd_X6_feed : RX6 ≠ "java/lang/invoke/MethodHandle" ∧ RX6 ≠ "java/lang/invoke/VarHandle" ∧ (parseMethodDescriptor yX6_feed.desc).map (fun d => d.parameters.length) = some 5 := by decide +kernel
set_option maxHeartbeats 4000000 in
set_option maxRecDepth 100000 in
theorem c_X6_feed (l : Launch) (D : va_G) (T : Nat → ClassId) (a0 : Nat → Nat) (a1 : Nat → Nat) (a2 : Nat → Nat) (a3 : Nat → Nat) (a4 : Nat → Nat) (a5 : Nat → Nat) (a6 : Nat → Nat) (a7 : Nat → Nat) (a8 : Nat → Nat) (a9 : Nat → Nat) (S1 : Nat → Nat → Int32) (S2 : Nat → Nat → Int32) (S3 : Nat → Nat → Int32) (S4 : Nat → Nat → Int32) (S5 : Nat → Nat → Int32) (S6 : Nat → Nat → Int32) (S7 : Nat → Nat → Int32) (S8 : Nat → Nat → Int32) (S9 : Nat → Nat → Int32) (v1 : Int32) (v2 : Int32) (v3 : Int32) (v4 : Int32) (v5 : Int32) (ex : Int32 × (Nat → Nat → Int32)) (h : f_X6_feed S1 S2 S3 S4 S5 S6 S7 S8 S9 v1 v2 v3 v4 v5 = some ex) : zWI l yX6_feed wsX6_feed ({ frames := 1, cells := 0, slots := 0, locals := 22 } : Room) D T [.ref (a0 99), .int v1, .int v2, .int v3, .int v4, .int v5] (wX6 a0 a1 a2 a3 a4 a5 a6 a7 a8 a9 ++ wX4 T a1 S1 ++ wX1 T a2 S2 ++ wX1 T a3 S3 ++ wX0 T a4 S4 ++ wX5 T a5 S5 ++ wX5 T a6 S6 ++ wX5 T a7 S7 ++ wX5 T a8 S8 ++ wX3 T a9 S9) ex.1 (wX6 a0 a1 a2 a3 a4 a5 a6 a7 a8 a9 ++ wX4 T a1 ex.2 ++ wX1 T a2 S2 ++ wX1 T a3 S3 ++ wX0 T a4 S4 ++ wX5 T a5 S5 ++ wX5 T a6 S6 ++ wX5 T a7 S7 ++ wX5 T a8 S8 ++ wX3 T a9 S9) := by
  refine z_begin (cc := cX6_feed) (nL := 6) (own := RX6) (fr := 1) (lc := 22) (ret := some .int) (by decide) rfl (Nat.le_of_ble_eq_true rfl) (zA (wX6 a0 a1 a2 a3 a4 a5 a6 a7 a8 a9 ++ wX4 T a1 S1 ++ wX1 T a2 S2 ++ wX1 T a3 S3 ++ wX0 T a4 S4 ++ wX5 T a5 S5 ++ wX5 T a6 S6 ++ wX5 T a7 S7 ++ wX5 T a8 S8 ++ wX3 T a9 S9)) rfl [(0, .ref (a0 99)), (1, .int v1), (2, .int v2), (3, .int v3), (4, .int v4), (5, .int v5)] rfl ⟨rfl, rfl⟩ rfl ?_
  intro p e s m args below meth c C hr hD
  have hD := hD.zself
  unfold f_X6_feed at h
  refine z_aload_n C dX6_feed_0 rfl 0 rfl 1 rfl ?_
  refine z_get C (in_X6_feed_X6) 0 rfl rfl 0 (by decide) (List.mem_of_getElem? (i := 1) rfl) rfl rfl dX6_feed_1 4 rfl ?_
  refine z_get C (in_X6_feed_X4) 1 rfl rfl 0 (by decide) (List.mem_of_getElem? (i := 2) rfl) rfl rfl dX6_feed_4 7 rfl ?_
  refine z_sipush C 480 dX6_feed_7 (by decide) 10 rfl ?_
  refine z_icmp_le C 15 dX6_feed_10 (by decide) 13 rfl h (fun h => ?_) (fun h => ?_)
  · refine z_aload_n C dX6_feed_15 rfl 0 rfl 16 rfl ?_
    refine z_get C (in_X6_feed_X6) 0 rfl rfl 0 (by decide) (List.mem_of_getElem? (i := 1) rfl) rfl rfl dX6_feed_16 19 rfl ?_
    refine z_iload_n C dX6_feed_19 rfl 1 rfl 20 rfl ?_
    refine z_callV C (wX4 T a1 S1) (wX6 a0 a1 a2 a3 a4 a5 a6 a7 a8 a9 ++ wX1 T a2 S2 ++ wX1 T a3 S3 ++ wX0 T a4 S4 ++ wX5 T a5 S5 ++ wX5 T a6 S6 ++ wX5 T a7 S7 ++ wX5 T a8 S8 ++ wX3 T a9 S9) (fun z => wX4 T a1 z) (fun z => wX6 a0 a1 a2 a3 a4 a5 a6 a7 a8 a9 ++ wX4 T a1 z ++ wX1 T a2 S2 ++ wX1 T a3 S3 ++ wX0 T a4 S4 ++ wX5 T a5 S5 ++ wX5 T a6 S6 ++ wX5 T a7 S7 ++ wX5 T a8 S8 ++ wX3 T a9 S9) (fun z h => c_X4_putNumber l D T a1  S1 v1 z h) ⟨rfl, rfl⟩ (z_cwV C 1 gX6_feed_X4_putNumber rfl rfl dd_X4_putNumber ⟨(Nat.le_of_ble_eq_true rfl), (Nat.le_of_ble_eq_true rfl)⟩) (hD.zaddr rfl) [1, 2] [0, 3, 4, 5, 6, 7, 8, 9, 10, 11, 12, 13, 14, 15, 16, 17, 18, 19, 20, 21, 22, 23, 24, 25, 26, 27, 28, 29, 30, 31, 32, 33] [0, 32, 33, 1, 2, 3, 4, 5, 6, 7, 8, 9, 10, 11, 12, 13, 14, 15, 16, 17, 18, 19, 20, 21, 22, 23, 24, 25, 26, 27, 28, 29, 30, 31] rfl rfl rfl (by decide) (fun _ => rfl) (fun _ => ⟨a1 99, [.int v1], 3, 0, _, _, rfl, rfl, rfl, rfl, rfl⟩) (fun h => absurd rfl h) rfl (Nat.le_of_ble_eq_true rfl) dX6_feed_20 23 rfl h (fun r_1 h => ?_)
    refine z_aload_n C dX6_feed_23 rfl 0 rfl 24 rfl ?_
    refine z_get C (in_X6_feed_X6) 0 rfl rfl 0 (by decide) (List.mem_of_getElem? (i := 1) rfl) rfl rfl dX6_feed_24 27 rfl ?_
    refine z_iload_n C dX6_feed_27 rfl 2 rfl 28 rfl ?_
    refine z_callV C (wX4 T a1 r_1) (wX6 a0 a1 a2 a3 a4 a5 a6 a7 a8 a9 ++ wX1 T a2 S2 ++ wX1 T a3 S3 ++ wX0 T a4 S4 ++ wX5 T a5 S5 ++ wX5 T a6 S6 ++ wX5 T a7 S7 ++ wX5 T a8 S8 ++ wX3 T a9 S9) (fun z => wX4 T a1 z) (fun z => wX6 a0 a1 a2 a3 a4 a5 a6 a7 a8 a9 ++ wX4 T a1 z ++ wX1 T a2 S2 ++ wX1 T a3 S3 ++ wX0 T a4 S4 ++ wX5 T a5 S5 ++ wX5 T a6 S6 ++ wX5 T a7 S7 ++ wX5 T a8 S8 ++ wX3 T a9 S9) (fun z h => c_X4_putNumber l D T a1  r_1 v2 z h) ⟨rfl, rfl⟩ (z_cwV C 1 gX6_feed_X4_putNumber rfl rfl dd_X4_putNumber ⟨(Nat.le_of_ble_eq_true rfl), (Nat.le_of_ble_eq_true rfl)⟩) (hD.zaddr rfl) [1, 2] [0, 3, 4, 5, 6, 7, 8, 9, 10, 11, 12, 13, 14, 15, 16, 17, 18, 19, 20, 21, 22, 23, 24, 25, 26, 27, 28, 29, 30, 31, 32, 33] [0, 32, 33, 1, 2, 3, 4, 5, 6, 7, 8, 9, 10, 11, 12, 13, 14, 15, 16, 17, 18, 19, 20, 21, 22, 23, 24, 25, 26, 27, 28, 29, 30, 31] rfl rfl rfl (by decide) (fun _ => rfl) (fun _ => ⟨a1 99, [.int v2], 3, 0, _, _, rfl, rfl, rfl, rfl, rfl⟩) (fun h => absurd rfl h) rfl (Nat.le_of_ble_eq_true rfl) dX6_feed_28 31 rfl h (fun r_2 h => ?_)
    refine z_aload_n C dX6_feed_31 rfl 0 rfl 32 rfl ?_
    refine z_get C (in_X6_feed_X6) 0 rfl rfl 0 (by decide) (List.mem_of_getElem? (i := 1) rfl) rfl rfl dX6_feed_32 35 rfl ?_
    refine z_iload_n C dX6_feed_35 rfl 3 rfl 36 rfl ?_
    refine z_callV C (wX4 T a1 r_2) (wX6 a0 a1 a2 a3 a4 a5 a6 a7 a8 a9 ++ wX1 T a2 S2 ++ wX1 T a3 S3 ++ wX0 T a4 S4 ++ wX5 T a5 S5 ++ wX5 T a6 S6 ++ wX5 T a7 S7 ++ wX5 T a8 S8 ++ wX3 T a9 S9) (fun z => wX4 T a1 z) (fun z => wX6 a0 a1 a2 a3 a4 a5 a6 a7 a8 a9 ++ wX4 T a1 z ++ wX1 T a2 S2 ++ wX1 T a3 S3 ++ wX0 T a4 S4 ++ wX5 T a5 S5 ++ wX5 T a6 S6 ++ wX5 T a7 S7 ++ wX5 T a8 S8 ++ wX3 T a9 S9) (fun z h => c_X4_putNumber l D T a1  r_2 v3 z h) ⟨rfl, rfl⟩ (z_cwV C 1 gX6_feed_X4_putNumber rfl rfl dd_X4_putNumber ⟨(Nat.le_of_ble_eq_true rfl), (Nat.le_of_ble_eq_true rfl)⟩) (hD.zaddr rfl) [1, 2] [0, 3, 4, 5, 6, 7, 8, 9, 10, 11, 12, 13, 14, 15, 16, 17, 18, 19, 20, 21, 22, 23, 24, 25, 26, 27, 28, 29, 30, 31, 32, 33] [0, 32, 33, 1, 2, 3, 4, 5, 6, 7, 8, 9, 10, 11, 12, 13, 14, 15, 16, 17, 18, 19, 20, 21, 22, 23, 24, 25, 26, 27, 28, 29, 30, 31] rfl rfl rfl (by decide) (fun _ => rfl) (fun _ => ⟨a1 99, [.int v3], 3, 0, _, _, rfl, rfl, rfl, rfl, rfl⟩) (fun h => absurd rfl h) rfl (Nat.le_of_ble_eq_true rfl) dX6_feed_36 39 rfl h (fun r_3 h => ?_)
    refine z_aload_n C dX6_feed_39 rfl 0 rfl 40 rfl ?_
    refine z_get C (in_X6_feed_X6) 0 rfl rfl 0 (by decide) (List.mem_of_getElem? (i := 1) rfl) rfl rfl dX6_feed_40 43 rfl ?_
    refine z_iload C dX6_feed_43 4 rfl 45 rfl ?_
    refine z_callV C (wX4 T a1 r_3) (wX6 a0 a1 a2 a3 a4 a5 a6 a7 a8 a9 ++ wX1 T a2 S2 ++ wX1 T a3 S3 ++ wX0 T a4 S4 ++ wX5 T a5 S5 ++ wX5 T a6 S6 ++ wX5 T a7 S7 ++ wX5 T a8 S8 ++ wX3 T a9 S9) (fun z => wX4 T a1 z) (fun z => wX6 a0 a1 a2 a3 a4 a5 a6 a7 a8 a9 ++ wX4 T a1 z ++ wX1 T a2 S2 ++ wX1 T a3 S3 ++ wX0 T a4 S4 ++ wX5 T a5 S5 ++ wX5 T a6 S6 ++ wX5 T a7 S7 ++ wX5 T a8 S8 ++ wX3 T a9 S9) (fun z h => c_X4_putNumber l D T a1  r_3 v4 z h) ⟨rfl, rfl⟩ (z_cwV C 1 gX6_feed_X4_putNumber rfl rfl dd_X4_putNumber ⟨(Nat.le_of_ble_eq_true rfl), (Nat.le_of_ble_eq_true rfl)⟩) (hD.zaddr rfl) [1, 2] [0, 3, 4, 5, 6, 7, 8, 9, 10, 11, 12, 13, 14, 15, 16, 17, 18, 19, 20, 21, 22, 23, 24, 25, 26, 27, 28, 29, 30, 31, 32, 33] [0, 32, 33, 1, 2, 3, 4, 5, 6, 7, 8, 9, 10, 11, 12, 13, 14, 15, 16, 17, 18, 19, 20, 21, 22, 23, 24, 25, 26, 27, 28, 29, 30, 31] rfl rfl rfl (by decide) (fun _ => rfl) (fun _ => ⟨a1 99, [.int v4], 3, 0, _, _, rfl, rfl, rfl, rfl, rfl⟩) (fun h => absurd rfl h) rfl (Nat.le_of_ble_eq_true rfl) dX6_feed_45 48 rfl h (fun r_4 h => ?_)
    refine z_aload_n C dX6_feed_48 rfl 0 rfl 49 rfl ?_
    refine z_get C (in_X6_feed_X6) 0 rfl rfl 0 (by decide) (List.mem_of_getElem? (i := 1) rfl) rfl rfl dX6_feed_49 52 rfl ?_
    refine z_iload C dX6_feed_52 5 rfl 54 rfl ?_
    refine z_callV C (wX4 T a1 r_4) (wX6 a0 a1 a2 a3 a4 a5 a6 a7 a8 a9 ++ wX1 T a2 S2 ++ wX1 T a3 S3 ++ wX0 T a4 S4 ++ wX5 T a5 S5 ++ wX5 T a6 S6 ++ wX5 T a7 S7 ++ wX5 T a8 S8 ++ wX3 T a9 S9) (fun z => wX4 T a1 z) (fun z => wX6 a0 a1 a2 a3 a4 a5 a6 a7 a8 a9 ++ wX4 T a1 z ++ wX1 T a2 S2 ++ wX1 T a3 S3 ++ wX0 T a4 S4 ++ wX5 T a5 S5 ++ wX5 T a6 S6 ++ wX5 T a7 S7 ++ wX5 T a8 S8 ++ wX3 T a9 S9) (fun z h => c_X4_putNumber l D T a1  r_4 v5 z h) ⟨rfl, rfl⟩ (z_cwV C 1 gX6_feed_X4_putNumber rfl rfl dd_X4_putNumber ⟨(Nat.le_of_ble_eq_true rfl), (Nat.le_of_ble_eq_true rfl)⟩) (hD.zaddr rfl) [1, 2] [0, 3, 4, 5, 6, 7, 8, 9, 10, 11, 12, 13, 14, 15, 16, 17, 18, 19, 20, 21, 22, 23, 24, 25, 26, 27, 28, 29, 30, 31, 32, 33] [0, 32, 33, 1, 2, 3, 4, 5, 6, 7, 8, 9, 10, 11, 12, 13, 14, 15, 16, 17, 18, 19, 20, 21, 22, 23, 24, 25, 26, 27, 28, 29, 30, 31] rfl rfl rfl (by decide) (fun _ => rfl) (fun _ => ⟨a1 99, [.int v5], 3, 0, _, _, rfl, rfl, rfl, rfl, rfl⟩) (fun h => absurd rfl h) rfl (Nat.le_of_ble_eq_true rfl) dX6_feed_54 57 rfl h (fun r_5 h => ?_)
    refine z_aload_n C dX6_feed_57 rfl 0 rfl 58 rfl ?_
    refine z_get C (in_X6_feed_X6) 0 rfl rfl 0 (by decide) (List.mem_of_getElem? (i := 1) rfl) rfl rfl dX6_feed_58 61 rfl ?_
    refine z_get C (in_X6_feed_X4) 1 rfl rfl 0 (by decide) (List.mem_of_getElem? (i := 2) rfl) rfl rfl dX6_feed_61 64 rfl ?_
    exact z_iretW (fun z => wX6 a0 a1 a2 a3 a4 a5 a6 a7 a8 a9 ++ wX4 T a1 z ++ wX1 T a2 S2 ++ wX1 T a3 S3 ++ wX0 T a4 S4 ++ wX5 T a5 S5 ++ wX5 T a6 S6 ++ wX5 T a7 S7 ++ wX5 T a8 S8 ++ wX3 T a9 S9) C hr dX6_feed_64 h rfl
  · refine z_iconst C (-1) dX6_feed_13 (by decide) 14 rfl ?_
    exact z_iretW (fun z => wX6 a0 a1 a2 a3 a4 a5 a6 a7 a8 a9 ++ wX4 T a1 z ++ wX1 T a2 S2 ++ wX1 T a3 S3 ++ wX0 T a4 S4 ++ wX5 T a5 S5 ++ wX5 T a6 S6 ++ wX5 T a7 S7 ++ wX5 T a8 S8 ++ wX3 T a9 S9) C hr dX6_feed_14 h rfl

end
/-! StreamTree.isWithin (III)Z -/
section
variable {p : Program} {l : Launch} {e : Env} {R : Room} {s : State} {m : MethodId} {args : Array Value} {below : List Frame} {meth : Method} {c : Code} {Q : State → Prop} {A : Nat → Prop} {D : va_G} {T : Nat → ClassId} 
def f_X6_isWithin  (v0 : Int32) (v1 : Int32) (v2 : Int32) : Option (Int32) := if v0 < v1 then (some 0) else (if v2 < v0 then (some 0) else (some 1))
theorem dd_X6_isWithin : RX6 ≠ "java/lang/invoke/MethodHandle" ∧ RX6 ≠ "java/lang/invoke/VarHandle" ∧ (parseMethodDescriptor yX6_isWithin.desc).map (fun d => d.parameters.length) = some 3 := by decide +kernel
set_option maxHeartbeats 4000000 in
set_option maxRecDepth 100000 in
theorem c_X6_isWithin (l : Launch) (D : va_G) (T : Nat → ClassId)   (v0 : Int32) (v1 : Int32) (v2 : Int32) (ex : Int32) (h : f_X6_isWithin v0 v1 v2 = some ex) : zRI l yX6_isWithin wsX6_isWithin ({ frames := 0, cells := 0, slots := 0, locals := 0 } : Room) D T [.int v0, .int v1, .int v2] ([]) ex := by
  refine z_begin (cc := cX6_isWithin) (nL := 3) (own := RX6) (fr := 0) (lc := 0) (ret := some .boolean) (by decide) rfl (Nat.le_of_ble_eq_true rfl) (fun _ => False) rfl [(0, .int v0), (1, .int v1), (2, .int v2)] rfl ⟨rfl, rfl⟩ rfl ?_
  intro p e s m args below meth c C hr hD
  unfold f_X6_isWithin at h
  refine z_iload_n C dX6_isWithin_0 rfl 0 rfl 1 rfl ?_
  refine z_iload_n C dX6_isWithin_1 rfl 1 rfl 2 rfl ?_
  refine z_icmp_lt C 14 dX6_isWithin_2 (by decide) 5 rfl h (fun h => ?_) (fun h => ?_)
  · refine z_iconst C 0 dX6_isWithin_14 (by decide) 15 rfl ?_
    exact z_zretRc C hr dX6_isWithin_15 (Or.inl rfl) h
  · refine z_iload_n C dX6_isWithin_5 rfl 0 rfl 6 rfl ?_
    refine z_iload_n C dX6_isWithin_6 rfl 2 rfl 7 rfl ?_
    refine z_icmp_gt C 14 dX6_isWithin_7 (by decide) 10 rfl h (fun h => ?_) (fun h => ?_)
    · refine z_iconst C 0 dX6_isWithin_14 (by decide) 15 rfl ?_
      exact z_zretRc C hr dX6_isWithin_15 (Or.inl rfl) h
    · refine z_iconst C 1 dX6_isWithin_10 (by decide) 11 rfl ?_
      refine z_goto C 15 dX6_isWithin_11 (by decide) ?_
      exact z_zretRc C hr dX6_isWithin_15 (Or.inr rfl) h

end
/-! StreamTree.cellOf (II)I -/
section
variable {p : Program} {l : Launch} {e : Env} {R : Room} {s : State} {m : MethodId} {args : Array Value} {below : List Frame} {meth : Method} {c : Code} {Q : State → Prop} {A : Nat → Prop} {D : va_G} {T : Nat → ClassId} 
def f_X6_cellOf  (v0 : Int32) (v1 : Int32) : Option (Int32) := some ((v0 * 24) + v1)
theorem dd_X6_cellOf : RX6 ≠ "java/lang/invoke/MethodHandle" ∧ RX6 ≠ "java/lang/invoke/VarHandle" ∧ (parseMethodDescriptor yX6_cellOf.desc).map (fun d => d.parameters.length) = some 2 := by decide +kernel
set_option maxHeartbeats 4000000 in
set_option maxRecDepth 100000 in
theorem c_X6_cellOf (l : Launch) (D : va_G) (T : Nat → ClassId)   (v0 : Int32) (v1 : Int32) (ex : Int32) (h : f_X6_cellOf v0 v1 = some ex) : zRI l yX6_cellOf wsX6_cellOf ({ frames := 0, cells := 0, slots := 0, locals := 0 } : Room) D T [.int v0, .int v1] ([]) ex := by
  refine z_begin (cc := cX6_cellOf) (nL := 2) (own := RX6) (fr := 0) (lc := 0) (ret := some .int) (by decide) rfl (Nat.le_of_ble_eq_true rfl) (fun _ => False) rfl [(0, .int v0), (1, .int v1)] rfl ⟨rfl, rfl⟩ rfl ?_
  intro p e s m args below meth c C hr hD
  unfold f_X6_cellOf at h
  refine z_iload_n C dX6_cellOf_0 rfl 0 rfl 1 rfl ?_
  refine z_bipush C 24 dX6_cellOf_1 (by decide) 3 rfl ?_
  refine z_imul C dX6_cellOf_3 4 rfl ?_
  refine z_iload_n C dX6_cellOf_4 rfl 1 rfl 5 rfl ?_
  refine z_iadd C dX6_cellOf_5 6 rfl ?_
  exact z_iretR C hr dX6_cellOf_6 h

end
/-! StreamTree.isTreeManner (I)Z -/
section
variable {p : Program} {l : Launch} {e : Env} {R : Room} {s : State} {m : MethodId} {args : Array Value} {below : List Frame} {meth : Method} {c : Code} {Q : State → Prop} {A : Nat → Prop} {D : va_G} {T : Nat → ClassId} 
def f_X6_isTreeManner  (v0 : Int32) : Option (Int32) := (f_X6_isWithin v0 1 4).bind fun r_1 => zbo r_1 (some r_1)
theorem dd_X6_isTreeManner : RX6 ≠ "java/lang/invoke/MethodHandle" ∧ RX6 ≠ "java/lang/invoke/VarHandle" ∧ (parseMethodDescriptor yX6_isTreeManner.desc).map (fun d => d.parameters.length) = some 1 := by decide +kernel
set_option maxHeartbeats 4000000 in
set_option maxRecDepth 100000 in
theorem c_X6_isTreeManner (l : Launch) (D : va_G) (T : Nat → ClassId)   (v0 : Int32) (ex : Int32) (h : f_X6_isTreeManner v0 = some ex) : zRI l yX6_isTreeManner wsX6_isTreeManner ({ frames := 1, cells := 0, slots := 0, locals := 22 } : Room) D T [.int v0] ([]) ex := by
  refine z_begin (cc := cX6_isTreeManner) (nL := 1) (own := RX6) (fr := 1) (lc := 22) (ret := some .boolean) (by decide) rfl (Nat.le_of_ble_eq_true rfl) (fun _ => False) rfl [(0, .int v0)] rfl ⟨rfl, rfl⟩ rfl ?_
  intro p e s m args below meth c C hr hD
  unfold f_X6_isTreeManner at h
  refine z_iload_n C dX6_isTreeManner_0 rfl 0 rfl 1 rfl ?_
  refine z_iconst C 1 dX6_isTreeManner_1 (by decide) 2 rfl ?_
  refine z_iconst C 4 dX6_isTreeManner_2 (by decide) 3 rfl ?_
  refine z_callR C ([]) (fun v h => c_X6_isWithin l D T    v0 1 4 v h) ⟨rfl, rfl⟩ (z_cwS C 3 gX6_isTreeManner_X6_isWithin rfl dd_X6_isWithin ⟨(Nat.le_of_ble_eq_true rfl), (Nat.le_of_ble_eq_true rfl)⟩) (hD.zaddr rfl) [] rfl rfl (fun h => absurd h (by decide)) (fun _ => rfl) rfl (Nat.le_of_ble_eq_true rfl) dX6_isTreeManner_3 6 rfl h (fun r_1 h => ?_)
  exact z_zretR C hr dX6_isTreeManner_6 h

end
/-! StreamTree.hasPlace (I)Z -/
section
variable {p : Program} {l : Launch} {e : Env} {R : Room} {s : State} {m : MethodId} {args : Array Value} {below : List Frame} {meth : Method} {c : Code} {Q : State → Prop} {A : Nat → Prop} {D : va_G} {T : Nat → ClassId} {a0 : Nat → Nat} {a1 : Nat → Nat} {a2 : Nat → Nat} {a3 : Nat → Nat} {a4 : Nat → Nat} {a5 : Nat → Nat} {a6 : Nat → Nat} {a7 : Nat → Nat} {a8 : Nat → Nat} {a9 : Nat → Nat}
theorem in_X6_hasPlace_X1 : ∀ w ∈ u_ws RX1 TX1 10, w ∈ wsX6_hasPlace := fun _ h => (List.mem_cons_of_mem _ (List.mem_append_right _ h))
theorem in_X6_hasPlace_X6 : ∀ w ∈ u_ws RX6 TX6 9, w ∈ wsX6_hasPlace := fun _ h => (List.mem_cons_of_mem _ (List.mem_append_left _ (List.mem_append_right _ h)))
def f_X6_hasPlace (S1 : Nat → Nat → Int32) (S2 : Nat → Nat → Int32) (S3 : Nat → Nat → Int32) (S4 : Nat → Nat → Int32) (S5 : Nat → Nat → Int32) (S6 : Nat → Nat → Int32) (S7 : Nat → Nat → Int32) (S8 : Nat → Nat → Int32) (S9 : Nat → Nat → Int32) (v1 : Int32) : Option (Int32) := if v1 < 0 then (some 0) else (if (S2 5 0) ≤ v1 then (some 0) else (some 1))
theorem dd_X6_hasPlace : RX6 ≠ "java/lang/invoke/MethodHandle" ∧ RX6 ≠ "java/lang/invoke/VarHandle" ∧ (parseMethodDescriptor yX6_hasPlace.desc).map (fun d => d.parameters.length) = some 1 := by decide +kernel
set_option maxHeartbeats 4000000 in
set_option maxRecDepth 100000 in
theorem c_X6_hasPlace (l : Launch) (D : va_G) (T : Nat → ClassId) (a0 : Nat → Nat) (a1 : Nat → Nat) (a2 : Nat → Nat) (a3 : Nat → Nat) (a4 : Nat → Nat) (a5 : Nat → Nat) (a6 : Nat → Nat) (a7 : Nat → Nat) (a8 : Nat → Nat) (a9 : Nat → Nat) (S1 : Nat → Nat → Int32) (S2 : Nat → Nat → Int32) (S3 : Nat → Nat → Int32) (S4 : Nat → Nat → Int32) (S5 : Nat → Nat → Int32) (S6 : Nat → Nat → Int32) (S7 : Nat → Nat → Int32) (S8 : Nat → Nat → Int32) (S9 : Nat → Nat → Int32) (v1 : Int32) (ex : Int32) (h : f_X6_hasPlace S1 S2 S3 S4 S5 S6 S7 S8 S9 v1 = some ex) : zRI l yX6_hasPlace wsX6_hasPlace ({ frames := 0, cells := 0, slots := 0, locals := 0 } : Room) D T [.ref (a0 99), .int v1] (wX6 a0 a1 a2 a3 a4 a5 a6 a7 a8 a9 ++ wX4 T a1 S1 ++ wX1 T a2 S2 ++ wX1 T a3 S3 ++ wX0 T a4 S4 ++ wX5 T a5 S5 ++ wX5 T a6 S6 ++ wX5 T a7 S7 ++ wX5 T a8 S8 ++ wX3 T a9 S9) ex := by
  refine z_begin (cc := cX6_hasPlace) (nL := 2) (own := RX6) (fr := 0) (lc := 0) (ret := some .boolean) (by decide) rfl (Nat.le_of_ble_eq_true rfl) (fun _ => False) rfl [(0, .ref (a0 99)), (1, .int v1)] rfl ⟨rfl, rfl⟩ rfl ?_
  intro p e s m args below meth c C hr hD
  unfold f_X6_hasPlace at h
  refine z_iload_n C dX6_hasPlace_0 rfl 1 rfl 1 rfl ?_
  refine z_if_lt C 19 dX6_hasPlace_1 (by decide) 4 rfl h (fun h => ?_) (fun h => ?_)
  · refine z_iconst C 0 dX6_hasPlace_19 (by decide) 20 rfl ?_
    exact z_zretRc C hr dX6_hasPlace_20 (Or.inl rfl) h
  · refine z_iload_n C dX6_hasPlace_4 rfl 1 rfl 5 rfl ?_
    refine z_aload_n C dX6_hasPlace_5 rfl 0 rfl 6 rfl ?_
    refine z_get C (in_X6_hasPlace_X6) 0 rfl rfl 1 (by decide) (List.mem_of_getElem? (i := 1) rfl) rfl rfl dX6_hasPlace_6 9 rfl ?_
    refine z_get C (in_X6_hasPlace_X1) 3 rfl rfl 5 (by decide) (List.mem_of_getElem? (i := 2) rfl) rfl rfl dX6_hasPlace_9 12 rfl ?_
    refine z_icmp_ge C 19 dX6_hasPlace_12 (by decide) 15 rfl h (fun h => ?_) (fun h => ?_)
    · refine z_iconst C 0 dX6_hasPlace_19 (by decide) 20 rfl ?_
      exact z_zretRc C hr dX6_hasPlace_20 (Or.inl rfl) h
    · refine z_iconst C 1 dX6_hasPlace_15 (by decide) 16 rfl ?_
      refine z_goto C 20 dX6_hasPlace_16 (by decide) ?_
      exact z_zretRc C hr dX6_hasPlace_20 (Or.inr rfl) h

end
/-! StreamTree.forgetDrawings ()V -/
section
variable {p : Program} {l : Launch} {e : Env} {R : Room} {s : State} {m : MethodId} {args : Array Value} {below : List Frame} {meth : Method} {c : Code} {Q : State → Prop} {A : Nat → Prop} {D : va_G} {T : Nat → ClassId} {a0 : Nat → Nat} {a1 : Nat → Nat} {a2 : Nat → Nat} {a3 : Nat → Nat} {a4 : Nat → Nat} {a5 : Nat → Nat} {a6 : Nat → Nat} {a7 : Nat → Nat} {a8 : Nat → Nat} {a9 : Nat → Nat}
theorem in_X6_forgetDrawings_X5 : ∀ w ∈ u_ws RX5 TX5 5, w ∈ wsX6_forgetDrawings := fun _ h => (List.mem_cons_of_mem _ (List.mem_append_right _ h))
theorem in_X6_forgetDrawings_X0 : ∀ w ∈ u_ws RX0 TX0 11, w ∈ wsX6_forgetDrawings := fun _ h => (List.mem_cons_of_mem _ (List.mem_append_left _ (List.mem_append_right _ h)))
theorem in_X6_forgetDrawings_X6 : ∀ w ∈ u_ws RX6 TX6 9, w ∈ wsX6_forgetDrawings := fun _ h => (List.mem_cons_of_mem _ (List.mem_append_left _ (List.mem_append_left _ (List.mem_append_right _ h))))
def f_X6_forgetDrawings (S1 : Nat → Nat → Int32) (S2 : Nat → Nat → Int32) (S3 : Nat → Nat → Int32) (S4 : Nat → Nat → Int32) (S5 : Nat → Nat → Int32) (S6 : Nat → Nat → Int32) (S7 : Nat → Nat → Int32) (S8 : Nat → Nat → Int32) (S9 : Nat → Nat → Int32)  : Option ((Nat → Nat → Int32) × (Nat → Nat → Int32) × (Nat → Nat → Int32) × (Nat → Nat → Int32) × (Nat → Nat → Int32)) := zlet (zst S4 0 0 0) fun S4_1 => zlet (zst S5 0 0 0) fun S5_2 => zlet (zst S6 0 0 0) fun S6_3 => zlet (zst S7 0 0 0) fun S7_4 => zlet (zst S8 0 0 0) fun S8_5 => some (S4_1, S5_2, S6_3, S7_4, S8_5)
theorem dd_X6_forgetDrawings : RX6 ≠ "java/lang/invoke/MethodHandle" ∧ RX6 ≠ "java/lang/invoke/VarHandle" ∧ (parseMethodDescriptor yX6_forgetDrawings.desc).map (fun d => d.parameters.length) = some 0 := by decide +kernel
set_option maxHeartbeats 4000000 in
set_option maxRecDepth 100000 in
theorem c_X6_forgetDrawings (l : Launch) (D : va_G) (T : Nat → ClassId) (a0 : Nat → Nat) (a1 : Nat → Nat) (a2 : Nat → Nat) (a3 : Nat → Nat) (a4 : Nat → Nat) (a5 : Nat → Nat) (a6 : Nat → Nat) (a7 : Nat → Nat) (a8 : Nat → Nat) (a9 : Nat → Nat) (S1 : Nat → Nat → Int32) (S2 : Nat → Nat → Int32) (S3 : Nat → Nat → Int32) (S4 : Nat → Nat → Int32) (S5 : Nat → Nat → Int32) (S6 : Nat → Nat → Int32) (S7 : Nat → Nat → Int32) (S8 : Nat → Nat → Int32) (S9 : Nat → Nat → Int32)  (ex : (Nat → Nat → Int32) × (Nat → Nat → Int32) × (Nat → Nat → Int32) × (Nat → Nat → Int32) × (Nat → Nat → Int32)) (h : f_X6_forgetDrawings S1 S2 S3 S4 S5 S6 S7 S8 S9 = some ex) : zWV l yX6_forgetDrawings wsX6_forgetDrawings ({ frames := 0, cells := 0, slots := 0, locals := 0 } : Room) D T [.ref (a0 99)] (wX6 a0 a1 a2 a3 a4 a5 a6 a7 a8 a9 ++ wX4 T a1 S1 ++ wX1 T a2 S2 ++ wX1 T a3 S3 ++ wX0 T a4 S4 ++ wX5 T a5 S5 ++ wX5 T a6 S6 ++ wX5 T a7 S7 ++ wX5 T a8 S8 ++ wX3 T a9 S9) (wX6 a0 a1 a2 a3 a4 a5 a6 a7 a8 a9 ++ wX4 T a1 S1 ++ wX1 T a2 S2 ++ wX1 T a3 S3 ++ wX0 T a4 ex.1 ++ wX5 T a5 ex.2.1 ++ wX5 T a6 ex.2.2.1 ++ wX5 T a7 ex.2.2.2.1 ++ wX5 T a8 ex.2.2.2.2 ++ wX3 T a9 S9) := by
  refine z_begin (cc := cX6_forgetDrawings) (nL := 1) (own := RX6) (fr := 0) (lc := 0) (ret := none) (by decide) rfl (Nat.le_of_ble_eq_true rfl) (zA (wX6 a0 a1 a2 a3 a4 a5 a6 a7 a8 a9 ++ wX4 T a1 S1 ++ wX1 T a2 S2 ++ wX1 T a3 S3 ++ wX0 T a4 S4 ++ wX5 T a5 S5 ++ wX5 T a6 S6 ++ wX5 T a7 S7 ++ wX5 T a8 S8 ++ wX3 T a9 S9)) rfl [(0, .ref (a0 99))] rfl ⟨rfl, rfl⟩ rfl ?_
  intro p e s m args below meth c C hr hD
  have hD := hD.zself
  unfold f_X6_forgetDrawings at h
  refine z_aload_n C dX6_forgetDrawings_0 rfl 0 rfl 1 rfl ?_
  refine z_get C (in_X6_forgetDrawings_X6) 0 rfl rfl 3 (by decide) (List.mem_of_getElem? (i := 1) rfl) rfl rfl dX6_forgetDrawings_1 4 rfl ?_
  refine z_iconst C 0 dX6_forgetDrawings_4 (by decide) 5 rfl ?_
  refine z_put (ty := .boolean) C (fun z => wX6 a0 a1 a2 a3 a4 a5 a6 a7 a8 a9 ++ wX4 T a1 S1 ++ wX1 T a2 S2 ++ wX1 T a3 S3 ++ wX0 T a4 z ++ wX5 T a5 S5 ++ wX5 T a6 S6 ++ wX5 T a7 S7 ++ wX5 T a8 S8 ++ wX3 T a9 S9) S4 (hD.zaddr rfl) (in_X6_forgetDrawings_X0) tyX0 tyX0_ok nmX0 13 rfl rfl 0 (by decide) (List.mem_of_getElem? (i := 2) rfl) rfl rfl (by decide +kernel) rfl rfl (Nat.le_of_ble_eq_true rfl) rfl dX6_forgetDrawings_5 8 rfl h (fun S4_1 h => ?_)
  refine z_aload_n C dX6_forgetDrawings_8 rfl 0 rfl 9 rfl ?_
  refine z_get C (in_X6_forgetDrawings_X6) 0 rfl rfl 4 (by decide) (List.mem_of_getElem? (i := 3) rfl) rfl rfl dX6_forgetDrawings_9 12 rfl ?_
  refine z_iconst C 0 dX6_forgetDrawings_12 (by decide) 13 rfl ?_
  refine z_put (ty := .boolean) C (fun z => wX6 a0 a1 a2 a3 a4 a5 a6 a7 a8 a9 ++ wX4 T a1 S1 ++ wX1 T a2 S2 ++ wX1 T a3 S3 ++ wX0 T a4 S4_1 ++ wX5 T a5 z ++ wX5 T a6 S6 ++ wX5 T a7 S7 ++ wX5 T a8 S8 ++ wX3 T a9 S9) S5 (hD.zaddr rfl) (in_X6_forgetDrawings_X5) tyX5 tyX5_ok nmX5 20 rfl rfl 0 (by decide) (List.mem_of_getElem? (i := 4) rfl) rfl rfl (by decide +kernel) rfl rfl (Nat.le_of_ble_eq_true rfl) rfl dX6_forgetDrawings_13 16 rfl h (fun S5_2 h => ?_)
  refine z_aload_n C dX6_forgetDrawings_16 rfl 0 rfl 17 rfl ?_
  refine z_get C (in_X6_forgetDrawings_X6) 0 rfl rfl 5 (by decide) (List.mem_of_getElem? (i := 5) rfl) rfl rfl dX6_forgetDrawings_17 20 rfl ?_
  refine z_iconst C 0 dX6_forgetDrawings_20 (by decide) 21 rfl ?_
  refine z_put (ty := .boolean) C (fun z => wX6 a0 a1 a2 a3 a4 a5 a6 a7 a8 a9 ++ wX4 T a1 S1 ++ wX1 T a2 S2 ++ wX1 T a3 S3 ++ wX0 T a4 S4_1 ++ wX5 T a5 S5_2 ++ wX5 T a6 z ++ wX5 T a7 S7 ++ wX5 T a8 S8 ++ wX3 T a9 S9) S6 (hD.zaddr rfl) (in_X6_forgetDrawings_X5) tyX5 tyX5_ok nmX5 23 rfl rfl 0 (by decide) (List.mem_of_getElem? (i := 4) rfl) rfl rfl (by decide +kernel) rfl rfl (Nat.le_of_ble_eq_true rfl) rfl dX6_forgetDrawings_21 24 rfl h (fun S6_3 h => ?_)
  refine z_aload_n C dX6_forgetDrawings_24 rfl 0 rfl 25 rfl ?_
  refine z_get C (in_X6_forgetDrawings_X6) 0 rfl rfl 6 (by decide) (List.mem_of_getElem? (i := 6) rfl) rfl rfl dX6_forgetDrawings_25 28 rfl ?_
  refine z_iconst C 0 dX6_forgetDrawings_28 (by decide) 29 rfl ?_
  refine z_put (ty := .boolean) C (fun z => wX6 a0 a1 a2 a3 a4 a5 a6 a7 a8 a9 ++ wX4 T a1 S1 ++ wX1 T a2 S2 ++ wX1 T a3 S3 ++ wX0 T a4 S4_1 ++ wX5 T a5 S5_2 ++ wX5 T a6 S6_3 ++ wX5 T a7 z ++ wX5 T a8 S8 ++ wX3 T a9 S9) S7 (hD.zaddr rfl) (in_X6_forgetDrawings_X5) tyX5 tyX5_ok nmX5 26 rfl rfl 0 (by decide) (List.mem_of_getElem? (i := 4) rfl) rfl rfl (by decide +kernel) rfl rfl (Nat.le_of_ble_eq_true rfl) rfl dX6_forgetDrawings_29 32 rfl h (fun S7_4 h => ?_)
  refine z_aload_n C dX6_forgetDrawings_32 rfl 0 rfl 33 rfl ?_
  refine z_get C (in_X6_forgetDrawings_X6) 0 rfl rfl 7 (by decide) (List.mem_of_getElem? (i := 7) rfl) rfl rfl dX6_forgetDrawings_33 36 rfl ?_
  refine z_iconst C 0 dX6_forgetDrawings_36 (by decide) 37 rfl ?_
  refine z_put (ty := .boolean) C (fun z => wX6 a0 a1 a2 a3 a4 a5 a6 a7 a8 a9 ++ wX4 T a1 S1 ++ wX1 T a2 S2 ++ wX1 T a3 S3 ++ wX0 T a4 S4_1 ++ wX5 T a5 S5_2 ++ wX5 T a6 S6_3 ++ wX5 T a7 S7_4 ++ wX5 T a8 z ++ wX3 T a9 S9) S8 (hD.zaddr rfl) (in_X6_forgetDrawings_X5) tyX5 tyX5_ok nmX5 29 rfl rfl 0 (by decide) (List.mem_of_getElem? (i := 4) rfl) rfl rfl (by decide +kernel) rfl rfl (Nat.le_of_ble_eq_true rfl) rfl dX6_forgetDrawings_37 40 rfl h (fun S8_5 h => ?_)
  exact z_vretW (fun z => wX6 a0 a1 a2 a3 a4 a5 a6 a7 a8 a9 ++ wX4 T a1 S1 ++ wX1 T a2 S2 ++ wX1 T a3 S3 ++ wX0 T a4 z.1 ++ wX5 T a5 z.2.1 ++ wX5 T a6 z.2.2.1 ++ wX5 T a7 z.2.2.2.1 ++ wX5 T a8 z.2.2.2.2 ++ wX3 T a9 S9) C hr dX6_forgetDrawings_40 h rfl

end
/-! StreamTree.knownBests ()LStreamTree$Bests; -/
section
variable {p : Program} {l : Launch} {e : Env} {R : Room} {s : State} {m : MethodId} {args : Array Value} {below : List Frame} {meth : Method} {c : Code} {Q : State → Prop} {A : Nat → Prop} {D : va_G} {T : Nat → ClassId} {a0 : Nat → Nat} {a1 : Nat → Nat} {a2 : Nat → Nat} {a3 : Nat → Nat} {a4 : Nat → Nat} {a5 : Nat → Nat} {a6 : Nat → Nat} {a7 : Nat → Nat} {a8 : Nat → Nat} {a9 : Nat → Nat}
theorem in_X6_knownBests_X0 : ∀ w ∈ u_ws RX0 TX0 11, w ∈ wsX6_knownBests := fun _ h => (List.mem_cons_of_mem _ (List.mem_append_left _ (List.mem_append_right _ h)))
theorem in_X6_knownBests_X6 : ∀ w ∈ u_ws RX6 TX6 9, w ∈ wsX6_knownBests := fun _ h => (List.mem_cons_of_mem _ (List.mem_append_left _ (List.mem_append_left _ (List.mem_append_right _ h))))
def f_X6_knownBests_J21 (S1 : Nat → Nat → Int32) (S2 : Nat → Nat → Int32) (S3 : Nat → Nat → Int32) (S4 : Nat → Nat → Int32) (S5 : Nat → Nat → Int32) (S6 : Nat → Nat → Int32) (S7 : Nat → Nat → Int32) (S8 : Nat → Nat → Int32) (S9 : Nat → Nat → Int32)   : Option ((Nat → Nat → Int32)) := some S4
set_option maxHeartbeats 4000000 in
set_option maxRecDepth 100000 in
theorem p_X6_knownBests_J21 {w0 : va_W} (C : zC p R s m args meth c cX6_knownBests 1 RX6 wsX6_knownBests D T 5 128 0 0) (hr : meth.sig.returnType = some (.object "StreamTree$Bests")) (S1 : Nat → Nat → Int32) (S2 : Nat → Nat → Int32) (S3 : Nat → Nat → Int32) (S4 : Nat → Nat → Int32) (S5 : Nat → Nat → Int32) (S6 : Nat → Nat → Int32) (S7 : Nat → Nat → Int32) (S8 : Nat → Nat → Int32) (S9 : Nat → Nat → Int32)   (hD : va_D (zA w0) (wX6 a0 a1 a2 a3 a4 a5 a6 a7 a8 a9 ++ wX4 T a1 S1 ++ wX1 T a2 S2 ++ wX1 T a3 S3 ++ wX0 T a4 S4 ++ wX5 T a5 S5 ++ wX5 T a6 S6 ++ wX5 T a7 S7 ++ wX5 T a8 S8 ++ wX3 T a9 S9)) {ex : (Nat → Nat → Int32)} (h : f_X6_knownBests_J21 S1 S2 S3 S4 S5 S6 S7 S8 S9 = some ex) : zt p l e R s m args below meth c 1 (zA w0) D 0 0 (MQ below (zQA D w0 (a4 99) (wX6 a0 a1 a2 a3 a4 a5 a6 a7 a8 a9 ++ wX4 T a1 S1 ++ wX1 T a2 S2 ++ wX1 T a3 S3 ++ wX0 T a4 ex ++ wX5 T a5 S5 ++ wX5 T a6 S6 ++ wX5 T a7 S7 ++ wX5 T a8 S8 ++ wX3 T a9 S9)) args s 0 0 (zA w0)) (wX6 a0 a1 a2 a3 a4 a5 a6 a7 a8 a9 ++ wX4 T a1 S1 ++ wX1 T a2 S2 ++ wX1 T a3 S3 ++ wX0 T a4 S4 ++ wX5 T a5 S5 ++ wX5 T a6 S6 ++ wX5 T a7 S7 ++ wX5 T a8 S8 ++ wX3 T a9 S9) [(0, .ref (a0 99))] 21 [] := by
  unfold f_X6_knownBests_J21 at h
  refine z_aload_n C dX6_knownBests_21 rfl 0 rfl 22 rfl ?_
  refine z_get C (in_X6_knownBests_X6) 0 rfl rfl 3 (by decide) (List.mem_of_getElem? (i := 1) rfl) rfl rfl dX6_knownBests_22 25 rfl ?_
  exact z_aretW (fun z => a4 99) (fun z => wX6 a0 a1 a2 a3 a4 a5 a6 a7 a8 a9 ++ wX4 T a1 S1 ++ wX1 T a2 S2 ++ wX1 T a3 S3 ++ wX0 T a4 z ++ wX5 T a5 S5 ++ wX5 T a6 S6 ++ wX5 T a7 S7 ++ wX5 T a8 S8 ++ wX3 T a9 S9) C hr dX6_knownBests_25 h rfl rfl

def f_X6_knownBests (S1 : Nat → Nat → Int32) (S2 : Nat → Nat → Int32) (S3 : Nat → Nat → Int32) (S4 : Nat → Nat → Int32) (S5 : Nat → Nat → Int32) (S6 : Nat → Nat → Int32) (S7 : Nat → Nat → Int32) (S8 : Nat → Nat → Int32) (S9 : Nat → Nat → Int32)  : Option ((Nat → Nat → Int32)) := if (S4 0 0) = 0 then ((f_X0_fill S4 S2).bind fun r_1 => f_X6_knownBests_J21 S1 S2 S3 r_1 S5 S6 S7 S8 S9) else (f_X6_knownBests_J21 S1 S2 S3 S4 S5 S6 S7 S8 S9)
theorem dd_X6_knownBests : RX6 ≠ "java/lang/invoke/MethodHandle" ∧ RX6 ≠ "java/lang/invoke/VarHandle" ∧ (parseMethodDescriptor yX6_knownBests.desc).map (fun d => d.parameters.length) = some 0 := by decide +kernel
set_option maxHeartbeats 4000000 in
set_option maxRecDepth 100000 in
theorem c_X6_knownBests (l : Launch) (D : va_G) (T : Nat → ClassId) (a0 : Nat → Nat) (a1 : Nat → Nat) (a2 : Nat → Nat) (a3 : Nat → Nat) (a4 : Nat → Nat) (a5 : Nat → Nat) (a6 : Nat → Nat) (a7 : Nat → Nat) (a8 : Nat → Nat) (a9 : Nat → Nat) (S1 : Nat → Nat → Int32) (S2 : Nat → Nat → Int32) (S3 : Nat → Nat → Int32) (S4 : Nat → Nat → Int32) (S5 : Nat → Nat → Int32) (S6 : Nat → Nat → Int32) (S7 : Nat → Nat → Int32) (S8 : Nat → Nat → Int32) (S9 : Nat → Nat → Int32)  (ex : (Nat → Nat → Int32)) (h : f_X6_knownBests S1 S2 S3 S4 S5 S6 S7 S8 S9 = some ex) : zWA l yX6_knownBests wsX6_knownBests ({ frames := 5, cells := 0, slots := 0, locals := 128 } : Room) D T [.ref (a0 99)] (wX6 a0 a1 a2 a3 a4 a5 a6 a7 a8 a9 ++ wX4 T a1 S1 ++ wX1 T a2 S2 ++ wX1 T a3 S3 ++ wX0 T a4 S4 ++ wX5 T a5 S5 ++ wX5 T a6 S6 ++ wX5 T a7 S7 ++ wX5 T a8 S8 ++ wX3 T a9 S9) (a4 99) (wX6 a0 a1 a2 a3 a4 a5 a6 a7 a8 a9 ++ wX4 T a1 S1 ++ wX1 T a2 S2 ++ wX1 T a3 S3 ++ wX0 T a4 ex ++ wX5 T a5 S5 ++ wX5 T a6 S6 ++ wX5 T a7 S7 ++ wX5 T a8 S8 ++ wX3 T a9 S9) := by
  refine z_begin (cc := cX6_knownBests) (nL := 1) (own := RX6) (fr := 5) (lc := 128) (ret := some (.object "StreamTree$Bests")) (by decide) rfl (Nat.le_of_ble_eq_true rfl) (zA (wX6 a0 a1 a2 a3 a4 a5 a6 a7 a8 a9 ++ wX4 T a1 S1 ++ wX1 T a2 S2 ++ wX1 T a3 S3 ++ wX0 T a4 S4 ++ wX5 T a5 S5 ++ wX5 T a6 S6 ++ wX5 T a7 S7 ++ wX5 T a8 S8 ++ wX3 T a9 S9)) rfl [(0, .ref (a0 99))] rfl ⟨rfl, rfl⟩ rfl ?_
  intro p e s m args below meth c C hr hD
  have hD := hD.zself
  unfold f_X6_knownBests at h
  refine z_aload_n C dX6_knownBests_0 rfl 0 rfl 1 rfl ?_
  refine z_get C (in_X6_knownBests_X6) 0 rfl rfl 3 (by decide) (List.mem_of_getElem? (i := 1) rfl) rfl rfl dX6_knownBests_1 4 rfl ?_
  refine z_get C (in_X6_knownBests_X0) 13 rfl rfl 0 (by decide) (List.mem_of_getElem? (i := 2) rfl) rfl rfl dX6_knownBests_4 7 rfl ?_
  refine z_if_ne C 21 dX6_knownBests_7 (by decide) 10 rfl h (fun h => ?_) (fun h => ?_)
  · exact z_locals (ks := [0]) rfl (p_X6_knownBests_J21 C hr S1 S2 S3 S4 S5 S6 S7 S8 S9 (hD.zaddr rfl) h)
  · refine z_aload_n C dX6_knownBests_10 rfl 0 rfl 11 rfl ?_
    refine z_get C (in_X6_knownBests_X6) 0 rfl rfl 3 (by decide) (List.mem_of_getElem? (i := 1) rfl) rfl rfl dX6_knownBests_11 14 rfl ?_
    refine z_aload_n C dX6_knownBests_14 rfl 0 rfl 15 rfl ?_
    refine z_get C (in_X6_knownBests_X6) 0 rfl rfl 1 (by decide) (List.mem_of_getElem? (i := 3) rfl) rfl rfl dX6_knownBests_15 18 rfl ?_
    refine z_callV C (wX0 T a4 S4 ++ wX1 T a2 S2) (wX6 a0 a1 a2 a3 a4 a5 a6 a7 a8 a9 ++ wX4 T a1 S1 ++ wX1 T a3 S3 ++ wX5 T a5 S5 ++ wX5 T a6 S6 ++ wX5 T a7 S7 ++ wX5 T a8 S8 ++ wX3 T a9 S9) (fun z => wX0 T a4 z ++ wX1 T a2 S2) (fun z => wX6 a0 a1 a2 a3 a4 a5 a6 a7 a8 a9 ++ wX4 T a1 S1 ++ wX1 T a2 S2 ++ wX1 T a3 S3 ++ wX0 T a4 z ++ wX5 T a5 S5 ++ wX5 T a6 S6 ++ wX5 T a7 S7 ++ wX5 T a8 S8 ++ wX3 T a9 S9) (fun z h => c_X0_fill l D T a4 a2  S4 S2  z h) ⟨rfl, rfl⟩ (z_cwV C 1 gX6_knownBests_X0_fill rfl rfl dd_X0_fill ⟨(Nat.le_of_ble_eq_true rfl), (Nat.le_of_ble_eq_true rfl)⟩) (hD.zaddr rfl) [13, 14, 15, 16, 17, 18, 19, 3, 4, 5, 6, 7] [0, 1, 2, 8, 9, 10, 11, 12, 20, 21, 22, 23, 24, 25, 26, 27, 28, 29, 30, 31, 32, 33] [0, 1, 2, 29, 30, 31, 32, 33, 3, 4, 5, 6, 7, 22, 23, 24, 25, 26, 27, 28, 8, 9, 10, 11, 12, 13, 14, 15, 16, 17, 18, 19, 20, 21] rfl rfl rfl (by decide) (fun _ => rfl) (fun _ => ⟨a4 99, [.ref (a2 99)], 0, 0, _, _, rfl, rfl, rfl, rfl, rfl⟩) (fun h => absurd rfl h) rfl (Nat.le_of_ble_eq_true rfl) dX6_knownBests_18 21 rfl h (fun r_1 h => ?_)
    exact z_locals (ks := [0]) rfl (p_X6_knownBests_J21 C hr S1 S2 S3 r_1 S5 S6 S7 S8 S9 (hD.zaddr rfl) h)

end
/-! StreamTree.treeOf (I)LStreamTree$Tree; -/
section
variable {p : Program} {l : Launch} {e : Env} {R : Room} {s : State} {m : MethodId} {args : Array Value} {below : List Frame} {meth : Method} {c : Code} {Q : State → Prop} {A : Nat → Prop} {D : va_G} {T : Nat → ClassId} {a0 : Nat → Nat} {a1 : Nat → Nat} {a2 : Nat → Nat} {a3 : Nat → Nat} {a4 : Nat → Nat} {a5 : Nat → Nat} {a6 : Nat → Nat} {a7 : Nat → Nat} {a8 : Nat → Nat} {a9 : Nat → Nat}
theorem in_X6_treeOf_X0 : ∀ w ∈ u_ws RX0 TX0 11, w ∈ wsX6_treeOf := fun _ h => (List.mem_cons_of_mem _ (List.mem_append_left _ (List.mem_append_right _ h)))
theorem in_X6_treeOf_X5 : ∀ w ∈ u_ws RX5 TX5 5, w ∈ wsX6_treeOf := fun _ h => (List.mem_cons_of_mem _ (List.mem_append_left _ (List.mem_append_left _ (List.mem_append_right _ h))))
theorem in_X6_treeOf_X6 : ∀ w ∈ u_ws RX6 TX6 9, w ∈ wsX6_treeOf := fun _ h => (List.mem_cons_of_mem _ (List.mem_append_left _ (List.mem_append_left _ (List.mem_append_left _ (List.mem_append_right _ h)))))
def f_X6_treeOf_J164 (S1 : Nat → Nat → Int32) (S2 : Nat → Nat → Int32) (S3 : Nat → Nat → Int32) (S4 : Nat → Nat → Int32) (S5 : Nat → Nat → Int32) (S6 : Nat → Nat → Int32) (S7 : Nat → Nat → Int32) (S8 : Nat → Nat → Int32) (S9 : Nat → Nat → Int32)   : Option (Nat × (Nat → Nat → Int32) × (Nat → Nat → Int32) × (Nat → Nat → Int32) × (Nat → Nat → Int32) × (Nat → Nat → Int32)) := some (6, S4, S5, S6, S7, S8)
set_option maxHeartbeats 4000000 in
set_option maxRecDepth 100000 in
theorem p_X6_treeOf_J164 {w0 : va_W} (C : zC p R s m args meth c cX6_treeOf 2 RX6 wsX6_treeOf D T 5 129 0 0) (hr : meth.sig.returnType = some (.object "StreamTree$Tree")) (S1 : Nat → Nat → Int32) (S2 : Nat → Nat → Int32) (S3 : Nat → Nat → Int32) (S4 : Nat → Nat → Int32) (S5 : Nat → Nat → Int32) (S6 : Nat → Nat → Int32) (S7 : Nat → Nat → Int32) (S8 : Nat → Nat → Int32) (S9 : Nat → Nat → Int32)   (hD : va_D (zA w0) (wX6 a0 a1 a2 a3 a4 a5 a6 a7 a8 a9 ++ wX4 T a1 S1 ++ wX1 T a2 S2 ++ wX1 T a3 S3 ++ wX0 T a4 S4 ++ wX5 T a5 S5 ++ wX5 T a6 S6 ++ wX5 T a7 S7 ++ wX5 T a8 S8 ++ wX3 T a9 S9)) {ex : Nat × (Nat → Nat → Int32) × (Nat → Nat → Int32) × (Nat → Nat → Int32) × (Nat → Nat → Int32) × (Nat → Nat → Int32)} (h : f_X6_treeOf_J164 S1 S2 S3 S4 S5 S6 S7 S8 S9 = some ex) : zt p l e R s m args below meth c 2 (zA w0) D 0 0 (MQ below (zQA D w0 (if ex.1 = 5 then a5 99 else if ex.1 = 6 then a6 99 else a8 99) (wX6 a0 a1 a2 a3 a4 a5 a6 a7 a8 a9 ++ wX4 T a1 S1 ++ wX1 T a2 S2 ++ wX1 T a3 S3 ++ wX0 T a4 ex.2.1 ++ wX5 T a5 ex.2.2.1 ++ wX5 T a6 ex.2.2.2.1 ++ wX5 T a7 ex.2.2.2.2.1 ++ wX5 T a8 ex.2.2.2.2.2 ++ wX3 T a9 S9)) args s 0 0 (zA w0)) (wX6 a0 a1 a2 a3 a4 a5 a6 a7 a8 a9 ++ wX4 T a1 S1 ++ wX1 T a2 S2 ++ wX1 T a3 S3 ++ wX0 T a4 S4 ++ wX5 T a5 S5 ++ wX5 T a6 S6 ++ wX5 T a7 S7 ++ wX5 T a8 S8 ++ wX3 T a9 S9) [] 164 [.ref (a6 99)] := by
  unfold f_X6_treeOf_J164 at h
  exact z_aretW (fun z => if z.1 = 5 then a5 99 else if z.1 = 6 then a6 99 else a8 99) (fun z => wX6 a0 a1 a2 a3 a4 a5 a6 a7 a8 a9 ++ wX4 T a1 S1 ++ wX1 T a2 S2 ++ wX1 T a3 S3 ++ wX0 T a4 z.2.1 ++ wX5 T a5 z.2.2.1 ++ wX5 T a6 z.2.2.2.1 ++ wX5 T a7 z.2.2.2.2.1 ++ wX5 T a8 z.2.2.2.2.2 ++ wX3 T a9 S9) C hr dX6_treeOf_164 h rfl rfl

def f_X6_treeOf_J148 (S1 : Nat → Nat → Int32) (S2 : Nat → Nat → Int32) (S3 : Nat → Nat → Int32) (S4 : Nat → Nat → Int32) (S5 : Nat → Nat → Int32) (S6 : Nat → Nat → Int32) (S7 : Nat → Nat → Int32) (S8 : Nat → Nat → Int32) (S9 : Nat → Nat → Int32) (x1 : Int32)  : Option (Nat × (Nat → Nat → Int32) × (Nat → Nat → Int32) × (Nat → Nat → Int32) × (Nat → Nat → Int32) × (Nat → Nat → Int32)) := if x1 = 3 then (f_X6_treeOf_J164 S1 S2 S3 S4 S5 S6 S7 S8 S9) else (f_X6_treeOf_J164 S1 S2 S3 S4 S5 S6 S7 S8 S9)
set_option maxHeartbeats 4000000 in
set_option maxRecDepth 100000 in
theorem p_X6_treeOf_J148 {w0 : va_W} (C : zC p R s m args meth c cX6_treeOf 2 RX6 wsX6_treeOf D T 5 129 0 0) (hr : meth.sig.returnType = some (.object "StreamTree$Tree")) (S1 : Nat → Nat → Int32) (S2 : Nat → Nat → Int32) (S3 : Nat → Nat → Int32) (S4 : Nat → Nat → Int32) (S5 : Nat → Nat → Int32) (S6 : Nat → Nat → Int32) (S7 : Nat → Nat → Int32) (S8 : Nat → Nat → Int32) (S9 : Nat → Nat → Int32) (x1 : Int32)  (hD : va_D (zA w0) (wX6 a0 a1 a2 a3 a4 a5 a6 a7 a8 a9 ++ wX4 T a1 S1 ++ wX1 T a2 S2 ++ wX1 T a3 S3 ++ wX0 T a4 S4 ++ wX5 T a5 S5 ++ wX5 T a6 S6 ++ wX5 T a7 S7 ++ wX5 T a8 S8 ++ wX3 T a9 S9)) {ex : Nat × (Nat → Nat → Int32) × (Nat → Nat → Int32) × (Nat → Nat → Int32) × (Nat → Nat → Int32) × (Nat → Nat → Int32)} (h : f_X6_treeOf_J148 S1 S2 S3 S4 S5 S6 S7 S8 S9 x1 = some ex) : zt p l e R s m args below meth c 2 (zA w0) D 0 0 (MQ below (zQA D w0 (if ex.1 = 5 then a5 99 else if ex.1 = 6 then a6 99 else a8 99) (wX6 a0 a1 a2 a3 a4 a5 a6 a7 a8 a9 ++ wX4 T a1 S1 ++ wX1 T a2 S2 ++ wX1 T a3 S3 ++ wX0 T a4 ex.2.1 ++ wX5 T a5 ex.2.2.1 ++ wX5 T a6 ex.2.2.2.1 ++ wX5 T a7 ex.2.2.2.2.1 ++ wX5 T a8 ex.2.2.2.2.2 ++ wX3 T a9 S9)) args s 0 0 (zA w0)) (wX6 a0 a1 a2 a3 a4 a5 a6 a7 a8 a9 ++ wX4 T a1 S1 ++ wX1 T a2 S2 ++ wX1 T a3 S3 ++ wX0 T a4 S4 ++ wX5 T a5 S5 ++ wX5 T a6 S6 ++ wX5 T a7 S7 ++ wX5 T a8 S8 ++ wX3 T a9 S9) [(0, .ref (a0 99)), (1, .int x1)] 148 [] := by
  unfold f_X6_treeOf_J148 at h
  refine z_iload_n C dX6_treeOf_148 rfl 1 rfl 149 rfl ?_
  refine z_iconst C 3 dX6_treeOf_149 (by decide) 150 rfl ?_
  refine z_icmp_ne C 160 dX6_treeOf_150 (by decide) 153 rfl h (fun h => ?_) (fun h => ?_)
  · refine z_aload_n C dX6_treeOf_160 rfl 0 rfl 161 rfl ?_
    refine z_get C (in_X6_treeOf_X6) 0 rfl rfl 5 (by decide) (List.mem_of_getElem? (i := 7) rfl) rfl rfl dX6_treeOf_161 164 rfl ?_
    exact z_locals (ks := []) rfl (p_X6_treeOf_J164 C hr S1 S2 S3 S4 S5 S6 S7 S8 S9 (hD.zaddr rfl) h)
  · refine z_aload_n C dX6_treeOf_153 rfl 0 rfl 154 rfl ?_
    refine z_get C (in_X6_treeOf_X6) 0 rfl rfl 6 (by decide) (List.mem_of_getElem? (i := 8) rfl) rfl rfl dX6_treeOf_154 157 rfl ?_
    refine z_goto C 164 dX6_treeOf_157 (by decide) ?_
    exact z_locals (ks := []) rfl (p_X6_treeOf_J164 C hr S1 S2 S3 S4 S5 S6 S7 S8 S9 (hD.zaddr rfl) h)

def f_X6_treeOf_J118 (S1 : Nat → Nat → Int32) (S2 : Nat → Nat → Int32) (S3 : Nat → Nat → Int32) (S4 : Nat → Nat → Int32) (S5 : Nat → Nat → Int32) (S6 : Nat → Nat → Int32) (S7 : Nat → Nat → Int32) (S8 : Nat → Nat → Int32) (S9 : Nat → Nat → Int32) (x1 : Int32)  : Option (Nat × (Nat → Nat → Int32) × (Nat → Nat → Int32) × (Nat → Nat → Int32) × (Nat → Nat → Int32) × (Nat → Nat → Int32)) := if x1 = 3 then (if (S7 0 0) = 0 then ((f_X2_drawStraightened S2 S6 S7).bind fun r_1 => f_X6_treeOf_J148 S1 S2 S3 S4 S5 S6 r_1 S8 S9 x1) else (f_X6_treeOf_J148 S1 S2 S3 S4 S5 S6 S7 S8 S9 x1)) else (f_X6_treeOf_J148 S1 S2 S3 S4 S5 S6 S7 S8 S9 x1)
set_option maxHeartbeats 4000000 in
set_option maxRecDepth 100000 in
theorem p_X6_treeOf_J118 {w0 : va_W} (C : zC p R s m args meth c cX6_treeOf 2 RX6 wsX6_treeOf D T 5 129 0 0) (hr : meth.sig.returnType = some (.object "StreamTree$Tree")) (S1 : Nat → Nat → Int32) (S2 : Nat → Nat → Int32) (S3 : Nat → Nat → Int32) (S4 : Nat → Nat → Int32) (S5 : Nat → Nat → Int32) (S6 : Nat → Nat → Int32) (S7 : Nat → Nat → Int32) (S8 : Nat → Nat → Int32) (S9 : Nat → Nat → Int32) (x1 : Int32)  (hD : va_D (zA w0) (wX6 a0 a1 a2 a3 a4 a5 a6 a7 a8 a9 ++ wX4 T a1 S1 ++ wX1 T a2 S2 ++ wX1 T a3 S3 ++ wX0 T a4 S4 ++ wX5 T a5 S5 ++ wX5 T a6 S6 ++ wX5 T a7 S7 ++ wX5 T a8 S8 ++ wX3 T a9 S9)) {ex : Nat × (Nat → Nat → Int32) × (Nat → Nat → Int32) × (Nat → Nat → Int32) × (Nat → Nat → Int32) × (Nat → Nat → Int32)} (h : f_X6_treeOf_J118 S1 S2 S3 S4 S5 S6 S7 S8 S9 x1 = some ex) : zt p l e R s m args below meth c 2 (zA w0) D 0 0 (MQ below (zQA D w0 (if ex.1 = 5 then a5 99 else if ex.1 = 6 then a6 99 else a8 99) (wX6 a0 a1 a2 a3 a4 a5 a6 a7 a8 a9 ++ wX4 T a1 S1 ++ wX1 T a2 S2 ++ wX1 T a3 S3 ++ wX0 T a4 ex.2.1 ++ wX5 T a5 ex.2.2.1 ++ wX5 T a6 ex.2.2.2.1 ++ wX5 T a7 ex.2.2.2.2.1 ++ wX5 T a8 ex.2.2.2.2.2 ++ wX3 T a9 S9)) args s 0 0 (zA w0)) (wX6 a0 a1 a2 a3 a4 a5 a6 a7 a8 a9 ++ wX4 T a1 S1 ++ wX1 T a2 S2 ++ wX1 T a3 S3 ++ wX0 T a4 S4 ++ wX5 T a5 S5 ++ wX5 T a6 S6 ++ wX5 T a7 S7 ++ wX5 T a8 S8 ++ wX3 T a9 S9) [(0, .ref (a0 99)), (1, .int x1)] 118 [] := by
  unfold f_X6_treeOf_J118 at h
  refine z_iload_n C dX6_treeOf_118 rfl 1 rfl 119 rfl ?_
  refine z_iconst C 3 dX6_treeOf_119 (by decide) 120 rfl ?_
  refine z_icmp_ne C 148 dX6_treeOf_120 (by decide) 123 rfl h (fun h => ?_) (fun h => ?_)
  · exact z_locals (ks := [0, 1]) rfl (p_X6_treeOf_J148 C hr S1 S2 S3 S4 S5 S6 S7 S8 S9 x1 (hD.zaddr rfl) h)
  · refine z_aload_n C dX6_treeOf_123 rfl 0 rfl 124 rfl ?_
    refine z_get C (in_X6_treeOf_X6) 0 rfl rfl 6 (by decide) (List.mem_of_getElem? (i := 8) rfl) rfl rfl dX6_treeOf_124 127 rfl ?_
    refine z_get C (in_X6_treeOf_X5) 26 rfl rfl 0 (by decide) (List.mem_of_getElem? (i := 2) rfl) rfl rfl dX6_treeOf_127 130 rfl ?_
    refine z_if_ne C 148 dX6_treeOf_130 (by decide) 133 rfl h (fun h => ?_) (fun h => ?_)
    · exact z_locals (ks := [0, 1]) rfl (p_X6_treeOf_J148 C hr S1 S2 S3 S4 S5 S6 S7 S8 S9 x1 (hD.zaddr rfl) h)
    · refine z_aload_n C dX6_treeOf_133 rfl 0 rfl 134 rfl ?_
      refine z_get C (in_X6_treeOf_X6) 0 rfl rfl 1 (by decide) (List.mem_of_getElem? (i := 3) rfl) rfl rfl dX6_treeOf_134 137 rfl ?_
      refine z_aload_n C dX6_treeOf_137 rfl 0 rfl 138 rfl ?_
      refine z_get C (in_X6_treeOf_X6) 0 rfl rfl 5 (by decide) (List.mem_of_getElem? (i := 7) rfl) rfl rfl dX6_treeOf_138 141 rfl ?_
      refine z_aload_n C dX6_treeOf_141 rfl 0 rfl 142 rfl ?_
      refine z_get C (in_X6_treeOf_X6) 0 rfl rfl 6 (by decide) (List.mem_of_getElem? (i := 8) rfl) rfl rfl dX6_treeOf_142 145 rfl ?_
      refine z_callV C (wX1 T a2 S2 ++ wX5 T a6 S6 ++ wX5 T a7 S7) (wX6 a0 a1 a2 a3 a4 a5 a6 a7 a8 a9 ++ wX4 T a1 S1 ++ wX1 T a3 S3 ++ wX0 T a4 S4 ++ wX5 T a5 S5 ++ wX5 T a8 S8 ++ wX3 T a9 S9) (fun z => wX1 T a2 S2 ++ wX5 T a6 S6 ++ wX5 T a7 z) (fun z => wX6 a0 a1 a2 a3 a4 a5 a6 a7 a8 a9 ++ wX4 T a1 S1 ++ wX1 T a2 S2 ++ wX1 T a3 S3 ++ wX0 T a4 S4 ++ wX5 T a5 S5 ++ wX5 T a6 S6 ++ wX5 T a7 z ++ wX5 T a8 S8 ++ wX3 T a9 S9) (fun z h => c_X2_drawStraightened l D T a2 a6 a7  S2 S6 S7  z h) ⟨rfl, rfl⟩ (z_cwS C 3 gX6_treeOf_X2_drawStraightened rfl dd_X2_drawStraightened ⟨(Nat.le_of_ble_eq_true rfl), (Nat.le_of_ble_eq_true rfl)⟩) (hD.zaddr rfl) [3, 4, 5, 6, 7, 23, 24, 25, 26, 27, 28] [0, 1, 2, 8, 9, 10, 11, 12, 13, 14, 15, 16, 17, 18, 19, 20, 21, 22, 29, 30, 31, 32, 33] [0, 1, 2, 23, 24, 25, 26, 27, 3, 4, 5, 6, 7, 8, 9, 10, 11, 12, 13, 14, 15, 16, 17, 28, 29, 30, 31, 32, 33, 18, 19, 20, 21, 22] rfl rfl rfl (by decide) (fun _ => rfl) (fun h => absurd h (by decide)) (fun _ => rfl) rfl (Nat.le_of_ble_eq_true rfl) dX6_treeOf_145 148 rfl h (fun r_1 h => ?_)
      exact z_locals (ks := [0, 1]) rfl (p_X6_treeOf_J148 C hr S1 S2 S3 S4 S5 S6 r_1 S8 S9 x1 (hD.zaddr rfl) h)

def f_X6_treeOf_J92 (S1 : Nat → Nat → Int32) (S2 : Nat → Nat → Int32) (S3 : Nat → Nat → Int32) (S4 : Nat → Nat → Int32) (S5 : Nat → Nat → Int32) (S6 : Nat → Nat → Int32) (S7 : Nat → Nat → Int32) (S8 : Nat → Nat → Int32) (S9 : Nat → Nat → Int32)   : Option (Nat × (Nat → Nat → Int32) × (Nat → Nat → Int32) × (Nat → Nat → Int32) × (Nat → Nat → Int32) × (Nat → Nat → Int32)) := some (8, S4, S5, S6, S7, S8)
set_option maxHeartbeats 4000000 in
set_option maxRecDepth 100000 in
theorem p_X6_treeOf_J92 {w0 : va_W} (C : zC p R s m args meth c cX6_treeOf 2 RX6 wsX6_treeOf D T 5 129 0 0) (hr : meth.sig.returnType = some (.object "StreamTree$Tree")) (S1 : Nat → Nat → Int32) (S2 : Nat → Nat → Int32) (S3 : Nat → Nat → Int32) (S4 : Nat → Nat → Int32) (S5 : Nat → Nat → Int32) (S6 : Nat → Nat → Int32) (S7 : Nat → Nat → Int32) (S8 : Nat → Nat → Int32) (S9 : Nat → Nat → Int32)   (hD : va_D (zA w0) (wX6 a0 a1 a2 a3 a4 a5 a6 a7 a8 a9 ++ wX4 T a1 S1 ++ wX1 T a2 S2 ++ wX1 T a3 S3 ++ wX0 T a4 S4 ++ wX5 T a5 S5 ++ wX5 T a6 S6 ++ wX5 T a7 S7 ++ wX5 T a8 S8 ++ wX3 T a9 S9)) {ex : Nat × (Nat → Nat → Int32) × (Nat → Nat → Int32) × (Nat → Nat → Int32) × (Nat → Nat → Int32) × (Nat → Nat → Int32)} (h : f_X6_treeOf_J92 S1 S2 S3 S4 S5 S6 S7 S8 S9 = some ex) : zt p l e R s m args below meth c 2 (zA w0) D 0 0 (MQ below (zQA D w0 (if ex.1 = 5 then a5 99 else if ex.1 = 6 then a6 99 else a8 99) (wX6 a0 a1 a2 a3 a4 a5 a6 a7 a8 a9 ++ wX4 T a1 S1 ++ wX1 T a2 S2 ++ wX1 T a3 S3 ++ wX0 T a4 ex.2.1 ++ wX5 T a5 ex.2.2.1 ++ wX5 T a6 ex.2.2.2.1 ++ wX5 T a7 ex.2.2.2.2.1 ++ wX5 T a8 ex.2.2.2.2.2 ++ wX3 T a9 S9)) args s 0 0 (zA w0)) (wX6 a0 a1 a2 a3 a4 a5 a6 a7 a8 a9 ++ wX4 T a1 S1 ++ wX1 T a2 S2 ++ wX1 T a3 S3 ++ wX0 T a4 S4 ++ wX5 T a5 S5 ++ wX5 T a6 S6 ++ wX5 T a7 S7 ++ wX5 T a8 S8 ++ wX3 T a9 S9) [(0, .ref (a0 99))] 92 [] := by
  unfold f_X6_treeOf_J92 at h
  refine z_aload_n C dX6_treeOf_92 rfl 0 rfl 93 rfl ?_
  refine z_get C (in_X6_treeOf_X6) 0 rfl rfl 7 (by decide) (List.mem_of_getElem? (i := 6) rfl) rfl rfl dX6_treeOf_93 96 rfl ?_
  exact z_aretW (fun z => if z.1 = 5 then a5 99 else if z.1 = 6 then a6 99 else a8 99) (fun z => wX6 a0 a1 a2 a3 a4 a5 a6 a7 a8 a9 ++ wX4 T a1 S1 ++ wX1 T a2 S2 ++ wX1 T a3 S3 ++ wX0 T a4 z.2.1 ++ wX5 T a5 z.2.2.1 ++ wX5 T a6 z.2.2.2.1 ++ wX5 T a7 z.2.2.2.2.1 ++ wX5 T a8 z.2.2.2.2.2 ++ wX3 T a9 S9) C hr dX6_treeOf_96 h rfl rfl

def f_X6_treeOf_J67 (S1 : Nat → Nat → Int32) (S2 : Nat → Nat → Int32) (S3 : Nat → Nat → Int32) (S4 : Nat → Nat → Int32) (S5 : Nat → Nat → Int32) (S6 : Nat → Nat → Int32) (S7 : Nat → Nat → Int32) (S8 : Nat → Nat → Int32) (S9 : Nat → Nat → Int32)   : Option (Nat × (Nat → Nat → Int32) × (Nat → Nat → Int32) × (Nat → Nat → Int32) × (Nat → Nat → Int32) × (Nat → Nat → Int32)) := if (S8 0 0) = 0 then ((f_X2_drawLeast S2 S4 S8).bind fun r_3 => f_X6_treeOf_J92 S1 S2 S3 r_3.1 S5 S6 S7 r_3.2 S9) else (f_X6_treeOf_J92 S1 S2 S3 S4 S5 S6 S7 S8 S9)
set_option maxHeartbeats 4000000 in
set_option maxRecDepth 100000 in
theorem p_X6_treeOf_J67 {w0 : va_W} (C : zC p R s m args meth c cX6_treeOf 2 RX6 wsX6_treeOf D T 5 129 0 0) (hr : meth.sig.returnType = some (.object "StreamTree$Tree")) (S1 : Nat → Nat → Int32) (S2 : Nat → Nat → Int32) (S3 : Nat → Nat → Int32) (S4 : Nat → Nat → Int32) (S5 : Nat → Nat → Int32) (S6 : Nat → Nat → Int32) (S7 : Nat → Nat → Int32) (S8 : Nat → Nat → Int32) (S9 : Nat → Nat → Int32)   (hD : va_D (zA w0) (wX6 a0 a1 a2 a3 a4 a5 a6 a7 a8 a9 ++ wX4 T a1 S1 ++ wX1 T a2 S2 ++ wX1 T a3 S3 ++ wX0 T a4 S4 ++ wX5 T a5 S5 ++ wX5 T a6 S6 ++ wX5 T a7 S7 ++ wX5 T a8 S8 ++ wX3 T a9 S9)) {ex : Nat × (Nat → Nat → Int32) × (Nat → Nat → Int32) × (Nat → Nat → Int32) × (Nat → Nat → Int32) × (Nat → Nat → Int32)} (h : f_X6_treeOf_J67 S1 S2 S3 S4 S5 S6 S7 S8 S9 = some ex) : zt p l e R s m args below meth c 2 (zA w0) D 0 0 (MQ below (zQA D w0 (if ex.1 = 5 then a5 99 else if ex.1 = 6 then a6 99 else a8 99) (wX6 a0 a1 a2 a3 a4 a5 a6 a7 a8 a9 ++ wX4 T a1 S1 ++ wX1 T a2 S2 ++ wX1 T a3 S3 ++ wX0 T a4 ex.2.1 ++ wX5 T a5 ex.2.2.1 ++ wX5 T a6 ex.2.2.2.1 ++ wX5 T a7 ex.2.2.2.2.1 ++ wX5 T a8 ex.2.2.2.2.2 ++ wX3 T a9 S9)) args s 0 0 (zA w0)) (wX6 a0 a1 a2 a3 a4 a5 a6 a7 a8 a9 ++ wX4 T a1 S1 ++ wX1 T a2 S2 ++ wX1 T a3 S3 ++ wX0 T a4 S4 ++ wX5 T a5 S5 ++ wX5 T a6 S6 ++ wX5 T a7 S7 ++ wX5 T a8 S8 ++ wX3 T a9 S9) [(0, .ref (a0 99))] 67 [] := by
  unfold f_X6_treeOf_J67 at h
  refine z_aload_n C dX6_treeOf_67 rfl 0 rfl 68 rfl ?_
  refine z_get C (in_X6_treeOf_X6) 0 rfl rfl 7 (by decide) (List.mem_of_getElem? (i := 6) rfl) rfl rfl dX6_treeOf_68 71 rfl ?_
  refine z_get C (in_X6_treeOf_X5) 29 rfl rfl 0 (by decide) (List.mem_of_getElem? (i := 2) rfl) rfl rfl dX6_treeOf_71 74 rfl ?_
  refine z_if_ne C 92 dX6_treeOf_74 (by decide) 77 rfl h (fun h => ?_) (fun h => ?_)
  · exact z_locals (ks := [0]) rfl (p_X6_treeOf_J92 C hr S1 S2 S3 S4 S5 S6 S7 S8 S9 (hD.zaddr rfl) h)
  · refine z_aload_n C dX6_treeOf_77 rfl 0 rfl 78 rfl ?_
    refine z_get C (in_X6_treeOf_X6) 0 rfl rfl 1 (by decide) (List.mem_of_getElem? (i := 3) rfl) rfl rfl dX6_treeOf_78 81 rfl ?_
    refine z_aload_n C dX6_treeOf_81 rfl 0 rfl 82 rfl ?_
    refine z_get C (in_X6_treeOf_X6) 0 rfl rfl 3 (by decide) (List.mem_of_getElem? (i := 4) rfl) rfl rfl dX6_treeOf_82 85 rfl ?_
    refine z_aload_n C dX6_treeOf_85 rfl 0 rfl 86 rfl ?_
    refine z_get C (in_X6_treeOf_X6) 0 rfl rfl 7 (by decide) (List.mem_of_getElem? (i := 6) rfl) rfl rfl dX6_treeOf_86 89 rfl ?_
    refine z_callV C (wX1 T a2 S2 ++ wX0 T a4 S4 ++ wX5 T a8 S8) (wX6 a0 a1 a2 a3 a4 a5 a6 a7 a8 a9 ++ wX4 T a1 S1 ++ wX1 T a3 S3 ++ wX5 T a5 S5 ++ wX5 T a6 S6 ++ wX5 T a7 S7 ++ wX3 T a9 S9) (fun z => wX1 T a2 S2 ++ wX0 T a4 z.1 ++ wX5 T a8 z.2) (fun z => wX6 a0 a1 a2 a3 a4 a5 a6 a7 a8 a9 ++ wX4 T a1 S1 ++ wX1 T a2 S2 ++ wX1 T a3 S3 ++ wX0 T a4 z.1 ++ wX5 T a5 S5 ++ wX5 T a6 S6 ++ wX5 T a7 S7 ++ wX5 T a8 z.2 ++ wX3 T a9 S9) (fun z h => c_X2_drawLeast l D T a2 a4 a8  S2 S4 S8  z h) ⟨rfl, rfl⟩ (z_cwS C 3 gX6_treeOf_X2_drawLeast rfl dd_X2_drawLeast ⟨(Nat.le_of_ble_eq_true rfl), (Nat.le_of_ble_eq_true rfl)⟩) (hD.zaddr rfl) [3, 4, 5, 6, 7, 13, 14, 15, 16, 17, 18, 19, 29, 30, 31] [0, 1, 2, 8, 9, 10, 11, 12, 20, 21, 22, 23, 24, 25, 26, 27, 28, 32, 33] [0, 1, 2, 19, 20, 21, 22, 23, 3, 4, 5, 6, 7, 24, 25, 26, 27, 28, 29, 30, 8, 9, 10, 11, 12, 13, 14, 15, 16, 31, 32, 33, 17, 18] rfl rfl rfl (by decide) (fun _ => rfl) (fun h => absurd h (by decide)) (fun _ => rfl) rfl (Nat.le_of_ble_eq_true rfl) dX6_treeOf_89 92 rfl h (fun r_3 h => ?_)
    exact z_locals (ks := [0]) rfl (p_X6_treeOf_J92 C hr S1 S2 S3 r_3.1 S5 S6 S7 r_3.2 S9 (hD.zaddr rfl) h)

def f_X6_treeOf_J26 (S1 : Nat → Nat → Int32) (S2 : Nat → Nat → Int32) (S3 : Nat → Nat → Int32) (S4 : Nat → Nat → Int32) (S5 : Nat → Nat → Int32) (S6 : Nat → Nat → Int32) (S7 : Nat → Nat → Int32) (S8 : Nat → Nat → Int32) (S9 : Nat → Nat → Int32)   : Option (Nat × (Nat → Nat → Int32) × (Nat → Nat → Int32) × (Nat → Nat → Int32) × (Nat → Nat → Int32) × (Nat → Nat → Int32)) := some (5, S4, S5, S6, S7, S8)
set_option maxHeartbeats 4000000 in
set_option maxRecDepth 100000 in
theorem p_X6_treeOf_J26 {w0 : va_W} (C : zC p R s m args meth c cX6_treeOf 2 RX6 wsX6_treeOf D T 5 129 0 0) (hr : meth.sig.returnType = some (.object "StreamTree$Tree")) (S1 : Nat → Nat → Int32) (S2 : Nat → Nat → Int32) (S3 : Nat → Nat → Int32) (S4 : Nat → Nat → Int32) (S5 : Nat → Nat → Int32) (S6 : Nat → Nat → Int32) (S7 : Nat → Nat → Int32) (S8 : Nat → Nat → Int32) (S9 : Nat → Nat → Int32)   (hD : va_D (zA w0) (wX6 a0 a1 a2 a3 a4 a5 a6 a7 a8 a9 ++ wX4 T a1 S1 ++ wX1 T a2 S2 ++ wX1 T a3 S3 ++ wX0 T a4 S4 ++ wX5 T a5 S5 ++ wX5 T a6 S6 ++ wX5 T a7 S7 ++ wX5 T a8 S8 ++ wX3 T a9 S9)) {ex : Nat × (Nat → Nat → Int32) × (Nat → Nat → Int32) × (Nat → Nat → Int32) × (Nat → Nat → Int32) × (Nat → Nat → Int32)} (h : f_X6_treeOf_J26 S1 S2 S3 S4 S5 S6 S7 S8 S9 = some ex) : zt p l e R s m args below meth c 2 (zA w0) D 0 0 (MQ below (zQA D w0 (if ex.1 = 5 then a5 99 else if ex.1 = 6 then a6 99 else a8 99) (wX6 a0 a1 a2 a3 a4 a5 a6 a7 a8 a9 ++ wX4 T a1 S1 ++ wX1 T a2 S2 ++ wX1 T a3 S3 ++ wX0 T a4 ex.2.1 ++ wX5 T a5 ex.2.2.1 ++ wX5 T a6 ex.2.2.2.1 ++ wX5 T a7 ex.2.2.2.2.1 ++ wX5 T a8 ex.2.2.2.2.2 ++ wX3 T a9 S9)) args s 0 0 (zA w0)) (wX6 a0 a1 a2 a3 a4 a5 a6 a7 a8 a9 ++ wX4 T a1 S1 ++ wX1 T a2 S2 ++ wX1 T a3 S3 ++ wX0 T a4 S4 ++ wX5 T a5 S5 ++ wX5 T a6 S6 ++ wX5 T a7 S7 ++ wX5 T a8 S8 ++ wX3 T a9 S9) [(0, .ref (a0 99))] 26 [] := by
  unfold f_X6_treeOf_J26 at h
  refine z_aload_n C dX6_treeOf_26 rfl 0 rfl 27 rfl ?_
  refine z_get C (in_X6_treeOf_X6) 0 rfl rfl 4 (by decide) (List.mem_of_getElem? (i := 1) rfl) rfl rfl dX6_treeOf_27 30 rfl ?_
  exact z_aretW (fun z => if z.1 = 5 then a5 99 else if z.1 = 6 then a6 99 else a8 99) (fun z => wX6 a0 a1 a2 a3 a4 a5 a6 a7 a8 a9 ++ wX4 T a1 S1 ++ wX1 T a2 S2 ++ wX1 T a3 S3 ++ wX0 T a4 z.2.1 ++ wX5 T a5 z.2.2.1 ++ wX5 T a6 z.2.2.2.1 ++ wX5 T a7 z.2.2.2.2.1 ++ wX5 T a8 z.2.2.2.2.2 ++ wX3 T a9 S9) C hr dX6_treeOf_30 h rfl rfl

def f_X6_treeOf (S1 : Nat → Nat → Int32) (S2 : Nat → Nat → Int32) (S3 : Nat → Nat → Int32) (S4 : Nat → Nat → Int32) (S5 : Nat → Nat → Int32) (S6 : Nat → Nat → Int32) (S7 : Nat → Nat → Int32) (S8 : Nat → Nat → Int32) (S9 : Nat → Nat → Int32) (v1 : Int32) : Option (Nat × (Nat → Nat → Int32) × (Nat → Nat → Int32) × (Nat → Nat → Int32) × (Nat → Nat → Int32) × (Nat → Nat → Int32)) := if v1 = 1 then (if (S5 0 0) = 0 then ((f_X2_drawStraight S2 S5).bind fun r_5 => f_X6_treeOf_J26 S1 S2 S3 S4 r_5 S6 S7 S8 S9) else (f_X6_treeOf_J26 S1 S2 S3 S4 S5 S6 S7 S8 S9)) else (if v1 = 4 then (if (S4 0 0) = 0 then (if (S8 0 0) = 0 then ((f_X0_fill S4 S2).bind fun r_4 => f_X6_treeOf_J67 S1 S2 S3 r_4 S5 S6 S7 S8 S9) else (f_X6_treeOf_J67 S1 S2 S3 S4 S5 S6 S7 S8 S9)) else (f_X6_treeOf_J67 S1 S2 S3 S4 S5 S6 S7 S8 S9)) else (if (S6 0 0) = 0 then ((f_X2_drawLean S2 S6).bind fun r_2 => f_X6_treeOf_J118 S1 S2 S3 S4 S5 r_2 S7 S8 S9 v1) else (f_X6_treeOf_J118 S1 S2 S3 S4 S5 S6 S7 S8 S9 v1)))
theorem dd_X6_treeOf : RX6 ≠ "java/lang/invoke/MethodHandle" ∧ RX6 ≠ "java/lang/invoke/VarHandle" ∧ (parseMethodDescriptor yX6_treeOf.desc).map (fun d => d.parameters.length) = some 1 := by decide +kernel
set_option maxHeartbeats 4000000 in
set_option maxRecDepth 100000 in
theorem c_X6_treeOf (l : Launch) (D : va_G) (T : Nat → ClassId) (a0 : Nat → Nat) (a1 : Nat → Nat) (a2 : Nat → Nat) (a3 : Nat → Nat) (a4 : Nat → Nat) (a5 : Nat → Nat) (a6 : Nat → Nat) (a7 : Nat → Nat) (a8 : Nat → Nat) (a9 : Nat → Nat) (S1 : Nat → Nat → Int32) (S2 : Nat → Nat → Int32) (S3 : Nat → Nat → Int32) (S4 : Nat → Nat → Int32) (S5 : Nat → Nat → Int32) (S6 : Nat → Nat → Int32) (S7 : Nat → Nat → Int32) (S8 : Nat → Nat → Int32) (S9 : Nat → Nat → Int32) (v1 : Int32) (ex : Nat × (Nat → Nat → Int32) × (Nat → Nat → Int32) × (Nat → Nat → Int32) × (Nat → Nat → Int32) × (Nat → Nat → Int32)) (h : f_X6_treeOf S1 S2 S3 S4 S5 S6 S7 S8 S9 v1 = some ex) : zWA l yX6_treeOf wsX6_treeOf ({ frames := 5, cells := 0, slots := 0, locals := 129 } : Room) D T [.ref (a0 99), .int v1] (wX6 a0 a1 a2 a3 a4 a5 a6 a7 a8 a9 ++ wX4 T a1 S1 ++ wX1 T a2 S2 ++ wX1 T a3 S3 ++ wX0 T a4 S4 ++ wX5 T a5 S5 ++ wX5 T a6 S6 ++ wX5 T a7 S7 ++ wX5 T a8 S8 ++ wX3 T a9 S9) (if ex.1 = 5 then a5 99 else if ex.1 = 6 then a6 99 else a8 99) (wX6 a0 a1 a2 a3 a4 a5 a6 a7 a8 a9 ++ wX4 T a1 S1 ++ wX1 T a2 S2 ++ wX1 T a3 S3 ++ wX0 T a4 ex.2.1 ++ wX5 T a5 ex.2.2.1 ++ wX5 T a6 ex.2.2.2.1 ++ wX5 T a7 ex.2.2.2.2.1 ++ wX5 T a8 ex.2.2.2.2.2 ++ wX3 T a9 S9) := by
  refine z_begin (cc := cX6_treeOf) (nL := 2) (own := RX6) (fr := 5) (lc := 129) (ret := some (.object "StreamTree$Tree")) (by decide) rfl (Nat.le_of_ble_eq_true rfl) (zA (wX6 a0 a1 a2 a3 a4 a5 a6 a7 a8 a9 ++ wX4 T a1 S1 ++ wX1 T a2 S2 ++ wX1 T a3 S3 ++ wX0 T a4 S4 ++ wX5 T a5 S5 ++ wX5 T a6 S6 ++ wX5 T a7 S7 ++ wX5 T a8 S8 ++ wX3 T a9 S9)) rfl [(0, .ref (a0 99)), (1, .int v1)] rfl ⟨rfl, rfl⟩ rfl ?_
  intro p e s m args below meth c C hr hD
  have hD := hD.zself
  unfold f_X6_treeOf at h
  refine z_iload_n C dX6_treeOf_0 rfl 1 rfl 1 rfl ?_
  refine z_iconst C 1 dX6_treeOf_1 (by decide) 2 rfl ?_
  refine z_icmp_ne C 31 dX6_treeOf_2 (by decide) 5 rfl h (fun h => ?_) (fun h => ?_)
  · refine z_iload_n C dX6_treeOf_31 rfl 1 rfl 32 rfl ?_
    refine z_iconst C 4 dX6_treeOf_32 (by decide) 33 rfl ?_
    refine z_icmp_ne C 97 dX6_treeOf_33 (by decide) 36 rfl h (fun h => ?_) (fun h => ?_)
    · refine z_aload_n C dX6_treeOf_97 rfl 0 rfl 98 rfl ?_
      refine z_get C (in_X6_treeOf_X6) 0 rfl rfl 5 (by decide) (List.mem_of_getElem? (i := 7) rfl) rfl rfl dX6_treeOf_98 101 rfl ?_
      refine z_get C (in_X6_treeOf_X5) 23 rfl rfl 0 (by decide) (List.mem_of_getElem? (i := 2) rfl) rfl rfl dX6_treeOf_101 104 rfl ?_
      refine z_if_ne C 118 dX6_treeOf_104 (by decide) 107 rfl h (fun h => ?_) (fun h => ?_)
      · exact z_locals (ks := [0, 1]) rfl (p_X6_treeOf_J118 C hr S1 S2 S3 S4 S5 S6 S7 S8 S9 v1 (hD.zaddr rfl) h)
      · refine z_aload_n C dX6_treeOf_107 rfl 0 rfl 108 rfl ?_
        refine z_get C (in_X6_treeOf_X6) 0 rfl rfl 1 (by decide) (List.mem_of_getElem? (i := 3) rfl) rfl rfl dX6_treeOf_108 111 rfl ?_
        refine z_aload_n C dX6_treeOf_111 rfl 0 rfl 112 rfl ?_
        refine z_get C (in_X6_treeOf_X6) 0 rfl rfl 5 (by decide) (List.mem_of_getElem? (i := 7) rfl) rfl rfl dX6_treeOf_112 115 rfl ?_
        refine z_callV C (wX1 T a2 S2 ++ wX5 T a6 S6) (wX6 a0 a1 a2 a3 a4 a5 a6 a7 a8 a9 ++ wX4 T a1 S1 ++ wX1 T a3 S3 ++ wX0 T a4 S4 ++ wX5 T a5 S5 ++ wX5 T a7 S7 ++ wX5 T a8 S8 ++ wX3 T a9 S9) (fun z => wX1 T a2 S2 ++ wX5 T a6 z) (fun z => wX6 a0 a1 a2 a3 a4 a5 a6 a7 a8 a9 ++ wX4 T a1 S1 ++ wX1 T a2 S2 ++ wX1 T a3 S3 ++ wX0 T a4 S4 ++ wX5 T a5 S5 ++ wX5 T a6 z ++ wX5 T a7 S7 ++ wX5 T a8 S8 ++ wX3 T a9 S9) (fun z h => c_X2_drawLean l D T a2 a6  S2 S6  z h) ⟨rfl, rfl⟩ (z_cwS C 2 gX6_treeOf_X2_drawLean rfl dd_X2_drawLean ⟨(Nat.le_of_ble_eq_true rfl), (Nat.le_of_ble_eq_true rfl)⟩) (hD.zaddr rfl) [3, 4, 5, 6, 7, 23, 24, 25] [0, 1, 2, 8, 9, 10, 11, 12, 13, 14, 15, 16, 17, 18, 19, 20, 21, 22, 26, 27, 28, 29, 30, 31, 32, 33] [0, 1, 2, 26, 27, 28, 29, 30, 3, 4, 5, 6, 7, 8, 9, 10, 11, 12, 13, 14, 15, 16, 17, 31, 32, 33, 18, 19, 20, 21, 22, 23, 24, 25] rfl rfl rfl (by decide) (fun _ => rfl) (fun h => absurd h (by decide)) (fun _ => rfl) rfl (Nat.le_of_ble_eq_true rfl) dX6_treeOf_115 118 rfl h (fun r_2 h => ?_)
        exact z_locals (ks := [0, 1]) rfl (p_X6_treeOf_J118 C hr S1 S2 S3 S4 S5 r_2 S7 S8 S9 v1 (hD.zaddr rfl) h)
    · refine z_aload_n C dX6_treeOf_36 rfl 0 rfl 37 rfl ?_
      refine z_get C (in_X6_treeOf_X6) 0 rfl rfl 3 (by decide) (List.mem_of_getElem? (i := 4) rfl) rfl rfl dX6_treeOf_37 40 rfl ?_
      refine z_get C (in_X6_treeOf_X0) 13 rfl rfl 0 (by decide) (List.mem_of_getElem? (i := 5) rfl) rfl rfl dX6_treeOf_40 43 rfl ?_
      refine z_if_ne C 67 dX6_treeOf_43 (by decide) 46 rfl h (fun h => ?_) (fun h => ?_)
      · exact z_locals (ks := [0]) rfl (p_X6_treeOf_J67 C hr S1 S2 S3 S4 S5 S6 S7 S8 S9 (hD.zaddr rfl) h)
      · refine z_aload_n C dX6_treeOf_46 rfl 0 rfl 47 rfl ?_
        refine z_get C (in_X6_treeOf_X6) 0 rfl rfl 7 (by decide) (List.mem_of_getElem? (i := 6) rfl) rfl rfl dX6_treeOf_47 50 rfl ?_
        refine z_get C (in_X6_treeOf_X5) 29 rfl rfl 0 (by decide) (List.mem_of_getElem? (i := 2) rfl) rfl rfl dX6_treeOf_50 53 rfl ?_
        refine z_if_ne C 67 dX6_treeOf_53 (by decide) 56 rfl h (fun h => ?_) (fun h => ?_)
        · exact z_locals (ks := [0]) rfl (p_X6_treeOf_J67 C hr S1 S2 S3 S4 S5 S6 S7 S8 S9 (hD.zaddr rfl) h)
        · refine z_aload_n C dX6_treeOf_56 rfl 0 rfl 57 rfl ?_
          refine z_get C (in_X6_treeOf_X6) 0 rfl rfl 3 (by decide) (List.mem_of_getElem? (i := 4) rfl) rfl rfl dX6_treeOf_57 60 rfl ?_
          refine z_aload_n C dX6_treeOf_60 rfl 0 rfl 61 rfl ?_
          refine z_get C (in_X6_treeOf_X6) 0 rfl rfl 1 (by decide) (List.mem_of_getElem? (i := 3) rfl) rfl rfl dX6_treeOf_61 64 rfl ?_
          refine z_callV C (wX0 T a4 S4 ++ wX1 T a2 S2) (wX6 a0 a1 a2 a3 a4 a5 a6 a7 a8 a9 ++ wX4 T a1 S1 ++ wX1 T a3 S3 ++ wX5 T a5 S5 ++ wX5 T a6 S6 ++ wX5 T a7 S7 ++ wX5 T a8 S8 ++ wX3 T a9 S9) (fun z => wX0 T a4 z ++ wX1 T a2 S2) (fun z => wX6 a0 a1 a2 a3 a4 a5 a6 a7 a8 a9 ++ wX4 T a1 S1 ++ wX1 T a2 S2 ++ wX1 T a3 S3 ++ wX0 T a4 z ++ wX5 T a5 S5 ++ wX5 T a6 S6 ++ wX5 T a7 S7 ++ wX5 T a8 S8 ++ wX3 T a9 S9) (fun z h => c_X0_fill l D T a4 a2  S4 S2  z h) ⟨rfl, rfl⟩ (z_cwV C 1 gX6_treeOf_X0_fill rfl rfl dd_X0_fill ⟨(Nat.le_of_ble_eq_true rfl), (Nat.le_of_ble_eq_true rfl)⟩) (hD.zaddr rfl) [13, 14, 15, 16, 17, 18, 19, 3, 4, 5, 6, 7] [0, 1, 2, 8, 9, 10, 11, 12, 20, 21, 22, 23, 24, 25, 26, 27, 28, 29, 30, 31, 32, 33] [0, 1, 2, 29, 30, 31, 32, 33, 3, 4, 5, 6, 7, 22, 23, 24, 25, 26, 27, 28, 8, 9, 10, 11, 12, 13, 14, 15, 16, 17, 18, 19, 20, 21] rfl rfl rfl (by decide) (fun _ => rfl) (fun _ => ⟨a4 99, [.ref (a2 99)], 0, 0, _, _, rfl, rfl, rfl, rfl, rfl⟩) (fun h => absurd rfl h) rfl (Nat.le_of_ble_eq_true rfl) dX6_treeOf_64 67 rfl h (fun r_4 h => ?_)
          exact z_locals (ks := [0]) rfl (p_X6_treeOf_J67 C hr S1 S2 S3 r_4 S5 S6 S7 S8 S9 (hD.zaddr rfl) h)
  · refine z_aload_n C dX6_treeOf_5 rfl 0 rfl 6 rfl ?_
    refine z_get C (in_X6_treeOf_X6) 0 rfl rfl 4 (by decide) (List.mem_of_getElem? (i := 1) rfl) rfl rfl dX6_treeOf_6 9 rfl ?_
    refine z_get C (in_X6_treeOf_X5) 20 rfl rfl 0 (by decide) (List.mem_of_getElem? (i := 2) rfl) rfl rfl dX6_treeOf_9 12 rfl ?_
    refine z_if_ne C 26 dX6_treeOf_12 (by decide) 15 rfl h (fun h => ?_) (fun h => ?_)
    · exact z_locals (ks := [0]) rfl (p_X6_treeOf_J26 C hr S1 S2 S3 S4 S5 S6 S7 S8 S9 (hD.zaddr rfl) h)
    · refine z_aload_n C dX6_treeOf_15 rfl 0 rfl 16 rfl ?_
      refine z_get C (in_X6_treeOf_X6) 0 rfl rfl 1 (by decide) (List.mem_of_getElem? (i := 3) rfl) rfl rfl dX6_treeOf_16 19 rfl ?_
      refine z_aload_n C dX6_treeOf_19 rfl 0 rfl 20 rfl ?_
      refine z_get C (in_X6_treeOf_X6) 0 rfl rfl 4 (by decide) (List.mem_of_getElem? (i := 1) rfl) rfl rfl dX6_treeOf_20 23 rfl ?_
      refine z_callV C (wX1 T a2 S2 ++ wX5 T a5 S5) (wX6 a0 a1 a2 a3 a4 a5 a6 a7 a8 a9 ++ wX4 T a1 S1 ++ wX1 T a3 S3 ++ wX0 T a4 S4 ++ wX5 T a6 S6 ++ wX5 T a7 S7 ++ wX5 T a8 S8 ++ wX3 T a9 S9) (fun z => wX1 T a2 S2 ++ wX5 T a5 z) (fun z => wX6 a0 a1 a2 a3 a4 a5 a6 a7 a8 a9 ++ wX4 T a1 S1 ++ wX1 T a2 S2 ++ wX1 T a3 S3 ++ wX0 T a4 S4 ++ wX5 T a5 z ++ wX5 T a6 S6 ++ wX5 T a7 S7 ++ wX5 T a8 S8 ++ wX3 T a9 S9) (fun z h => c_X2_drawStraight l D T a2 a5  S2 S5  z h) ⟨rfl, rfl⟩ (z_cwS C 2 gX6_treeOf_X2_drawStraight rfl dd_X2_drawStraight ⟨(Nat.le_of_ble_eq_true rfl), (Nat.le_of_ble_eq_true rfl)⟩) (hD.zaddr rfl) [3, 4, 5, 6, 7, 20, 21, 22] [0, 1, 2, 8, 9, 10, 11, 12, 13, 14, 15, 16, 17, 18, 19, 23, 24, 25, 26, 27, 28, 29, 30, 31, 32, 33] [0, 1, 2, 26, 27, 28, 29, 30, 3, 4, 5, 6, 7, 8, 9, 10, 11, 12, 13, 14, 31, 32, 33, 15, 16, 17, 18, 19, 20, 21, 22, 23, 24, 25] rfl rfl rfl (by decide) (fun _ => rfl) (fun h => absurd h (by decide)) (fun _ => rfl) rfl (Nat.le_of_ble_eq_true rfl) dX6_treeOf_23 26 rfl h (fun r_5 h => ?_)
      exact z_locals (ks := [0]) rfl (p_X6_treeOf_J26 C hr S1 S2 S3 S4 r_5 S6 S7 S8 S9 (hD.zaddr rfl) h)

end
/-! StreamTree.inkOfAllAlone ()I -/
section
variable {p : Program} {l : Launch} {e : Env} {R : Room} {s : State} {m : MethodId} {args : Array Value} {below : List Frame} {meth : Method} {c : Code} {Q : State → Prop} {A : Nat → Prop} {D : va_G} {T : Nat → ClassId} {a0 : Nat → Nat} {a1 : Nat → Nat} {a2 : Nat → Nat} {a3 : Nat → Nat} {a4 : Nat → Nat} {a5 : Nat → Nat} {a6 : Nat → Nat} {a7 : Nat → Nat} {a8 : Nat → Nat} {a9 : Nat → Nat}
theorem in_X6_inkOfAllAlone_X1 : ∀ w ∈ u_ws RX1 TX1 10, w ∈ wsX6_inkOfAllAlone := fun _ h => (List.mem_cons_of_mem _ (List.mem_append_left _ (List.mem_append_right _ h)))
theorem in_X6_inkOfAllAlone_X6 : ∀ w ∈ u_ws RX6 TX6 9, w ∈ wsX6_inkOfAllAlone := fun _ h => (List.mem_cons_of_mem _ (List.mem_append_left _ (List.mem_append_left _ (List.mem_append_right _ h))))
def f_X6_inkOfAllAlone_L9b (S1 : Nat → Nat → Int32) (S2 : Nat → Nat → Int32) (S3 : Nat → Nat → Int32) (S4 : Nat → Nat → Int32) (S5 : Nat → Nat → Int32) (S6 : Nat → Nat → Int32) (S7 : Nat → Nat → Int32) (S8 : Nat → Nat → Int32) (S9 : Nat → Nat → Int32)  (rec : (Int32 × Int32) → Option (Nat × Int32)) (a : Int32 × Int32) : Option (Nat × Int32) := if (S2 5 0) ≤ a.2 then (some (1, a.1)) else ((f_X0_inkOf S4 0 (1 <<< (a.2 &&& 31))).bind fun r_2 => if r_2 = (-2) then (some (0, 0)) else (zlet (a.1 + r_2) fun u_3 => rec (u_3, (a.2 + 1))))
def f_X6_inkOfAllAlone_L9 (S1 : Nat → Nat → Int32) (S2 : Nat → Nat → Int32) (S3 : Nat → Nat → Int32) (S4 : Nat → Nat → Int32) (S5 : Nat → Nat → Int32) (S6 : Nat → Nat → Int32) (S7 : Nat → Nat → Int32) (S8 : Nat → Nat → Int32) (S9 : Nat → Nat → Int32)  : Nat → (Int32 × Int32) → Option (Nat × Int32) := zloop (fun rec a => f_X6_inkOfAllAlone_L9b S1 S2 S3 S4 S5 S6 S7 S8 S9 rec a)
set_option maxHeartbeats 4000000 in
set_option maxRecDepth 100000 in
theorem p_X6_inkOfAllAlone_L9 (C : zC p R s m args meth c cX6_inkOfAllAlone 4 RX6 wsX6_inkOfAllAlone D T 6 148 0 0) (S1 : Nat → Nat → Int32) (S2 : Nat → Nat → Int32) (S3 : Nat → Nat → Int32) (S4 : Nat → Nat → Int32) (S5 : Nat → Nat → Int32) (S6 : Nat → Nat → Int32) (S7 : Nat → Nat → Int32) (S8 : Nat → Nat → Int32) (S9 : Nat → Nat → Int32)  (hD : va_D A (wX6 a0 a1 a2 a3 a4 a5 a6 a7 a8 a9 ++ wX4 T a1 S1 ++ wX1 T a2 S2 ++ wX1 T a3 S3 ++ wX0 T a4 S4 ++ wX5 T a5 S5 ++ wX5 T a6 S6 ++ wX5 T a7 S7 ++ wX5 T a8 S8 ++ wX3 T a9 S9)) : ∀ (n : Nat) (c0 : Int32) (c1 : Int32) (b : Nat × Int32), f_X6_inkOfAllAlone_L9 S1 S2 S3 S4 S5 S6 S7 S8 S9 n (c0, c1) = some b → ((b.1 = 0 → zt p l e R s m args below meth c 4 A D 0 0 Q (wX6 a0 a1 a2 a3 a4 a5 a6 a7 a8 a9 ++ wX4 T a1 S1 ++ wX1 T a2 S2 ++ wX1 T a3 S3 ++ wX0 T a4 S4 ++ wX5 T a5 S5 ++ wX5 T a6 S6 ++ wX5 T a7 S7 ++ wX5 T a8 S8 ++ wX3 T a9 S9) [] 38 []) ∧ (b.1 = 1 → zt p l e R s m args below meth c 4 A D 0 0 Q (wX6 a0 a1 a2 a3 a4 a5 a6 a7 a8 a9 ++ wX4 T a1 S1 ++ wX1 T a2 S2 ++ wX1 T a3 S3 ++ wX0 T a4 S4 ++ wX5 T a5 S5 ++ wX5 T a6 S6 ++ wX5 T a7 S7 ++ wX5 T a8 S8 ++ wX3 T a9 S9) [(1, .int b.2)] 51 [])) → zt p l e R s m args below meth c 4 A D 0 0 Q (wX6 a0 a1 a2 a3 a4 a5 a6 a7 a8 a9 ++ wX4 T a1 S1 ++ wX1 T a2 S2 ++ wX1 T a3 S3 ++ wX0 T a4 S4 ++ wX5 T a5 S5 ++ wX5 T a6 S6 ++ wX5 T a7 S7 ++ wX5 T a8 S8 ++ wX3 T a9 S9) [(0, .ref (a0 99)), (1, .int c0), (2, .int c1)] 9 [] := by
  intro n c0 c1 b h K
  refine zloop_ind (P := fun a b => ((b.1 = 0 → zt p l e R s m args below meth c 4 A D 0 0 Q (wX6 a0 a1 a2 a3 a4 a5 a6 a7 a8 a9 ++ wX4 T a1 S1 ++ wX1 T a2 S2 ++ wX1 T a3 S3 ++ wX0 T a4 S4 ++ wX5 T a5 S5 ++ wX5 T a6 S6 ++ wX5 T a7 S7 ++ wX5 T a8 S8 ++ wX3 T a9 S9) [] 38 []) ∧ (b.1 = 1 → zt p l e R s m args below meth c 4 A D 0 0 Q (wX6 a0 a1 a2 a3 a4 a5 a6 a7 a8 a9 ++ wX4 T a1 S1 ++ wX1 T a2 S2 ++ wX1 T a3 S3 ++ wX0 T a4 S4 ++ wX5 T a5 S5 ++ wX5 T a6 S6 ++ wX5 T a7 S7 ++ wX5 T a8 S8 ++ wX3 T a9 S9) [(1, .int b.2)] 51 [])) → zt p l e R s m args below meth c 4 A D 0 0 Q (wX6 a0 a1 a2 a3 a4 a5 a6 a7 a8 a9 ++ wX4 T a1 S1 ++ wX1 T a2 S2 ++ wX1 T a3 S3 ++ wX0 T a4 S4 ++ wX5 T a5 S5 ++ wX5 T a6 S6 ++ wX5 T a7 S7 ++ wX5 T a8 S8 ++ wX3 T a9 S9) [(0, .ref (a0 99)), (1, .int a.1), (2, .int a.2)] 9 []) ?_ n (c0, c1) b h K
  clear h K b c0 c1
  intro rec hrec a b h K
  have hrec : ∀ (c0 : Int32) (c1 : Int32) (b : Nat × Int32), rec (c0, c1) = some b → ((b.1 = 0 → zt p l e R s m args below meth c 4 A D 0 0 Q (wX6 a0 a1 a2 a3 a4 a5 a6 a7 a8 a9 ++ wX4 T a1 S1 ++ wX1 T a2 S2 ++ wX1 T a3 S3 ++ wX0 T a4 S4 ++ wX5 T a5 S5 ++ wX5 T a6 S6 ++ wX5 T a7 S7 ++ wX5 T a8 S8 ++ wX3 T a9 S9) [] 38 []) ∧ (b.1 = 1 → zt p l e R s m args below meth c 4 A D 0 0 Q (wX6 a0 a1 a2 a3 a4 a5 a6 a7 a8 a9 ++ wX4 T a1 S1 ++ wX1 T a2 S2 ++ wX1 T a3 S3 ++ wX0 T a4 S4 ++ wX5 T a5 S5 ++ wX5 T a6 S6 ++ wX5 T a7 S7 ++ wX5 T a8 S8 ++ wX3 T a9 S9) [(1, .int b.2)] 51 [])) → zt p l e R s m args below meth c 4 A D 0 0 Q (wX6 a0 a1 a2 a3 a4 a5 a6 a7 a8 a9 ++ wX4 T a1 S1 ++ wX1 T a2 S2 ++ wX1 T a3 S3 ++ wX0 T a4 S4 ++ wX5 T a5 S5 ++ wX5 T a6 S6 ++ wX5 T a7 S7 ++ wX5 T a8 S8 ++ wX3 T a9 S9) [(0, .ref (a0 99)), (1, .int c0), (2, .int c1)] 9 [] := fun c0 c1 b h K => hrec (c0, c1) b h K
  unfold f_X6_inkOfAllAlone_L9b at h
  refine z_iload_n C dX6_inkOfAllAlone_9 rfl 2 rfl 10 rfl ?_
  refine z_aload_n C dX6_inkOfAllAlone_10 rfl 0 rfl 11 rfl ?_
  refine z_get C (in_X6_inkOfAllAlone_X6) 0 rfl rfl 1 (by decide) (List.mem_of_getElem? (i := 1) rfl) rfl rfl dX6_inkOfAllAlone_11 14 rfl ?_
  refine z_get C (in_X6_inkOfAllAlone_X1) 3 rfl rfl 5 (by decide) (List.mem_of_getElem? (i := 2) rfl) rfl rfl dX6_inkOfAllAlone_14 17 rfl ?_
  refine z_icmp_ge C 51 dX6_inkOfAllAlone_17 (by decide) 20 rfl h (fun h => ?_) (fun h => ?_)
  · refine z_locals (ks := [1]) (lv' := [(1, .int a.1)]) rfl ?_
    exact zexT1 (F := (fun e0 => zt p l e R s m args below meth c 4 A D 0 0 Q (wX6 a0 a1 a2 a3 a4 a5 a6 a7 a8 a9 ++ wX4 T a1 S1 ++ wX1 T a2 S2 ++ wX1 T a3 S3 ++ wX0 T a4 S4 ++ wX5 T a5 S5 ++ wX5 T a6 S6 ++ wX5 T a7 S7 ++ wX5 T a8 S8 ++ wX3 T a9 S9) [(1, .int e0)] 51 [])) h K.2
  · refine z_aload_n C dX6_inkOfAllAlone_20 rfl 0 rfl 21 rfl ?_
    refine z_get C (in_X6_inkOfAllAlone_X6) 0 rfl rfl 3 (by decide) (List.mem_of_getElem? (i := 3) rfl) rfl rfl dX6_inkOfAllAlone_21 24 rfl ?_
    refine z_iconst C 0 dX6_inkOfAllAlone_24 (by decide) 25 rfl ?_
    refine z_iconst C 1 dX6_inkOfAllAlone_25 (by decide) 26 rfl ?_
    refine z_iload_n C dX6_inkOfAllAlone_26 rfl 2 rfl 27 rfl ?_
    refine z_ishl C dX6_inkOfAllAlone_27 28 rfl ?_
    refine z_callR C (wX0 T a4 S4) (fun v h => c_X0_inkOf l D T a4  S4 0 (1 <<< (a.2 &&& 31)) v h) ⟨rfl, rfl⟩ (z_cwV C 2 gX6_inkOfAllAlone_X0_inkOf rfl rfl dd_X0_inkOf ⟨(Nat.le_of_ble_eq_true rfl), (Nat.le_of_ble_eq_true rfl)⟩) (hD.zaddr rfl) [13, 14, 15, 16, 17, 18, 19] rfl rfl (fun _ => ⟨a4 99, [.int 0, .int (1 <<< (a.2 &&& 31))], 0, 0, _, _, rfl, rfl, rfl, rfl, rfl⟩) (fun h => absurd rfl h) rfl (Nat.le_of_ble_eq_true rfl) dX6_inkOfAllAlone_28 31 rfl h (fun r_2 h => ?_)
    refine z_istore_n C [(0, .ref (a0 99)), (1, .int a.1), (2, .int a.2), (3, .int r_2)] dX6_inkOfAllAlone_31 rfl (Nat.le_of_ble_eq_true rfl) [1, 2, 3, 0] rfl 32 rfl ?_
    refine z_iload_n C dX6_inkOfAllAlone_32 rfl 3 rfl 33 rfl ?_
    refine z_bipush C (-2) dX6_inkOfAllAlone_33 (by decide) 35 rfl ?_
    refine z_icmp_ne C 41 dX6_inkOfAllAlone_35 (by decide) 38 rfl h (fun h => ?_) (fun h => ?_)
    · refine z_iload_n C dX6_inkOfAllAlone_41 rfl 1 rfl 42 rfl ?_
      refine z_iload_n C dX6_inkOfAllAlone_42 rfl 3 rfl 43 rfl ?_
      refine z_iadd C dX6_inkOfAllAlone_43 44 rfl ?_
      refine z_top h (fun u_3 h => ?_)
      refine z_istore_n C [(0, .ref (a0 99)), (1, .int u_3), (2, .int a.2), (3, .int r_2)] dX6_inkOfAllAlone_44 rfl (Nat.le_of_ble_eq_true rfl) [1, 0, 2, 3] rfl 45 rfl ?_
      refine z_iinc C (a.2 + 1) [(0, .ref (a0 99)), (1, .int u_3), (2, .int (a.2 + 1)), (3, .int r_2)] dX6_inkOfAllAlone_45 2 rfl rfl (Nat.le_of_ble_eq_true rfl) [1, 2, 0, 3] rfl 48 rfl ?_
      refine z_goto C 9 dX6_inkOfAllAlone_48 (by decide) ?_
      exact z_locals (ks := [0, 1, 2]) rfl (hrec _ _ _ h K)
    · refine z_locals (ks := []) (lv' := []) rfl ?_
      exact zexT1 (F := (fun e0 => zt p l e R s m args below meth c 4 A D 0 0 Q (wX6 a0 a1 a2 a3 a4 a5 a6 a7 a8 a9 ++ wX4 T a1 S1 ++ wX1 T a2 S2 ++ wX1 T a3 S3 ++ wX0 T a4 S4 ++ wX5 T a5 S5 ++ wX5 T a6 S6 ++ wX5 T a7 S7 ++ wX5 T a8 S8 ++ wX3 T a9 S9) [] 38 [])) h K.1

def f_X6_inkOfAllAlone (S1 : Nat → Nat → Int32) (S2 : Nat → Nat → Int32) (S3 : Nat → Nat → Int32) (S4 : Nat → Nat → Int32) (S5 : Nat → Nat → Int32) (S6 : Nat → Nat → Int32) (S7 : Nat → Nat → Int32) (S8 : Nat → Nat → Int32) (S9 : Nat → Nat → Int32)  : Option (Int32 × (Nat → Nat → Int32)) := (f_X6_knownBests S1 S2 S3 S4 S5 S6 S7 S8 S9).bind fun r_1 => (f_X6_inkOfAllAlone_L9 S1 S2 S3 r_1 S5 S6 S7 S8 S9 zfuel (0, 0)).bind fun y_4 => if y_4.1 = 0 then (some ((-2), r_1)) else (some (y_4.2, r_1))
theorem dd_X6_inkOfAllAlone : RX6 ≠ "java/lang/invoke/MethodHandle" ∧ RX6 ≠ "java/lang/invoke/VarHandle" ∧ (parseMethodDescriptor yX6_inkOfAllAlone.desc).map (fun d => d.parameters.length) = some 0 := by decide +kernel
set_option maxHeartbeats 4000000 in
set_option maxRecDepth 100000 in
theorem c_X6_inkOfAllAlone (l : Launch) (D : va_G) (T : Nat → ClassId) (a0 : Nat → Nat) (a1 : Nat → Nat) (a2 : Nat → Nat) (a3 : Nat → Nat) (a4 : Nat → Nat) (a5 : Nat → Nat) (a6 : Nat → Nat) (a7 : Nat → Nat) (a8 : Nat → Nat) (a9 : Nat → Nat) (S1 : Nat → Nat → Int32) (S2 : Nat → Nat → Int32) (S3 : Nat → Nat → Int32) (S4 : Nat → Nat → Int32) (S5 : Nat → Nat → Int32) (S6 : Nat → Nat → Int32) (S7 : Nat → Nat → Int32) (S8 : Nat → Nat → Int32) (S9 : Nat → Nat → Int32)  (ex : Int32 × (Nat → Nat → Int32)) (h : f_X6_inkOfAllAlone S1 S2 S3 S4 S5 S6 S7 S8 S9 = some ex) : zWI l yX6_inkOfAllAlone wsX6_inkOfAllAlone ({ frames := 6, cells := 0, slots := 0, locals := 148 } : Room) D T [.ref (a0 99)] (wX6 a0 a1 a2 a3 a4 a5 a6 a7 a8 a9 ++ wX4 T a1 S1 ++ wX1 T a2 S2 ++ wX1 T a3 S3 ++ wX0 T a4 S4 ++ wX5 T a5 S5 ++ wX5 T a6 S6 ++ wX5 T a7 S7 ++ wX5 T a8 S8 ++ wX3 T a9 S9) ex.1 (wX6 a0 a1 a2 a3 a4 a5 a6 a7 a8 a9 ++ wX4 T a1 S1 ++ wX1 T a2 S2 ++ wX1 T a3 S3 ++ wX0 T a4 ex.2 ++ wX5 T a5 S5 ++ wX5 T a6 S6 ++ wX5 T a7 S7 ++ wX5 T a8 S8 ++ wX3 T a9 S9) := by
  refine z_begin (cc := cX6_inkOfAllAlone) (nL := 4) (own := RX6) (fr := 6) (lc := 148) (ret := some .int) (by decide) rfl (Nat.le_of_ble_eq_true rfl) (zA (wX6 a0 a1 a2 a3 a4 a5 a6 a7 a8 a9 ++ wX4 T a1 S1 ++ wX1 T a2 S2 ++ wX1 T a3 S3 ++ wX0 T a4 S4 ++ wX5 T a5 S5 ++ wX5 T a6 S6 ++ wX5 T a7 S7 ++ wX5 T a8 S8 ++ wX3 T a9 S9)) rfl [(0, .ref (a0 99))] rfl ⟨rfl, rfl⟩ rfl ?_
  intro p e s m args below meth c C hr hD
  have hD := hD.zself
  unfold f_X6_inkOfAllAlone at h
  refine z_aload_n C dX6_inkOfAllAlone_0 rfl 0 rfl 1 rfl ?_
  refine z_callA C (wX6 a0 a1 a2 a3 a4 a5 a6 a7 a8 a9 ++ wX4 T a1 S1 ++ wX1 T a2 S2 ++ wX1 T a3 S3 ++ wX0 T a4 S4 ++ wX5 T a5 S5 ++ wX5 T a6 S6 ++ wX5 T a7 S7 ++ wX5 T a8 S8 ++ wX3 T a9 S9) (([] : va_W)) (fun z => a4 99) (fun z => wX6 a0 a1 a2 a3 a4 a5 a6 a7 a8 a9 ++ wX4 T a1 S1 ++ wX1 T a2 S2 ++ wX1 T a3 S3 ++ wX0 T a4 z ++ wX5 T a5 S5 ++ wX5 T a6 S6 ++ wX5 T a7 S7 ++ wX5 T a8 S8 ++ wX3 T a9 S9) (fun z => wX6 a0 a1 a2 a3 a4 a5 a6 a7 a8 a9 ++ wX4 T a1 S1 ++ wX1 T a2 S2 ++ wX1 T a3 S3 ++ wX0 T a4 z ++ wX5 T a5 S5 ++ wX5 T a6 S6 ++ wX5 T a7 S7 ++ wX5 T a8 S8 ++ wX3 T a9 S9) (fun z h => c_X6_knownBests l D T a0 a1 a2 a3 a4 a5 a6 a7 a8 a9  S1 S2 S3 S4 S5 S6 S7 S8 S9  z h) ⟨rfl, rfl⟩ (z_cwV C 0 gX6_inkOfAllAlone_X6_knownBests rfl rfl dd_X6_knownBests ⟨(Nat.le_of_ble_eq_true rfl), (Nat.le_of_ble_eq_true rfl)⟩) (hD.zaddr rfl) [0, 1, 2, 3, 4, 5, 6, 7, 8, 9, 10, 11, 12, 13, 14, 15, 16, 17, 18, 19, 20, 21, 22, 23, 24, 25, 26, 27, 28, 29, 30, 31, 32, 33] [] [0, 1, 2, 3, 4, 5, 6, 7, 8, 9, 10, 11, 12, 13, 14, 15, 16, 17, 18, 19, 20, 21, 22, 23, 24, 25, 26, 27, 28, 29, 30, 31, 32, 33] rfl rfl rfl (by decide) (fun _ => rfl) (fun _ => ⟨a0 99, [], 5, 0, _, _, rfl, rfl, rfl, rfl, rfl⟩) (fun h => absurd rfl h) rfl (Nat.le_of_ble_eq_true rfl) dX6_inkOfAllAlone_1 4 rfl h (fun r_1 h => ?_)
  refine z_pop C dX6_inkOfAllAlone_4 rfl 5 rfl ?_
  refine z_iconst C 0 dX6_inkOfAllAlone_5 (by decide) 6 rfl ?_
  refine z_istore_n C [(0, .ref (a0 99)), (1, .int 0)] dX6_inkOfAllAlone_6 rfl (Nat.le_of_ble_eq_true rfl) [1, 0] rfl 7 rfl ?_
  refine z_iconst C 0 dX6_inkOfAllAlone_7 (by decide) 8 rfl ?_
  refine z_istore_n C [(0, .ref (a0 99)), (1, .int 0), (2, .int 0)] dX6_inkOfAllAlone_8 rfl (Nat.le_of_ble_eq_true rfl) [1, 2, 0] rfl 9 rfl ?_
  obtain ⟨y_4, hl_y_4, h⟩ := Option.bind_eq_some_iff.mp h
  refine z_locals (ks := [0, 1, 2]) rfl (p_X6_inkOfAllAlone_L9 C S1 S2 S3 r_1 S5 S6 S7 S8 S9  (hD.zaddr rfl) _ _ _ _ hl_y_4 ⟨fun ht => ?_, fun ht => ?_⟩)
  · replace h := z_pos ht h
    refine z_bipush C (-2) dX6_inkOfAllAlone_38 (by decide) 40 rfl ?_
    exact z_iretW (fun z => wX6 a0 a1 a2 a3 a4 a5 a6 a7 a8 a9 ++ wX4 T a1 S1 ++ wX1 T a2 S2 ++ wX1 T a3 S3 ++ wX0 T a4 z ++ wX5 T a5 S5 ++ wX5 T a6 S6 ++ wX5 T a7 S7 ++ wX5 T a8 S8 ++ wX3 T a9 S9) C hr dX6_inkOfAllAlone_40 h rfl
  · replace h := z_neg (by rw [ht]; decide) h
    refine z_iload_n C dX6_inkOfAllAlone_51 rfl 0 rfl 52 rfl ?_
    exact z_iretW (fun z => wX6 a0 a1 a2 a3 a4 a5 a6 a7 a8 a9 ++ wX4 T a1 S1 ++ wX1 T a2 S2 ++ wX1 T a3 S3 ++ wX0 T a4 z ++ wX5 T a5 S5 ++ wX5 T a6 S6 ++ wX5 T a7 S7 ++ wX5 T a8 S8 ++ wX3 T a9 S9) C hr dX6_inkOfAllAlone_52 h rfl

end
/-! StreamTree.inkSavedByLeast ()I -/
section
variable {p : Program} {l : Launch} {e : Env} {R : Room} {s : State} {m : MethodId} {args : Array Value} {below : List Frame} {meth : Method} {c : Code} {Q : State → Prop} {A : Nat → Prop} {D : va_G} {T : Nat → ClassId} {a0 : Nat → Nat} {a1 : Nat → Nat} {a2 : Nat → Nat} {a3 : Nat → Nat} {a4 : Nat → Nat} {a5 : Nat → Nat} {a6 : Nat → Nat} {a7 : Nat → Nat} {a8 : Nat → Nat} {a9 : Nat → Nat}
theorem in_X6_inkSavedByLeast_X6 : ∀ w ∈ u_ws RX6 TX6 9, w ∈ wsX6_inkSavedByLeast := fun _ h => (List.mem_cons_of_mem _ (List.mem_append_left _ (List.mem_append_left _ (List.mem_append_right _ h))))
def f_X6_inkSavedByLeast (S1 : Nat → Nat → Int32) (S2 : Nat → Nat → Int32) (S3 : Nat → Nat → Int32) (S4 : Nat → Nat → Int32) (S5 : Nat → Nat → Int32) (S6 : Nat → Nat → Int32) (S7 : Nat → Nat → Int32) (S8 : Nat → Nat → Int32) (S9 : Nat → Nat → Int32)  : Option (Int32 × (Nat → Nat → Int32)) := (f_X6_inkOfAllAlone S1 S2 S3 S4 S5 S6 S7 S8 S9).bind fun r_1 => if r_1.1 = (-2) then (some ((-2), r_1.2)) else ((f_X1_allPlaces S2).bind fun r_2 => (f_X0_inkOf r_1.2 0 r_2).bind fun r_3 => some ((r_1.1 - r_3), r_1.2))
theorem dd_X6_inkSavedByLeast : RX6 ≠ "java/lang/invoke/MethodHandle" ∧ RX6 ≠ "java/lang/invoke/VarHandle" ∧ (parseMethodDescriptor yX6_inkSavedByLeast.desc).map (fun d => d.parameters.length) = some 0 := by decide +kernel
set_option maxHeartbeats 4000000 in
set_option maxRecDepth 100000 in
theorem c_X6_inkSavedByLeast (l : Launch) (D : va_G) (T : Nat → ClassId) (a0 : Nat → Nat) (a1 : Nat → Nat) (a2 : Nat → Nat) (a3 : Nat → Nat) (a4 : Nat → Nat) (a5 : Nat → Nat) (a6 : Nat → Nat) (a7 : Nat → Nat) (a8 : Nat → Nat) (a9 : Nat → Nat) (S1 : Nat → Nat → Int32) (S2 : Nat → Nat → Int32) (S3 : Nat → Nat → Int32) (S4 : Nat → Nat → Int32) (S5 : Nat → Nat → Int32) (S6 : Nat → Nat → Int32) (S7 : Nat → Nat → Int32) (S8 : Nat → Nat → Int32) (S9 : Nat → Nat → Int32)  (ex : Int32 × (Nat → Nat → Int32)) (h : f_X6_inkSavedByLeast S1 S2 S3 S4 S5 S6 S7 S8 S9 = some ex) : zWI l yX6_inkSavedByLeast wsX6_inkSavedByLeast ({ frames := 7, cells := 0, slots := 0, locals := 171 } : Room) D T [.ref (a0 99)] (wX6 a0 a1 a2 a3 a4 a5 a6 a7 a8 a9 ++ wX4 T a1 S1 ++ wX1 T a2 S2 ++ wX1 T a3 S3 ++ wX0 T a4 S4 ++ wX5 T a5 S5 ++ wX5 T a6 S6 ++ wX5 T a7 S7 ++ wX5 T a8 S8 ++ wX3 T a9 S9) ex.1 (wX6 a0 a1 a2 a3 a4 a5 a6 a7 a8 a9 ++ wX4 T a1 S1 ++ wX1 T a2 S2 ++ wX1 T a3 S3 ++ wX0 T a4 ex.2 ++ wX5 T a5 S5 ++ wX5 T a6 S6 ++ wX5 T a7 S7 ++ wX5 T a8 S8 ++ wX3 T a9 S9) := by
  refine z_begin (cc := cX6_inkSavedByLeast) (nL := 2) (own := RX6) (fr := 7) (lc := 171) (ret := some .int) (by decide) rfl (Nat.le_of_ble_eq_true rfl) (zA (wX6 a0 a1 a2 a3 a4 a5 a6 a7 a8 a9 ++ wX4 T a1 S1 ++ wX1 T a2 S2 ++ wX1 T a3 S3 ++ wX0 T a4 S4 ++ wX5 T a5 S5 ++ wX5 T a6 S6 ++ wX5 T a7 S7 ++ wX5 T a8 S8 ++ wX3 T a9 S9)) rfl [(0, .ref (a0 99))] rfl ⟨rfl, rfl⟩ rfl ?_
  intro p e s m args below meth c C hr hD
  have hD := hD.zself
  unfold f_X6_inkSavedByLeast at h
  refine z_aload_n C dX6_inkSavedByLeast_0 rfl 0 rfl 1 rfl ?_
  refine z_callW C (wX6 a0 a1 a2 a3 a4 a5 a6 a7 a8 a9 ++ wX4 T a1 S1 ++ wX1 T a2 S2 ++ wX1 T a3 S3 ++ wX0 T a4 S4 ++ wX5 T a5 S5 ++ wX5 T a6 S6 ++ wX5 T a7 S7 ++ wX5 T a8 S8 ++ wX3 T a9 S9) (([] : va_W)) (fun z => z.1) (fun z => wX6 a0 a1 a2 a3 a4 a5 a6 a7 a8 a9 ++ wX4 T a1 S1 ++ wX1 T a2 S2 ++ wX1 T a3 S3 ++ wX0 T a4 z.2 ++ wX5 T a5 S5 ++ wX5 T a6 S6 ++ wX5 T a7 S7 ++ wX5 T a8 S8 ++ wX3 T a9 S9) (fun z => wX6 a0 a1 a2 a3 a4 a5 a6 a7 a8 a9 ++ wX4 T a1 S1 ++ wX1 T a2 S2 ++ wX1 T a3 S3 ++ wX0 T a4 z.2 ++ wX5 T a5 S5 ++ wX5 T a6 S6 ++ wX5 T a7 S7 ++ wX5 T a8 S8 ++ wX3 T a9 S9) (fun z h => c_X6_inkOfAllAlone l D T a0 a1 a2 a3 a4 a5 a6 a7 a8 a9  S1 S2 S3 S4 S5 S6 S7 S8 S9  z h) ⟨rfl, rfl⟩ (z_cwV C 0 gX6_inkSavedByLeast_X6_inkOfAllAlone rfl rfl dd_X6_inkOfAllAlone ⟨(Nat.le_of_ble_eq_true rfl), (Nat.le_of_ble_eq_true rfl)⟩) (hD.zaddr rfl) [0, 1, 2, 3, 4, 5, 6, 7, 8, 9, 10, 11, 12, 13, 14, 15, 16, 17, 18, 19, 20, 21, 22, 23, 24, 25, 26, 27, 28, 29, 30, 31, 32, 33] [] [0, 1, 2, 3, 4, 5, 6, 7, 8, 9, 10, 11, 12, 13, 14, 15, 16, 17, 18, 19, 20, 21, 22, 23, 24, 25, 26, 27, 28, 29, 30, 31, 32, 33] rfl rfl rfl (by decide) (fun _ => rfl) (fun _ => ⟨a0 99, [], 5, 0, _, _, rfl, rfl, rfl, rfl, rfl⟩) (fun h => absurd rfl h) rfl (Nat.le_of_ble_eq_true rfl) dX6_inkSavedByLeast_1 4 rfl h (fun r_1 h => ?_)
  refine z_istore_n C [(0, .ref (a0 99)), (1, .int r_1.1)] dX6_inkSavedByLeast_4 rfl (Nat.le_of_ble_eq_true rfl) [1, 0] rfl 5 rfl ?_
  refine z_iload_n C dX6_inkSavedByLeast_5 rfl 1 rfl 6 rfl ?_
  refine z_bipush C (-2) dX6_inkSavedByLeast_6 (by decide) 8 rfl ?_
  refine z_icmp_ne C 16 dX6_inkSavedByLeast_8 (by decide) 11 rfl h (fun h => ?_) (fun h => ?_)
  · refine z_iload_n C dX6_inkSavedByLeast_16 rfl 1 rfl 17 rfl ?_
    refine z_aload_n C dX6_inkSavedByLeast_17 rfl 0 rfl 18 rfl ?_
    refine z_get C (in_X6_inkSavedByLeast_X6) 0 rfl rfl 3 (by decide) (List.mem_of_getElem? (i := 1) rfl) rfl rfl dX6_inkSavedByLeast_18 21 rfl ?_
    refine z_iconst C 0 dX6_inkSavedByLeast_21 (by decide) 22 rfl ?_
    refine z_aload_n C dX6_inkSavedByLeast_22 rfl 0 rfl 23 rfl ?_
    refine z_get C (in_X6_inkSavedByLeast_X6) 0 rfl rfl 1 (by decide) (List.mem_of_getElem? (i := 2) rfl) rfl rfl dX6_inkSavedByLeast_23 26 rfl ?_
    refine z_callR C (wX1 T a2 S2) (fun v h => c_X1_allPlaces l D T a2  S2  v h) ⟨rfl, rfl⟩ (z_cwV C 0 gX6_inkSavedByLeast_X1_allPlaces rfl rfl dd_X1_allPlaces ⟨(Nat.le_of_ble_eq_true rfl), (Nat.le_of_ble_eq_true rfl)⟩) (hD.zaddr rfl) [3, 4, 5, 6, 7] rfl rfl (fun _ => ⟨a2 99, [], 1, 0, _, _, rfl, rfl, rfl, rfl, rfl⟩) (fun h => absurd rfl h) rfl (Nat.le_of_ble_eq_true rfl) dX6_inkSavedByLeast_26 29 rfl h (fun r_2 h => ?_)
    refine z_callR C (wX0 T a4 r_1.2) (fun v h => c_X0_inkOf l D T a4  r_1.2 0 r_2 v h) ⟨rfl, rfl⟩ (z_cwV C 2 gX6_inkSavedByLeast_X0_inkOf rfl rfl dd_X0_inkOf ⟨(Nat.le_of_ble_eq_true rfl), (Nat.le_of_ble_eq_true rfl)⟩) (hD.zaddr rfl) [13, 14, 15, 16, 17, 18, 19] rfl rfl (fun _ => ⟨a4 99, [.int 0, .int r_2], 0, 0, _, _, rfl, rfl, rfl, rfl, rfl⟩) (fun h => absurd rfl h) rfl (Nat.le_of_ble_eq_true rfl) dX6_inkSavedByLeast_29 32 rfl h (fun r_3 h => ?_)
    refine z_isub C dX6_inkSavedByLeast_32 33 rfl ?_
    exact z_iretW (fun z => wX6 a0 a1 a2 a3 a4 a5 a6 a7 a8 a9 ++ wX4 T a1 S1 ++ wX1 T a2 S2 ++ wX1 T a3 S3 ++ wX0 T a4 z ++ wX5 T a5 S5 ++ wX5 T a6 S6 ++ wX5 T a7 S7 ++ wX5 T a8 S8 ++ wX3 T a9 S9) C hr dX6_inkSavedByLeast_33 h rfl
  · refine z_bipush C (-2) dX6_inkSavedByLeast_11 (by decide) 13 rfl ?_
    refine z_goto C 33 dX6_inkSavedByLeast_13 (by decide) ?_
    exact z_iretW (fun z => wX6 a0 a1 a2 a3 a4 a5 a6 a7 a8 a9 ++ wX4 T a1 S1 ++ wX1 T a2 S2 ++ wX1 T a3 S3 ++ wX0 T a4 z ++ wX5 T a5 S5 ++ wX5 T a6 S6 ++ wX5 T a7 S7 ++ wX5 T a8 S8 ++ wX3 T a9 S9) C hr dX6_inkSavedByLeast_33 h rfl

end
/-! StreamTree.leastInkWithoutRock (I)I -/
section
variable {p : Program} {l : Launch} {e : Env} {R : Room} {s : State} {m : MethodId} {args : Array Value} {below : List Frame} {meth : Method} {c : Code} {Q : State → Prop} {A : Nat → Prop} {D : va_G} {T : Nat → ClassId} {a0 : Nat → Nat} {a1 : Nat → Nat} {a2 : Nat → Nat} {a3 : Nat → Nat} {a4 : Nat → Nat} {a5 : Nat → Nat} {a6 : Nat → Nat} {a7 : Nat → Nat} {a8 : Nat → Nat} {a9 : Nat → Nat}
theorem in_X6_leastInkWithoutRock_X0 : ∀ w ∈ u_ws RX0 TX0 11, w ∈ wsX6_leastInkWithoutRock := fun _ h => (List.mem_cons_of_mem _ (List.mem_append_right _ h))
theorem in_X6_leastInkWithoutRock_X1 : ∀ w ∈ u_ws RX1 TX1 10, w ∈ wsX6_leastInkWithoutRock := fun _ h => (List.mem_cons_of_mem _ (List.mem_append_left _ (List.mem_append_right _ h)))
theorem in_X6_leastInkWithoutRock_X6 : ∀ w ∈ u_ws RX6 TX6 9, w ∈ wsX6_leastInkWithoutRock := fun _ h => (List.mem_cons_of_mem _ (List.mem_append_left _ (List.mem_append_left _ (List.mem_append_right _ h))))
def f_X6_leastInkWithoutRock (S1 : Nat → Nat → Int32) (S2 : Nat → Nat → Int32) (S3 : Nat → Nat → Int32) (S4 : Nat → Nat → Int32) (S5 : Nat → Nat → Int32) (S6 : Nat → Nat → Int32) (S7 : Nat → Nat → Int32) (S8 : Nat → Nat → Int32) (S9 : Nat → Nat → Int32) (v1 : Int32) : Option (Int32 × (Nat → Nat → Int32) × (Nat → Nat → Int32)) := zix v1 240 fun j => zlet (zst S2 9 j 0) fun S2_1 => (f_X0_fill S4 S2_1).bind fun r_2 => (f_X1_allPlaces S2_1).bind fun r_3 => (f_X0_inkOf r_2 0 r_3).bind fun r_4 => zix v1 240 fun j => zlet (zst S2_1 9 j 1) fun S2_5 => zlet (zst r_2 0 0 0) fun S4_6 => some (r_4, S2_5, S4_6)
theorem dd_X6_leastInkWithoutRock : RX6 ≠ "java/lang/invoke/MethodHandle" ∧ RX6 ≠ "java/lang/invoke/VarHandle" ∧ (parseMethodDescriptor yX6_leastInkWithoutRock.desc).map (fun d => d.parameters.length) = some 1 := by decide +kernel
set_option maxHeartbeats 4000000 in
set_option maxRecDepth 100000 in
theorem c_X6_leastInkWithoutRock (l : Launch) (D : va_G) (T : Nat → ClassId) (a0 : Nat → Nat) (a1 : Nat → Nat) (a2 : Nat → Nat) (a3 : Nat → Nat) (a4 : Nat → Nat) (a5 : Nat → Nat) (a6 : Nat → Nat) (a7 : Nat → Nat) (a8 : Nat → Nat) (a9 : Nat → Nat) (S1 : Nat → Nat → Int32) (S2 : Nat → Nat → Int32) (S3 : Nat → Nat → Int32) (S4 : Nat → Nat → Int32) (S5 : Nat → Nat → Int32) (S6 : Nat → Nat → Int32) (S7 : Nat → Nat → Int32) (S8 : Nat → Nat → Int32) (S9 : Nat → Nat → Int32) (v1 : Int32) (ex : Int32 × (Nat → Nat → Int32) × (Nat → Nat → Int32)) (h : f_X6_leastInkWithoutRock S1 S2 S3 S4 S5 S6 S7 S8 S9 v1 = some ex) : zWI l yX6_leastInkWithoutRock wsX6_leastInkWithoutRock ({ frames := 5, cells := 0, slots := 0, locals := 128 } : Room) D T [.ref (a0 99), .int v1] (wX6 a0 a1 a2 a3 a4 a5 a6 a7 a8 a9 ++ wX4 T a1 S1 ++ wX1 T a2 S2 ++ wX1 T a3 S3 ++ wX0 T a4 S4 ++ wX5 T a5 S5 ++ wX5 T a6 S6 ++ wX5 T a7 S7 ++ wX5 T a8 S8 ++ wX3 T a9 S9) ex.1 (wX6 a0 a1 a2 a3 a4 a5 a6 a7 a8 a9 ++ wX4 T a1 S1 ++ wX1 T a2 ex.2.1 ++ wX1 T a3 S3 ++ wX0 T a4 ex.2.2 ++ wX5 T a5 S5 ++ wX5 T a6 S6 ++ wX5 T a7 S7 ++ wX5 T a8 S8 ++ wX3 T a9 S9) := by
  refine z_begin (cc := cX6_leastInkWithoutRock) (nL := 3) (own := RX6) (fr := 5) (lc := 128) (ret := some .int) (by decide) rfl (Nat.le_of_ble_eq_true rfl) (zA (wX6 a0 a1 a2 a3 a4 a5 a6 a7 a8 a9 ++ wX4 T a1 S1 ++ wX1 T a2 S2 ++ wX1 T a3 S3 ++ wX0 T a4 S4 ++ wX5 T a5 S5 ++ wX5 T a6 S6 ++ wX5 T a7 S7 ++ wX5 T a8 S8 ++ wX3 T a9 S9)) rfl [(0, .ref (a0 99)), (1, .int v1)] rfl ⟨rfl, rfl⟩ rfl ?_
  intro p e s m args below meth c C hr hD
  have hD := hD.zself
  unfold f_X6_leastInkWithoutRock at h
  refine z_aload_n C dX6_leastInkWithoutRock_0 rfl 0 rfl 1 rfl ?_
  refine z_get C (in_X6_leastInkWithoutRock_X6) 0 rfl rfl 1 (by decide) (List.mem_of_getElem? (i := 1) rfl) rfl rfl dX6_leastInkWithoutRock_1 4 rfl ?_
  refine z_get C (in_X6_leastInkWithoutRock_X1) 3 rfl rfl 9 (by decide) (List.mem_of_getElem? (i := 2) rfl) rfl rfl dX6_leastInkWithoutRock_4 7 rfl ?_
  refine z_iload_n C dX6_leastInkWithoutRock_7 rfl 1 rfl 8 rfl ?_
  refine z_iconst C 0 dX6_leastInkWithoutRock_8 (by decide) 9 rfl ?_
  refine z_zastc (Or.inl rfl) C (fun z => wX6 a0 a1 a2 a3 a4 a5 a6 a7 a8 a9 ++ wX4 T a1 S1 ++ wX1 T a2 z ++ wX1 T a3 S3 ++ wX0 T a4 S4 ++ wX5 T a5 S5 ++ wX5 T a6 S6 ++ wX5 T a7 S7 ++ wX5 T a8 S8 ++ wX3 T a9 S9) S2 9 (hD.zaddr rfl) 7 rfl rfl (fun _ => rfl) dX6_leastInkWithoutRock_9 10 rfl h (fun S2_1 h => ?_)
  refine z_aload_n C dX6_leastInkWithoutRock_10 rfl 0 rfl 11 rfl ?_
  refine z_get C (in_X6_leastInkWithoutRock_X6) 0 rfl rfl 3 (by decide) (List.mem_of_getElem? (i := 3) rfl) rfl rfl dX6_leastInkWithoutRock_11 14 rfl ?_
  refine z_aload_n C dX6_leastInkWithoutRock_14 rfl 0 rfl 15 rfl ?_
  refine z_get C (in_X6_leastInkWithoutRock_X6) 0 rfl rfl 1 (by decide) (List.mem_of_getElem? (i := 1) rfl) rfl rfl dX6_leastInkWithoutRock_15 18 rfl ?_
  refine z_callV C (wX0 T a4 S4 ++ wX1 T a2 S2_1) (wX6 a0 a1 a2 a3 a4 a5 a6 a7 a8 a9 ++ wX4 T a1 S1 ++ wX1 T a3 S3 ++ wX5 T a5 S5 ++ wX5 T a6 S6 ++ wX5 T a7 S7 ++ wX5 T a8 S8 ++ wX3 T a9 S9) (fun z => wX0 T a4 z ++ wX1 T a2 S2_1) (fun z => wX6 a0 a1 a2 a3 a4 a5 a6 a7 a8 a9 ++ wX4 T a1 S1 ++ wX1 T a2 S2_1 ++ wX1 T a3 S3 ++ wX0 T a4 z ++ wX5 T a5 S5 ++ wX5 T a6 S6 ++ wX5 T a7 S7 ++ wX5 T a8 S8 ++ wX3 T a9 S9) (fun z h => c_X0_fill l D T a4 a2  S4 S2_1  z h) ⟨rfl, rfl⟩ (z_cwV C 1 gX6_leastInkWithoutRock_X0_fill rfl rfl dd_X0_fill ⟨(Nat.le_of_ble_eq_true rfl), (Nat.le_of_ble_eq_true rfl)⟩) (hD.zaddr rfl) [13, 14, 15, 16, 17, 18, 19, 3, 4, 5, 6, 7] [0, 1, 2, 8, 9, 10, 11, 12, 20, 21, 22, 23, 24, 25, 26, 27, 28, 29, 30, 31, 32, 33] [0, 1, 2, 29, 30, 31, 32, 33, 3, 4, 5, 6, 7, 22, 23, 24, 25, 26, 27, 28, 8, 9, 10, 11, 12, 13, 14, 15, 16, 17, 18, 19, 20, 21] rfl rfl rfl (by decide) (fun _ => rfl) (fun _ => ⟨a4 99, [.ref (a2 99)], 0, 0, _, _, rfl, rfl, rfl, rfl, rfl⟩) (fun h => absurd rfl h) rfl (Nat.le_of_ble_eq_true rfl) dX6_leastInkWithoutRock_18 21 rfl h (fun r_2 h => ?_)
  refine z_aload_n C dX6_leastInkWithoutRock_21 rfl 0 rfl 22 rfl ?_
  refine z_get C (in_X6_leastInkWithoutRock_X6) 0 rfl rfl 3 (by decide) (List.mem_of_getElem? (i := 3) rfl) rfl rfl dX6_leastInkWithoutRock_22 25 rfl ?_
  refine z_iconst C 0 dX6_leastInkWithoutRock_25 (by decide) 26 rfl ?_
  refine z_aload_n C dX6_leastInkWithoutRock_26 rfl 0 rfl 27 rfl ?_
  refine z_get C (in_X6_leastInkWithoutRock_X6) 0 rfl rfl 1 (by decide) (List.mem_of_getElem? (i := 1) rfl) rfl rfl dX6_leastInkWithoutRock_27 30 rfl ?_
  refine z_callR C (wX1 T a2 S2_1) (fun v h => c_X1_allPlaces l D T a2  S2_1  v h) ⟨rfl, rfl⟩ (z_cwV C 0 gX6_leastInkWithoutRock_X1_allPlaces rfl rfl dd_X1_allPlaces ⟨(Nat.le_of_ble_eq_true rfl), (Nat.le_of_ble_eq_true rfl)⟩) (hD.zaddr rfl) [3, 4, 5, 6, 7] rfl rfl (fun _ => ⟨a2 99, [], 1, 0, _, _, rfl, rfl, rfl, rfl, rfl⟩) (fun h => absurd rfl h) rfl (Nat.le_of_ble_eq_true rfl) dX6_leastInkWithoutRock_30 33 rfl h (fun r_3 h => ?_)
  refine z_callR C (wX0 T a4 r_2) (fun v h => c_X0_inkOf l D T a4  r_2 0 r_3 v h) ⟨rfl, rfl⟩ (z_cwV C 2 gX6_leastInkWithoutRock_X0_inkOf rfl rfl dd_X0_inkOf ⟨(Nat.le_of_ble_eq_true rfl), (Nat.le_of_ble_eq_true rfl)⟩) (hD.zaddr rfl) [13, 14, 15, 16, 17, 18, 19] rfl rfl (fun _ => ⟨a4 99, [.int 0, .int r_3], 0, 0, _, _, rfl, rfl, rfl, rfl, rfl⟩) (fun h => absurd rfl h) rfl (Nat.le_of_ble_eq_true rfl) dX6_leastInkWithoutRock_33 36 rfl h (fun r_4 h => ?_)
  refine z_istore_n C [(0, .ref (a0 99)), (1, .int v1), (2, .int r_4)] dX6_leastInkWithoutRock_36 rfl (Nat.le_of_ble_eq_true rfl) [1, 2, 0] rfl 37 rfl ?_
  refine z_aload_n C dX6_leastInkWithoutRock_37 rfl 0 rfl 38 rfl ?_
  refine z_get C (in_X6_leastInkWithoutRock_X6) 0 rfl rfl 1 (by decide) (List.mem_of_getElem? (i := 1) rfl) rfl rfl dX6_leastInkWithoutRock_38 41 rfl ?_
  refine z_get C (in_X6_leastInkWithoutRock_X1) 3 rfl rfl 9 (by decide) (List.mem_of_getElem? (i := 2) rfl) rfl rfl dX6_leastInkWithoutRock_41 44 rfl ?_
  refine z_iload_n C dX6_leastInkWithoutRock_44 rfl 1 rfl 45 rfl ?_
  refine z_iconst C 1 dX6_leastInkWithoutRock_45 (by decide) 46 rfl ?_
  refine z_zastc (Or.inr rfl) C (fun z => wX6 a0 a1 a2 a3 a4 a5 a6 a7 a8 a9 ++ wX4 T a1 S1 ++ wX1 T a2 z ++ wX1 T a3 S3 ++ wX0 T a4 r_2 ++ wX5 T a5 S5 ++ wX5 T a6 S6 ++ wX5 T a7 S7 ++ wX5 T a8 S8 ++ wX3 T a9 S9) S2_1 9 (hD.zaddr rfl) 7 rfl rfl (fun _ => rfl) dX6_leastInkWithoutRock_46 47 rfl h (fun S2_5 h => ?_)
  refine z_aload_n C dX6_leastInkWithoutRock_47 rfl 0 rfl 48 rfl ?_
  refine z_get C (in_X6_leastInkWithoutRock_X6) 0 rfl rfl 3 (by decide) (List.mem_of_getElem? (i := 3) rfl) rfl rfl dX6_leastInkWithoutRock_48 51 rfl ?_
  refine z_iconst C 0 dX6_leastInkWithoutRock_51 (by decide) 52 rfl ?_
  refine z_put (ty := .boolean) C (fun z => wX6 a0 a1 a2 a3 a4 a5 a6 a7 a8 a9 ++ wX4 T a1 S1 ++ wX1 T a2 S2_5 ++ wX1 T a3 S3 ++ wX0 T a4 z ++ wX5 T a5 S5 ++ wX5 T a6 S6 ++ wX5 T a7 S7 ++ wX5 T a8 S8 ++ wX3 T a9 S9) r_2 (hD.zaddr rfl) (in_X6_leastInkWithoutRock_X0) tyX0 tyX0_ok nmX0 13 rfl rfl 0 (by decide) (List.mem_of_getElem? (i := 4) rfl) rfl rfl (by decide +kernel) rfl rfl (Nat.le_of_ble_eq_true rfl) rfl dX6_leastInkWithoutRock_52 55 rfl h (fun S4_6 h => ?_)
  refine z_iload_n C dX6_leastInkWithoutRock_55 rfl 2 rfl 56 rfl ?_
  exact z_iretW (fun z => wX6 a0 a1 a2 a3 a4 a5 a6 a7 a8 a9 ++ wX4 T a1 S1 ++ wX1 T a2 z.1 ++ wX1 T a3 S3 ++ wX0 T a4 z.2 ++ wX5 T a5 S5 ++ wX5 T a6 S6 ++ wX5 T a7 S7 ++ wX5 T a8 S8 ++ wX3 T a9 S9) C hr dX6_leastInkWithoutRock_56 h rfl

end
/-! StreamTree.chart (II)Z -/
section
variable {p : Program} {l : Launch} {e : Env} {R : Room} {s : State} {m : MethodId} {args : Array Value} {below : List Frame} {meth : Method} {c : Code} {Q : State → Prop} {A : Nat → Prop} {D : va_G} {T : Nat → ClassId} {a0 : Nat → Nat} {a1 : Nat → Nat} {a2 : Nat → Nat} {a3 : Nat → Nat} {a4 : Nat → Nat} {a5 : Nat → Nat} {a6 : Nat → Nat} {a7 : Nat → Nat} {a8 : Nat → Nat} {a9 : Nat → Nat}
theorem in_X6_chart_X6 : ∀ w ∈ u_ws RX6 TX6 9, w ∈ wsX6_chart := fun _ h => (List.mem_cons_of_mem _ (List.mem_append_left _ (List.mem_append_left _ (List.mem_append_left _ (List.mem_append_right _ h)))))
def f_X6_chart (S1 : Nat → Nat → Int32) (S2 : Nat → Nat → Int32) (S3 : Nat → Nat → Int32) (S4 : Nat → Nat → Int32) (S5 : Nat → Nat → Int32) (S6 : Nat → Nat → Int32) (S7 : Nat → Nat → Int32) (S8 : Nat → Nat → Int32) (S9 : Nat → Nat → Int32) (v1 : Int32) (v2 : Int32) : Option (Int32 × (Nat → Nat → Int32) × (Nat → Nat → Int32) × (Nat → Nat → Int32) × (Nat → Nat → Int32) × (Nat → Nat → Int32) × (Nat → Nat → Int32)) := (f_X6_isWithin v1 2 9).bind fun r_1 => if r_1 = 0 then (some (0, S2, S4, S5, S6, S7, S8)) else ((f_X6_isWithin v2 6 24).bind fun r_2 => if r_2 = 0 then (some (0, S2, S4, S5, S6, S7, S8)) else ((f_X1_clear S2 v1 v2).bind fun r_3 => (f_X6_forgetDrawings S1 r_3 S3 S4 S5 S6 S7 S8 S9).bind fun r_4 => some (1, r_3, r_4.1, r_4.2.1, r_4.2.2.1, r_4.2.2.2.1, r_4.2.2.2.2)))
theorem dd_X6_chart : RX6 ≠ "java/lang/invoke/MethodHandle" ∧ RX6 ≠ "java/lang/invoke/VarHandle" ∧ (parseMethodDescriptor yX6_chart.desc).map (fun d => d.parameters.length) = some 2 := by decide +kernel
set_option maxHeartbeats 4000000 in
set_option maxRecDepth 100000 in
theorem c_X6_chart (l : Launch) (D : va_G) (T : Nat → ClassId) (a0 : Nat → Nat) (a1 : Nat → Nat) (a2 : Nat → Nat) (a3 : Nat → Nat) (a4 : Nat → Nat) (a5 : Nat → Nat) (a6 : Nat → Nat) (a7 : Nat → Nat) (a8 : Nat → Nat) (a9 : Nat → Nat) (S1 : Nat → Nat → Int32) (S2 : Nat → Nat → Int32) (S3 : Nat → Nat → Int32) (S4 : Nat → Nat → Int32) (S5 : Nat → Nat → Int32) (S6 : Nat → Nat → Int32) (S7 : Nat → Nat → Int32) (S8 : Nat → Nat → Int32) (S9 : Nat → Nat → Int32) (v1 : Int32) (v2 : Int32) (ex : Int32 × (Nat → Nat → Int32) × (Nat → Nat → Int32) × (Nat → Nat → Int32) × (Nat → Nat → Int32) × (Nat → Nat → Int32) × (Nat → Nat → Int32)) (h : f_X6_chart S1 S2 S3 S4 S5 S6 S7 S8 S9 v1 v2 = some ex) : zWI l yX6_chart wsX6_chart ({ frames := 1, cells := 0, slots := 0, locals := 23 } : Room) D T [.ref (a0 99), .int v1, .int v2] (wX6 a0 a1 a2 a3 a4 a5 a6 a7 a8 a9 ++ wX4 T a1 S1 ++ wX1 T a2 S2 ++ wX1 T a3 S3 ++ wX0 T a4 S4 ++ wX5 T a5 S5 ++ wX5 T a6 S6 ++ wX5 T a7 S7 ++ wX5 T a8 S8 ++ wX3 T a9 S9) ex.1 (wX6 a0 a1 a2 a3 a4 a5 a6 a7 a8 a9 ++ wX4 T a1 S1 ++ wX1 T a2 ex.2.1 ++ wX1 T a3 S3 ++ wX0 T a4 ex.2.2.1 ++ wX5 T a5 ex.2.2.2.1 ++ wX5 T a6 ex.2.2.2.2.1 ++ wX5 T a7 ex.2.2.2.2.2.1 ++ wX5 T a8 ex.2.2.2.2.2.2 ++ wX3 T a9 S9) := by
  refine z_begin (cc := cX6_chart) (nL := 3) (own := RX6) (fr := 1) (lc := 23) (ret := some .boolean) (by decide) rfl (Nat.le_of_ble_eq_true rfl) (zA (wX6 a0 a1 a2 a3 a4 a5 a6 a7 a8 a9 ++ wX4 T a1 S1 ++ wX1 T a2 S2 ++ wX1 T a3 S3 ++ wX0 T a4 S4 ++ wX5 T a5 S5 ++ wX5 T a6 S6 ++ wX5 T a7 S7 ++ wX5 T a8 S8 ++ wX3 T a9 S9)) rfl [(0, .ref (a0 99)), (1, .int v1), (2, .int v2)] rfl ⟨rfl, rfl⟩ rfl ?_
  intro p e s m args below meth c C hr hD
  have hD := hD.zself
  unfold f_X6_chart at h
  refine z_iload_n C dX6_chart_0 rfl 1 rfl 1 rfl ?_
  refine z_iconst C 2 dX6_chart_1 (by decide) 2 rfl ?_
  refine z_bipush C 9 dX6_chart_2 (by decide) 4 rfl ?_
  refine z_callR C ([]) (fun v h => c_X6_isWithin l D T    v1 2 9 v h) ⟨rfl, rfl⟩ (z_cwS C 3 gX6_chart_X6_isWithin rfl dd_X6_isWithin ⟨(Nat.le_of_ble_eq_true rfl), (Nat.le_of_ble_eq_true rfl)⟩) (hD.zaddr rfl) [] rfl rfl (fun h => absurd h (by decide)) (fun _ => rfl) rfl (Nat.le_of_ble_eq_true rfl) dX6_chart_4 7 rfl h (fun r_1 h => ?_)
  refine z_if_eq C 21 dX6_chart_7 (by decide) 10 rfl h (fun h => ?_) (fun h => ?_)
  · refine z_iconst C 0 dX6_chart_21 (by decide) 22 rfl ?_
    exact z_zretWc (fun z => wX6 a0 a1 a2 a3 a4 a5 a6 a7 a8 a9 ++ wX4 T a1 S1 ++ wX1 T a2 z.1 ++ wX1 T a3 S3 ++ wX0 T a4 z.2.1 ++ wX5 T a5 z.2.2.1 ++ wX5 T a6 z.2.2.2.1 ++ wX5 T a7 z.2.2.2.2.1 ++ wX5 T a8 z.2.2.2.2.2 ++ wX3 T a9 S9) C hr dX6_chart_22 (Or.inl rfl) h rfl
  · refine z_iload_n C dX6_chart_10 rfl 2 rfl 11 rfl ?_
    refine z_bipush C 6 dX6_chart_11 (by decide) 13 rfl ?_
    refine z_bipush C 24 dX6_chart_13 (by decide) 15 rfl ?_
    refine z_callR C ([]) (fun v h => c_X6_isWithin l D T    v2 6 24 v h) ⟨rfl, rfl⟩ (z_cwS C 3 gX6_chart_X6_isWithin rfl dd_X6_isWithin ⟨(Nat.le_of_ble_eq_true rfl), (Nat.le_of_ble_eq_true rfl)⟩) (hD.zaddr rfl) [] rfl rfl (fun h => absurd h (by decide)) (fun _ => rfl) rfl (Nat.le_of_ble_eq_true rfl) dX6_chart_15 18 rfl h (fun r_2 h => ?_)
    refine z_if_ne C 23 dX6_chart_18 (by decide) 21 rfl h (fun h => ?_) (fun h => ?_)
    · refine z_aload_n C dX6_chart_23 rfl 0 rfl 24 rfl ?_
      refine z_get C (in_X6_chart_X6) 0 rfl rfl 1 (by decide) (List.mem_of_getElem? (i := 1) rfl) rfl rfl dX6_chart_24 27 rfl ?_
      refine z_iload_n C dX6_chart_27 rfl 1 rfl 28 rfl ?_
      refine z_iload_n C dX6_chart_28 rfl 2 rfl 29 rfl ?_
      refine z_callV C (wX1 T a2 S2) (wX6 a0 a1 a2 a3 a4 a5 a6 a7 a8 a9 ++ wX4 T a1 S1 ++ wX1 T a3 S3 ++ wX0 T a4 S4 ++ wX5 T a5 S5 ++ wX5 T a6 S6 ++ wX5 T a7 S7 ++ wX5 T a8 S8 ++ wX3 T a9 S9) (fun z => wX1 T a2 z) (fun z => wX6 a0 a1 a2 a3 a4 a5 a6 a7 a8 a9 ++ wX4 T a1 S1 ++ wX1 T a2 z ++ wX1 T a3 S3 ++ wX0 T a4 S4 ++ wX5 T a5 S5 ++ wX5 T a6 S6 ++ wX5 T a7 S7 ++ wX5 T a8 S8 ++ wX3 T a9 S9) (fun z h => c_X1_clear l D T a2  S2 v1 v2 z h) ⟨rfl, rfl⟩ (z_cwV C 2 gX6_chart_X1_clear rfl rfl dd_X1_clear ⟨(Nat.le_of_ble_eq_true rfl), (Nat.le_of_ble_eq_true rfl)⟩) (hD.zaddr rfl) [3, 4, 5, 6, 7] [0, 1, 2, 8, 9, 10, 11, 12, 13, 14, 15, 16, 17, 18, 19, 20, 21, 22, 23, 24, 25, 26, 27, 28, 29, 30, 31, 32, 33] [0, 1, 2, 29, 30, 31, 32, 33, 3, 4, 5, 6, 7, 8, 9, 10, 11, 12, 13, 14, 15, 16, 17, 18, 19, 20, 21, 22, 23, 24, 25, 26, 27, 28] rfl rfl rfl (by decide) (fun _ => rfl) (fun _ => ⟨a2 99, [.int v1, .int v2], 1, 0, _, _, rfl, rfl, rfl, rfl, rfl⟩) (fun h => absurd rfl h) rfl (Nat.le_of_ble_eq_true rfl) dX6_chart_29 32 rfl h (fun r_3 h => ?_)
      refine z_aload_n C dX6_chart_32 rfl 0 rfl 33 rfl ?_
      refine z_callV C (wX6 a0 a1 a2 a3 a4 a5 a6 a7 a8 a9 ++ wX4 T a1 S1 ++ wX1 T a2 r_3 ++ wX1 T a3 S3 ++ wX0 T a4 S4 ++ wX5 T a5 S5 ++ wX5 T a6 S6 ++ wX5 T a7 S7 ++ wX5 T a8 S8 ++ wX3 T a9 S9) (([] : va_W)) (fun z => wX6 a0 a1 a2 a3 a4 a5 a6 a7 a8 a9 ++ wX4 T a1 S1 ++ wX1 T a2 r_3 ++ wX1 T a3 S3 ++ wX0 T a4 z.1 ++ wX5 T a5 z.2.1 ++ wX5 T a6 z.2.2.1 ++ wX5 T a7 z.2.2.2.1 ++ wX5 T a8 z.2.2.2.2 ++ wX3 T a9 S9) (fun z => wX6 a0 a1 a2 a3 a4 a5 a6 a7 a8 a9 ++ wX4 T a1 S1 ++ wX1 T a2 r_3 ++ wX1 T a3 S3 ++ wX0 T a4 z.1 ++ wX5 T a5 z.2.1 ++ wX5 T a6 z.2.2.1 ++ wX5 T a7 z.2.2.2.1 ++ wX5 T a8 z.2.2.2.2 ++ wX3 T a9 S9) (fun z h => c_X6_forgetDrawings l D T a0 a1 a2 a3 a4 a5 a6 a7 a8 a9  S1 r_3 S3 S4 S5 S6 S7 S8 S9  z h) ⟨rfl, rfl⟩ (z_cwV C 0 gX6_chart_X6_forgetDrawings rfl rfl dd_X6_forgetDrawings ⟨(Nat.le_of_ble_eq_true rfl), (Nat.le_of_ble_eq_true rfl)⟩) (hD.zaddr rfl) [0, 1, 2, 3, 4, 5, 6, 7, 8, 9, 10, 11, 12, 13, 14, 15, 16, 17, 18, 19, 20, 21, 22, 23, 24, 25, 26, 27, 28, 29, 30, 31, 32, 33] [] [0, 1, 2, 3, 4, 5, 6, 7, 8, 9, 10, 11, 12, 13, 14, 15, 16, 17, 18, 19, 20, 21, 22, 23, 24, 25, 26, 27, 28, 29, 30, 31, 32, 33] rfl rfl rfl (by decide) (fun _ => rfl) (fun _ => ⟨a0 99, [], 5, 0, _, _, rfl, rfl, rfl, rfl, rfl⟩) (fun h => absurd rfl h) rfl (Nat.le_of_ble_eq_true rfl) dX6_chart_33 36 rfl h (fun r_4 h => ?_)
      refine z_iconst C 1 dX6_chart_36 (by decide) 37 rfl ?_
      exact z_zretWc (fun z => wX6 a0 a1 a2 a3 a4 a5 a6 a7 a8 a9 ++ wX4 T a1 S1 ++ wX1 T a2 z.1 ++ wX1 T a3 S3 ++ wX0 T a4 z.2.1 ++ wX5 T a5 z.2.2.1 ++ wX5 T a6 z.2.2.2.1 ++ wX5 T a7 z.2.2.2.2.1 ++ wX5 T a8 z.2.2.2.2.2 ++ wX3 T a9 S9) C hr dX6_chart_37 (Or.inr rfl) h rfl
    · refine z_iconst C 0 dX6_chart_21 (by decide) 22 rfl ?_
      exact z_zretWc (fun z => wX6 a0 a1 a2 a3 a4 a5 a6 a7 a8 a9 ++ wX4 T a1 S1 ++ wX1 T a2 z.1 ++ wX1 T a3 S3 ++ wX0 T a4 z.2.1 ++ wX5 T a5 z.2.2.1 ++ wX5 T a6 z.2.2.2.1 ++ wX5 T a7 z.2.2.2.2.1 ++ wX5 T a8 z.2.2.2.2.2 ++ wX3 T a9 S9) C hr dX6_chart_22 (Or.inl rfl) h rfl

end
/-! StreamTree.place (III)I -/
section
variable {p : Program} {l : Launch} {e : Env} {R : Room} {s : State} {m : MethodId} {args : Array Value} {below : List Frame} {meth : Method} {c : Code} {Q : State → Prop} {A : Nat → Prop} {D : va_G} {T : Nat → ClassId} {a0 : Nat → Nat} {a1 : Nat → Nat} {a2 : Nat → Nat} {a3 : Nat → Nat} {a4 : Nat → Nat} {a5 : Nat → Nat} {a6 : Nat → Nat} {a7 : Nat → Nat} {a8 : Nat → Nat} {a9 : Nat → Nat}
theorem in_X6_place_X1 : ∀ w ∈ u_ws RX1 TX1 10, w ∈ wsX6_place := fun _ h => (List.mem_cons_of_mem _ (List.mem_append_left _ (List.mem_append_left _ (List.mem_append_right _ h))))
theorem in_X6_place_X6 : ∀ w ∈ u_ws RX6 TX6 9, w ∈ wsX6_place := fun _ h => (List.mem_cons_of_mem _ (List.mem_append_left _ (List.mem_append_left _ (List.mem_append_left _ (List.mem_append_right _ h)))))
def f_X6_place_J121 (S1 : Nat → Nat → Int32) (S2 : Nat → Nat → Int32) (S3 : Nat → Nat → Int32) (S4 : Nat → Nat → Int32) (S5 : Nat → Nat → Int32) (S6 : Nat → Nat → Int32) (S7 : Nat → Nat → Int32) (S8 : Nat → Nat → Int32) (S9 : Nat → Nat → Int32)   : Option (Int32 × (Nat → Nat → Int32) × (Nat → Nat → Int32) × (Nat → Nat → Int32) × (Nat → Nat → Int32) × (Nat → Nat → Int32) × (Nat → Nat → Int32)) := (f_X6_forgetDrawings S1 S2 S3 S4 S5 S6 S7 S8 S9).bind fun r_6 => some ((S2 5 0), S2, r_6.1, r_6.2.1, r_6.2.2.1, r_6.2.2.2.1, r_6.2.2.2.2)
set_option maxHeartbeats 4000000 in
set_option maxRecDepth 100000 in
theorem p_X6_place_J121 {w0 : va_W} (C : zC p R s m args meth c cX6_place 5 RX6 wsX6_place D T 2 47 0 0) (hr : meth.sig.returnType = some .int) (S1 : Nat → Nat → Int32) (S2 : Nat → Nat → Int32) (S3 : Nat → Nat → Int32) (S4 : Nat → Nat → Int32) (S5 : Nat → Nat → Int32) (S6 : Nat → Nat → Int32) (S7 : Nat → Nat → Int32) (S8 : Nat → Nat → Int32) (S9 : Nat → Nat → Int32)   (hD : va_D (zA w0) (wX6 a0 a1 a2 a3 a4 a5 a6 a7 a8 a9 ++ wX4 T a1 S1 ++ wX1 T a2 S2 ++ wX1 T a3 S3 ++ wX0 T a4 S4 ++ wX5 T a5 S5 ++ wX5 T a6 S6 ++ wX5 T a7 S7 ++ wX5 T a8 S8 ++ wX3 T a9 S9)) {ex : Int32 × (Nat → Nat → Int32) × (Nat → Nat → Int32) × (Nat → Nat → Int32) × (Nat → Nat → Int32) × (Nat → Nat → Int32) × (Nat → Nat → Int32)} (h : f_X6_place_J121 S1 S2 S3 S4 S5 S6 S7 S8 S9 = some ex) : zt p l e R s m args below meth c 5 (zA w0) D 0 0 (MQ below (zQJ D w0 ex.1 (wX6 a0 a1 a2 a3 a4 a5 a6 a7 a8 a9 ++ wX4 T a1 S1 ++ wX1 T a2 ex.2.1 ++ wX1 T a3 S3 ++ wX0 T a4 ex.2.2.1 ++ wX5 T a5 ex.2.2.2.1 ++ wX5 T a6 ex.2.2.2.2.1 ++ wX5 T a7 ex.2.2.2.2.2.1 ++ wX5 T a8 ex.2.2.2.2.2.2 ++ wX3 T a9 S9)) args s 0 0 (zA w0)) (wX6 a0 a1 a2 a3 a4 a5 a6 a7 a8 a9 ++ wX4 T a1 S1 ++ wX1 T a2 S2 ++ wX1 T a3 S3 ++ wX0 T a4 S4 ++ wX5 T a5 S5 ++ wX5 T a6 S6 ++ wX5 T a7 S7 ++ wX5 T a8 S8 ++ wX3 T a9 S9) [(0, .ref (a0 99))] 121 [] := by
  unfold f_X6_place_J121 at h
  refine z_aload_n C dX6_place_121 rfl 0 rfl 122 rfl ?_
  refine z_callV C (wX6 a0 a1 a2 a3 a4 a5 a6 a7 a8 a9 ++ wX4 T a1 S1 ++ wX1 T a2 S2 ++ wX1 T a3 S3 ++ wX0 T a4 S4 ++ wX5 T a5 S5 ++ wX5 T a6 S6 ++ wX5 T a7 S7 ++ wX5 T a8 S8 ++ wX3 T a9 S9) (([] : va_W)) (fun z => wX6 a0 a1 a2 a3 a4 a5 a6 a7 a8 a9 ++ wX4 T a1 S1 ++ wX1 T a2 S2 ++ wX1 T a3 S3 ++ wX0 T a4 z.1 ++ wX5 T a5 z.2.1 ++ wX5 T a6 z.2.2.1 ++ wX5 T a7 z.2.2.2.1 ++ wX5 T a8 z.2.2.2.2 ++ wX3 T a9 S9) (fun z => wX6 a0 a1 a2 a3 a4 a5 a6 a7 a8 a9 ++ wX4 T a1 S1 ++ wX1 T a2 S2 ++ wX1 T a3 S3 ++ wX0 T a4 z.1 ++ wX5 T a5 z.2.1 ++ wX5 T a6 z.2.2.1 ++ wX5 T a7 z.2.2.2.1 ++ wX5 T a8 z.2.2.2.2 ++ wX3 T a9 S9) (fun z h => c_X6_forgetDrawings l D T a0 a1 a2 a3 a4 a5 a6 a7 a8 a9  S1 S2 S3 S4 S5 S6 S7 S8 S9  z h) ⟨rfl, rfl⟩ (z_cwV C 0 gX6_place_X6_forgetDrawings rfl rfl dd_X6_forgetDrawings ⟨(Nat.le_of_ble_eq_true rfl), (Nat.le_of_ble_eq_true rfl)⟩) (hD.zaddr rfl) [0, 1, 2, 3, 4, 5, 6, 7, 8, 9, 10, 11, 12, 13, 14, 15, 16, 17, 18, 19, 20, 21, 22, 23, 24, 25, 26, 27, 28, 29, 30, 31, 32, 33] [] [0, 1, 2, 3, 4, 5, 6, 7, 8, 9, 10, 11, 12, 13, 14, 15, 16, 17, 18, 19, 20, 21, 22, 23, 24, 25, 26, 27, 28, 29, 30, 31, 32, 33] rfl rfl rfl (by decide) (fun _ => rfl) (fun _ => ⟨a0 99, [], 5, 0, _, _, rfl, rfl, rfl, rfl, rfl⟩) (fun h => absurd rfl h) rfl (Nat.le_of_ble_eq_true rfl) dX6_place_122 125 rfl h (fun r_6 h => ?_)
  refine z_aload_n C dX6_place_125 rfl 0 rfl 126 rfl ?_
  refine z_get C (in_X6_place_X6) 0 rfl rfl 1 (by decide) (List.mem_of_getElem? (i := 1) rfl) rfl rfl dX6_place_126 129 rfl ?_
  refine z_get C (in_X6_place_X1) 3 rfl rfl 5 (by decide) (List.mem_of_getElem? (i := 3) rfl) rfl rfl dX6_place_129 132 rfl ?_
  exact z_iretW (fun z => wX6 a0 a1 a2 a3 a4 a5 a6 a7 a8 a9 ++ wX4 T a1 S1 ++ wX1 T a2 z.1 ++ wX1 T a3 S3 ++ wX0 T a4 z.2.1 ++ wX5 T a5 z.2.2.1 ++ wX5 T a6 z.2.2.2.1 ++ wX5 T a7 z.2.2.2.2.1 ++ wX5 T a8 z.2.2.2.2.2 ++ wX3 T a9 S9) C hr dX6_place_132 h rfl

def f_X6_place_J75 (S1 : Nat → Nat → Int32) (S2 : Nat → Nat → Int32) (S3 : Nat → Nat → Int32) (S4 : Nat → Nat → Int32) (S5 : Nat → Nat → Int32) (S6 : Nat → Nat → Int32) (S7 : Nat → Nat → Int32) (S8 : Nat → Nat → Int32) (S9 : Nat → Nat → Int32) (x1 : Int32) (x2 : Int32) (x3 : Int32) (x4 : Int32)  : Option (Int32 × (Nat → Nat → Int32) × (Nat → Nat → Int32) × (Nat → Nat → Int32) × (Nat → Nat → Int32) × (Nat → Nat → Int32) × (Nat → Nat → Int32)) := if x3 = 0 then ((f_X1_removePlace S2 x4).bind fun r_8 => f_X6_place_J121 S1 r_8 S3 S4 S5 S6 S7 S8 S9) else (if x4 = (-1) then ((f_X1_addPlace S2 x1 x2 x3).bind fun r_7 => f_X6_place_J121 S1 r_7 S3 S4 S5 S6 S7 S8 S9) else (zix x4 7 fun j => zlet (zst S2 8 j x3) fun S2_5 => f_X6_place_J121 S1 S2_5 S3 S4 S5 S6 S7 S8 S9))
set_option maxHeartbeats 4000000 in
set_option maxRecDepth 100000 in
theorem p_X6_place_J75 {w0 : va_W} (C : zC p R s m args meth c cX6_place 5 RX6 wsX6_place D T 2 47 0 0) (hr : meth.sig.returnType = some .int) (S1 : Nat → Nat → Int32) (S2 : Nat → Nat → Int32) (S3 : Nat → Nat → Int32) (S4 : Nat → Nat → Int32) (S5 : Nat → Nat → Int32) (S6 : Nat → Nat → Int32) (S7 : Nat → Nat → Int32) (S8 : Nat → Nat → Int32) (S9 : Nat → Nat → Int32) (x1 : Int32) (x2 : Int32) (x3 : Int32) (x4 : Int32)  (hD : va_D (zA w0) (wX6 a0 a1 a2 a3 a4 a5 a6 a7 a8 a9 ++ wX4 T a1 S1 ++ wX1 T a2 S2 ++ wX1 T a3 S3 ++ wX0 T a4 S4 ++ wX5 T a5 S5 ++ wX5 T a6 S6 ++ wX5 T a7 S7 ++ wX5 T a8 S8 ++ wX3 T a9 S9)) {ex : Int32 × (Nat → Nat → Int32) × (Nat → Nat → Int32) × (Nat → Nat → Int32) × (Nat → Nat → Int32) × (Nat → Nat → Int32) × (Nat → Nat → Int32)} (h : f_X6_place_J75 S1 S2 S3 S4 S5 S6 S7 S8 S9 x1 x2 x3 x4 = some ex) : zt p l e R s m args below meth c 5 (zA w0) D 0 0 (MQ below (zQJ D w0 ex.1 (wX6 a0 a1 a2 a3 a4 a5 a6 a7 a8 a9 ++ wX4 T a1 S1 ++ wX1 T a2 ex.2.1 ++ wX1 T a3 S3 ++ wX0 T a4 ex.2.2.1 ++ wX5 T a5 ex.2.2.2.1 ++ wX5 T a6 ex.2.2.2.2.1 ++ wX5 T a7 ex.2.2.2.2.2.1 ++ wX5 T a8 ex.2.2.2.2.2.2 ++ wX3 T a9 S9)) args s 0 0 (zA w0)) (wX6 a0 a1 a2 a3 a4 a5 a6 a7 a8 a9 ++ wX4 T a1 S1 ++ wX1 T a2 S2 ++ wX1 T a3 S3 ++ wX0 T a4 S4 ++ wX5 T a5 S5 ++ wX5 T a6 S6 ++ wX5 T a7 S7 ++ wX5 T a8 S8 ++ wX3 T a9 S9) [(0, .ref (a0 99)), (1, .int x1), (2, .int x2), (3, .int x3), (4, .int x4)] 75 [] := by
  unfold f_X6_place_J75 at h
  refine z_iload_n C dX6_place_75 rfl 3 rfl 76 rfl ?_
  refine z_if_ne C 91 dX6_place_76 (by decide) 79 rfl h (fun h => ?_) (fun h => ?_)
  · refine z_iload C dX6_place_91 4 rfl 93 rfl ?_
    refine z_iconst C (-1) dX6_place_93 (by decide) 94 rfl ?_
    refine z_icmp_ne C 110 dX6_place_94 (by decide) 97 rfl h (fun h => ?_) (fun h => ?_)
    · refine z_aload_n C dX6_place_110 rfl 0 rfl 111 rfl ?_
      refine z_get C (in_X6_place_X6) 0 rfl rfl 1 (by decide) (List.mem_of_getElem? (i := 1) rfl) rfl rfl dX6_place_111 114 rfl ?_
      refine z_get C (in_X6_place_X1) 3 rfl rfl 8 (by decide) (List.mem_of_getElem? (i := 4) rfl) rfl rfl dX6_place_114 117 rfl ?_
      refine z_iload C dX6_place_117 4 rfl 119 rfl ?_
      refine z_iload_n C dX6_place_119 rfl 3 rfl 120 rfl ?_
      refine z_iast C (fun z => wX6 a0 a1 a2 a3 a4 a5 a6 a7 a8 a9 ++ wX4 T a1 S1 ++ wX1 T a2 z ++ wX1 T a3 S3 ++ wX0 T a4 S4 ++ wX5 T a5 S5 ++ wX5 T a6 S6 ++ wX5 T a7 S7 ++ wX5 T a8 S8 ++ wX3 T a9 S9) S2 8 (hD.zaddr rfl) 6 rfl rfl (fun _ => rfl) dX6_place_120 121 rfl h (fun S2_5 h => ?_)
      exact z_locals (ks := [0]) rfl (p_X6_place_J121 C hr S1 S2_5 S3 S4 S5 S6 S7 S8 S9 (hD.zaddr rfl) h)
    · refine z_aload_n C dX6_place_97 rfl 0 rfl 98 rfl ?_
      refine z_get C (in_X6_place_X6) 0 rfl rfl 1 (by decide) (List.mem_of_getElem? (i := 1) rfl) rfl rfl dX6_place_98 101 rfl ?_
      refine z_iload_n C dX6_place_101 rfl 1 rfl 102 rfl ?_
      refine z_iload_n C dX6_place_102 rfl 2 rfl 103 rfl ?_
      refine z_iload_n C dX6_place_103 rfl 3 rfl 104 rfl ?_
      refine z_callV C (wX1 T a2 S2) (wX6 a0 a1 a2 a3 a4 a5 a6 a7 a8 a9 ++ wX4 T a1 S1 ++ wX1 T a3 S3 ++ wX0 T a4 S4 ++ wX5 T a5 S5 ++ wX5 T a6 S6 ++ wX5 T a7 S7 ++ wX5 T a8 S8 ++ wX3 T a9 S9) (fun z => wX1 T a2 z) (fun z => wX6 a0 a1 a2 a3 a4 a5 a6 a7 a8 a9 ++ wX4 T a1 S1 ++ wX1 T a2 z ++ wX1 T a3 S3 ++ wX0 T a4 S4 ++ wX5 T a5 S5 ++ wX5 T a6 S6 ++ wX5 T a7 S7 ++ wX5 T a8 S8 ++ wX3 T a9 S9) (fun z h => c_X1_addPlace l D T a2  S2 x1 x2 x3 z h) ⟨rfl, rfl⟩ (z_cwV C 3 gX6_place_X1_addPlace rfl rfl dd_X1_addPlace ⟨(Nat.le_of_ble_eq_true rfl), (Nat.le_of_ble_eq_true rfl)⟩) (hD.zaddr rfl) [3, 4, 5, 6, 7] [0, 1, 2, 8, 9, 10, 11, 12, 13, 14, 15, 16, 17, 18, 19, 20, 21, 22, 23, 24, 25, 26, 27, 28, 29, 30, 31, 32, 33] [0, 1, 2, 29, 30, 31, 32, 33, 3, 4, 5, 6, 7, 8, 9, 10, 11, 12, 13, 14, 15, 16, 17, 18, 19, 20, 21, 22, 23, 24, 25, 26, 27, 28] rfl rfl rfl (by decide) (fun _ => rfl) (fun _ => ⟨a2 99, [.int x1, .int x2, .int x3], 1, 0, _, _, rfl, rfl, rfl, rfl, rfl⟩) (fun h => absurd rfl h) rfl (Nat.le_of_ble_eq_true rfl) dX6_place_104 107 rfl h (fun r_7 h => ?_)
      refine z_goto C 121 dX6_place_107 (by decide) ?_
      exact z_locals (ks := [0]) rfl (p_X6_place_J121 C hr S1 r_7 S3 S4 S5 S6 S7 S8 S9 (hD.zaddr rfl) h)
  · refine z_aload_n C dX6_place_79 rfl 0 rfl 80 rfl ?_
    refine z_get C (in_X6_place_X6) 0 rfl rfl 1 (by decide) (List.mem_of_getElem? (i := 1) rfl) rfl rfl dX6_place_80 83 rfl ?_
    refine z_iload C dX6_place_83 4 rfl 85 rfl ?_
    refine z_callV C (wX1 T a2 S2) (wX6 a0 a1 a2 a3 a4 a5 a6 a7 a8 a9 ++ wX4 T a1 S1 ++ wX1 T a3 S3 ++ wX0 T a4 S4 ++ wX5 T a5 S5 ++ wX5 T a6 S6 ++ wX5 T a7 S7 ++ wX5 T a8 S8 ++ wX3 T a9 S9) (fun z => wX1 T a2 z) (fun z => wX6 a0 a1 a2 a3 a4 a5 a6 a7 a8 a9 ++ wX4 T a1 S1 ++ wX1 T a2 z ++ wX1 T a3 S3 ++ wX0 T a4 S4 ++ wX5 T a5 S5 ++ wX5 T a6 S6 ++ wX5 T a7 S7 ++ wX5 T a8 S8 ++ wX3 T a9 S9) (fun z h => c_X1_removePlace l D T a2  S2 x4 z h) ⟨rfl, rfl⟩ (z_cwV C 1 gX6_place_X1_removePlace rfl rfl dd_X1_removePlace ⟨(Nat.le_of_ble_eq_true rfl), (Nat.le_of_ble_eq_true rfl)⟩) (hD.zaddr rfl) [3, 4, 5, 6, 7] [0, 1, 2, 8, 9, 10, 11, 12, 13, 14, 15, 16, 17, 18, 19, 20, 21, 22, 23, 24, 25, 26, 27, 28, 29, 30, 31, 32, 33] [0, 1, 2, 29, 30, 31, 32, 33, 3, 4, 5, 6, 7, 8, 9, 10, 11, 12, 13, 14, 15, 16, 17, 18, 19, 20, 21, 22, 23, 24, 25, 26, 27, 28] rfl rfl rfl (by decide) (fun _ => rfl) (fun _ => ⟨a2 99, [.int x4], 1, 0, _, _, rfl, rfl, rfl, rfl, rfl⟩) (fun h => absurd rfl h) rfl (Nat.le_of_ble_eq_true rfl) dX6_place_85 88 rfl h (fun r_8 h => ?_)
    refine z_goto C 121 dX6_place_88 (by decide) ?_
    exact z_locals (ks := [0]) rfl (p_X6_place_J121 C hr S1 r_8 S3 S4 S5 S6 S7 S8 S9 (hD.zaddr rfl) h)

def f_X6_place (S1 : Nat → Nat → Int32) (S2 : Nat → Nat → Int32) (S3 : Nat → Nat → Int32) (S4 : Nat → Nat → Int32) (S5 : Nat → Nat → Int32) (S6 : Nat → Nat → Int32) (S7 : Nat → Nat → Int32) (S8 : Nat → Nat → Int32) (S9 : Nat → Nat → Int32) (v1 : Int32) (v2 : Int32) (v3 : Int32) : Option (Int32 × (Nat → Nat → Int32) × (Nat → Nat → Int32) × (Nat → Nat → Int32) × (Nat → Nat → Int32) × (Nat → Nat → Int32) × (Nat → Nat → Int32)) := (f_X1_hasCell S2 v1 v2).bind fun r_1 => if r_1 = 0 then (some ((-1), S2, S4, S5, S6, S7, S8)) else ((f_X6_isWithin v3 0 99).bind fun r_2 => if r_2 = 0 then (some ((-1), S2, S4, S5, S6, S7, S8)) else ((f_X6_cellOf v1 v2).bind fun r_3 => zix r_3 240 fun _ => if (S2 9 (Int32.toNatClampNeg r_3)) = 0 then ((f_X1_placeAt S2 v1 v2).bind fun r_4 => if r_4 = (-1) then (if v3 = 0 then (some ((-1), S2, S4, S5, S6, S7, S8)) else (if (S2 5 0) < 7 then (f_X6_place_J75 S1 S2 S3 S4 S5 S6 S7 S8 S9 v1 v2 v3 r_4) else (some ((-1), S2, S4, S5, S6, S7, S8)))) else (f_X6_place_J75 S1 S2 S3 S4 S5 S6 S7 S8 S9 v1 v2 v3 r_4)) else (some ((-1), S2, S4, S5, S6, S7, S8))))
theorem dd_X6_place : RX6 ≠ "java/lang/invoke/MethodHandle" ∧ RX6 ≠ "java/lang/invoke/VarHandle" ∧ (parseMethodDescriptor yX6_place.desc).map (fun d => d.parameters.length) = some 3 := by decide +kernel
set_option maxHeartbeats 4000000 in
set_option maxRecDepth 100000 in
theorem c_X6_place (l : Launch) (D : va_G) (T : Nat → ClassId) (a0 : Nat → Nat) (a1 : Nat → Nat) (a2 : Nat → Nat) (a3 : Nat → Nat) (a4 : Nat → Nat) (a5 : Nat → Nat) (a6 : Nat → Nat) (a7 : Nat → Nat) (a8 : Nat → Nat) (a9 : Nat → Nat) (S1 : Nat → Nat → Int32) (S2 : Nat → Nat → Int32) (S3 : Nat → Nat → Int32) (S4 : Nat → Nat → Int32) (S5 : Nat → Nat → Int32) (S6 : Nat → Nat → Int32) (S7 : Nat → Nat → Int32) (S8 : Nat → Nat → Int32) (S9 : Nat → Nat → Int32) (v1 : Int32) (v2 : Int32) (v3 : Int32) (ex : Int32 × (Nat → Nat → Int32) × (Nat → Nat → Int32) × (Nat → Nat → Int32) × (Nat → Nat → Int32) × (Nat → Nat → Int32) × (Nat → Nat → Int32)) (h : f_X6_place S1 S2 S3 S4 S5 S6 S7 S8 S9 v1 v2 v3 = some ex) : zWI l yX6_place wsX6_place ({ frames := 2, cells := 0, slots := 0, locals := 47 } : Room) D T [.ref (a0 99), .int v1, .int v2, .int v3] (wX6 a0 a1 a2 a3 a4 a5 a6 a7 a8 a9 ++ wX4 T a1 S1 ++ wX1 T a2 S2 ++ wX1 T a3 S3 ++ wX0 T a4 S4 ++ wX5 T a5 S5 ++ wX5 T a6 S6 ++ wX5 T a7 S7 ++ wX5 T a8 S8 ++ wX3 T a9 S9) ex.1 (wX6 a0 a1 a2 a3 a4 a5 a6 a7 a8 a9 ++ wX4 T a1 S1 ++ wX1 T a2 ex.2.1 ++ wX1 T a3 S3 ++ wX0 T a4 ex.2.2.1 ++ wX5 T a5 ex.2.2.2.1 ++ wX5 T a6 ex.2.2.2.2.1 ++ wX5 T a7 ex.2.2.2.2.2.1 ++ wX5 T a8 ex.2.2.2.2.2.2 ++ wX3 T a9 S9) := by
  refine z_begin (cc := cX6_place) (nL := 5) (own := RX6) (fr := 2) (lc := 47) (ret := some .int) (by decide) rfl (Nat.le_of_ble_eq_true rfl) (zA (wX6 a0 a1 a2 a3 a4 a5 a6 a7 a8 a9 ++ wX4 T a1 S1 ++ wX1 T a2 S2 ++ wX1 T a3 S3 ++ wX0 T a4 S4 ++ wX5 T a5 S5 ++ wX5 T a6 S6 ++ wX5 T a7 S7 ++ wX5 T a8 S8 ++ wX3 T a9 S9)) rfl [(0, .ref (a0 99)), (1, .int v1), (2, .int v2), (3, .int v3)] rfl ⟨rfl, rfl⟩ rfl ?_
  intro p e s m args below meth c C hr hD
  have hD := hD.zself
  unfold f_X6_place at h
  refine z_aload_n C dX6_place_0 rfl 0 rfl 1 rfl ?_
  refine z_get C (in_X6_place_X6) 0 rfl rfl 1 (by decide) (List.mem_of_getElem? (i := 1) rfl) rfl rfl dX6_place_1 4 rfl ?_
  refine z_iload_n C dX6_place_4 rfl 1 rfl 5 rfl ?_
  refine z_iload_n C dX6_place_5 rfl 2 rfl 6 rfl ?_
  refine z_callR C (wX1 T a2 S2) (fun v h => c_X1_hasCell l D T a2  S2 v1 v2 v h) ⟨rfl, rfl⟩ (z_cwV C 2 gX6_place_X1_hasCell rfl rfl dd_X1_hasCell ⟨(Nat.le_of_ble_eq_true rfl), (Nat.le_of_ble_eq_true rfl)⟩) (hD.zaddr rfl) [3, 4, 5, 6, 7] rfl rfl (fun _ => ⟨a2 99, [.int v1, .int v2], 1, 0, _, _, rfl, rfl, rfl, rfl, rfl⟩) (fun h => absurd rfl h) rfl (Nat.le_of_ble_eq_true rfl) dX6_place_6 9 rfl h (fun r_1 h => ?_)
  refine z_if_eq C 38 dX6_place_9 (by decide) 12 rfl h (fun h => ?_) (fun h => ?_)
  · refine z_iconst C (-1) dX6_place_38 (by decide) 39 rfl ?_
    exact z_iretW (fun z => wX6 a0 a1 a2 a3 a4 a5 a6 a7 a8 a9 ++ wX4 T a1 S1 ++ wX1 T a2 z.1 ++ wX1 T a3 S3 ++ wX0 T a4 z.2.1 ++ wX5 T a5 z.2.2.1 ++ wX5 T a6 z.2.2.2.1 ++ wX5 T a7 z.2.2.2.2.1 ++ wX5 T a8 z.2.2.2.2.2 ++ wX3 T a9 S9) C hr dX6_place_39 h rfl
  · refine z_iload_n C dX6_place_12 rfl 3 rfl 13 rfl ?_
    refine z_iconst C 0 dX6_place_13 (by decide) 14 rfl ?_
    refine z_bipush C 99 dX6_place_14 (by decide) 16 rfl ?_
    refine z_callR C ([]) (fun v h => c_X6_isWithin l D T    v3 0 99 v h) ⟨rfl, rfl⟩ (z_cwS C 3 gX6_place_X6_isWithin rfl dd_X6_isWithin ⟨(Nat.le_of_ble_eq_true rfl), (Nat.le_of_ble_eq_true rfl)⟩) (hD.zaddr rfl) [] rfl rfl (fun h => absurd h (by decide)) (fun _ => rfl) rfl (Nat.le_of_ble_eq_true rfl) dX6_place_16 19 rfl h (fun r_2 h => ?_)
    refine z_if_eq C 38 dX6_place_19 (by decide) 22 rfl h (fun h => ?_) (fun h => ?_)
    · refine z_iconst C (-1) dX6_place_38 (by decide) 39 rfl ?_
      exact z_iretW (fun z => wX6 a0 a1 a2 a3 a4 a5 a6 a7 a8 a9 ++ wX4 T a1 S1 ++ wX1 T a2 z.1 ++ wX1 T a3 S3 ++ wX0 T a4 z.2.1 ++ wX5 T a5 z.2.2.1 ++ wX5 T a6 z.2.2.2.1 ++ wX5 T a7 z.2.2.2.2.1 ++ wX5 T a8 z.2.2.2.2.2 ++ wX3 T a9 S9) C hr dX6_place_39 h rfl
    · refine z_aload_n C dX6_place_22 rfl 0 rfl 23 rfl ?_
      refine z_get C (in_X6_place_X6) 0 rfl rfl 1 (by decide) (List.mem_of_getElem? (i := 1) rfl) rfl rfl dX6_place_23 26 rfl ?_
      refine z_get C (in_X6_place_X1) 3 rfl rfl 9 (by decide) (List.mem_of_getElem? (i := 2) rfl) rfl rfl dX6_place_26 29 rfl ?_
      refine z_iload_n C dX6_place_29 rfl 1 rfl 30 rfl ?_
      refine z_iload_n C dX6_place_30 rfl 2 rfl 31 rfl ?_
      refine z_callR C ([]) (fun v h => c_X6_cellOf l D T    v1 v2 v h) ⟨rfl, rfl⟩ (z_cwS C 2 gX6_place_X6_cellOf rfl dd_X6_cellOf ⟨(Nat.le_of_ble_eq_true rfl), (Nat.le_of_ble_eq_true rfl)⟩) (hD.zaddr rfl) [] rfl rfl (fun h => absurd h (by decide)) (fun _ => rfl) rfl (Nat.le_of_ble_eq_true rfl) dX6_place_31 34 rfl h (fun r_3 h => ?_)
      refine z_zald C 7 rfl rfl dX6_place_34 35 rfl h (fun h => ?_)
      refine z_if_eq C 40 dX6_place_35 (by decide) 38 rfl h (fun h => ?_) (fun h => ?_)
      · refine z_aload_n C dX6_place_40 rfl 0 rfl 41 rfl ?_
        refine z_get C (in_X6_place_X6) 0 rfl rfl 1 (by decide) (List.mem_of_getElem? (i := 1) rfl) rfl rfl dX6_place_41 44 rfl ?_
        refine z_iload_n C dX6_place_44 rfl 1 rfl 45 rfl ?_
        refine z_iload_n C dX6_place_45 rfl 2 rfl 46 rfl ?_
        refine z_callR C (wX1 T a2 S2) (fun v h => c_X1_placeAt l D T a2  S2 v1 v2 v h) ⟨rfl, rfl⟩ (z_cwV C 2 gX6_place_X1_placeAt rfl rfl dd_X1_placeAt ⟨(Nat.le_of_ble_eq_true rfl), (Nat.le_of_ble_eq_true rfl)⟩) (hD.zaddr rfl) [3, 4, 5, 6, 7] rfl rfl (fun _ => ⟨a2 99, [.int v1, .int v2], 1, 0, _, _, rfl, rfl, rfl, rfl, rfl⟩) (fun h => absurd rfl h) rfl (Nat.le_of_ble_eq_true rfl) dX6_place_46 49 rfl h (fun r_4 h => ?_)
        refine z_istore C [(0, .ref (a0 99)), (1, .int v1), (2, .int v2), (3, .int v3), (4, .int r_4)] dX6_place_49 (Nat.le_of_ble_eq_true rfl) [1, 2, 3, 4, 0] rfl 51 rfl ?_
        refine z_iload C dX6_place_51 4 rfl 53 rfl ?_
        refine z_iconst C (-1) dX6_place_53 (by decide) 54 rfl ?_
        refine z_icmp_ne C 75 dX6_place_54 (by decide) 57 rfl h (fun h => ?_) (fun h => ?_)
        · exact z_locals (ks := [0, 1, 2, 3, 4]) rfl (p_X6_place_J75 C hr S1 S2 S3 S4 S5 S6 S7 S8 S9 v1 v2 v3 r_4 (hD.zaddr rfl) h)
        · refine z_iload_n C dX6_place_57 rfl 3 rfl 58 rfl ?_
          refine z_if_eq C 73 dX6_place_58 (by decide) 61 rfl h (fun h => ?_) (fun h => ?_)
          · refine z_iconst C (-1) dX6_place_73 (by decide) 74 rfl ?_
            exact z_iretW (fun z => wX6 a0 a1 a2 a3 a4 a5 a6 a7 a8 a9 ++ wX4 T a1 S1 ++ wX1 T a2 z.1 ++ wX1 T a3 S3 ++ wX0 T a4 z.2.1 ++ wX5 T a5 z.2.2.1 ++ wX5 T a6 z.2.2.2.1 ++ wX5 T a7 z.2.2.2.2.1 ++ wX5 T a8 z.2.2.2.2.2 ++ wX3 T a9 S9) C hr dX6_place_74 h rfl
          · refine z_aload_n C dX6_place_61 rfl 0 rfl 62 rfl ?_
            refine z_get C (in_X6_place_X6) 0 rfl rfl 1 (by decide) (List.mem_of_getElem? (i := 1) rfl) rfl rfl dX6_place_62 65 rfl ?_
            refine z_get C (in_X6_place_X1) 3 rfl rfl 5 (by decide) (List.mem_of_getElem? (i := 3) rfl) rfl rfl dX6_place_65 68 rfl ?_
            refine z_bipush C 7 dX6_place_68 (by decide) 70 rfl ?_
            refine z_icmp_lt C 75 dX6_place_70 (by decide) 73 rfl h (fun h => ?_) (fun h => ?_)
            · exact z_locals (ks := [0, 1, 2, 3, 4]) rfl (p_X6_place_J75 C hr S1 S2 S3 S4 S5 S6 S7 S8 S9 v1 v2 v3 r_4 (hD.zaddr rfl) h)
            · refine z_iconst C (-1) dX6_place_73 (by decide) 74 rfl ?_
              exact z_iretW (fun z => wX6 a0 a1 a2 a3 a4 a5 a6 a7 a8 a9 ++ wX4 T a1 S1 ++ wX1 T a2 z.1 ++ wX1 T a3 S3 ++ wX0 T a4 z.2.1 ++ wX5 T a5 z.2.2.1 ++ wX5 T a6 z.2.2.2.1 ++ wX5 T a7 z.2.2.2.2.1 ++ wX5 T a8 z.2.2.2.2.2 ++ wX3 T a9 S9) C hr dX6_place_74 h rfl
      · refine z_iconst C (-1) dX6_place_38 (by decide) 39 rfl ?_
        exact z_iretW (fun z => wX6 a0 a1 a2 a3 a4 a5 a6 a7 a8 a9 ++ wX4 T a1 S1 ++ wX1 T a2 z.1 ++ wX1 T a3 S3 ++ wX0 T a4 z.2.1 ++ wX5 T a5 z.2.2.1 ++ wX5 T a6 z.2.2.2.1 ++ wX5 T a7 z.2.2.2.2.1 ++ wX5 T a8 z.2.2.2.2.2 ++ wX3 T a9 S9) C hr dX6_place_39 h rfl

end
/-! StreamTree.rock (IIZ)Z -/
section
variable {p : Program} {l : Launch} {e : Env} {R : Room} {s : State} {m : MethodId} {args : Array Value} {below : List Frame} {meth : Method} {c : Code} {Q : State → Prop} {A : Nat → Prop} {D : va_G} {T : Nat → ClassId} {a0 : Nat → Nat} {a1 : Nat → Nat} {a2 : Nat → Nat} {a3 : Nat → Nat} {a4 : Nat → Nat} {a5 : Nat → Nat} {a6 : Nat → Nat} {a7 : Nat → Nat} {a8 : Nat → Nat} {a9 : Nat → Nat}
theorem in_X6_rock_X1 : ∀ w ∈ u_ws RX1 TX1 10, w ∈ wsX6_rock := fun _ h => (List.mem_cons_of_mem _ (List.mem_append_left _ (List.mem_append_left _ (List.mem_append_right _ h))))
theorem in_X6_rock_X6 : ∀ w ∈ u_ws RX6 TX6 9, w ∈ wsX6_rock := fun _ h => (List.mem_cons_of_mem _ (List.mem_append_left _ (List.mem_append_left _ (List.mem_append_left _ (List.mem_append_right _ h)))))
def f_X6_rock (S1 : Nat → Nat → Int32) (S2 : Nat → Nat → Int32) (S3 : Nat → Nat → Int32) (S4 : Nat → Nat → Int32) (S5 : Nat → Nat → Int32) (S6 : Nat → Nat → Int32) (S7 : Nat → Nat → Int32) (S8 : Nat → Nat → Int32) (S9 : Nat → Nat → Int32) (v1 : Int32) (v2 : Int32) (v3 : Int32) : Option (Int32 × (Nat → Nat → Int32) × (Nat → Nat → Int32) × (Nat → Nat → Int32) × (Nat → Nat → Int32) × (Nat → Nat → Int32) × (Nat → Nat → Int32)) := (f_X1_hasCell S2 v1 v2).bind fun r_1 => if r_1 = 0 then (some (0, S2, S4, S5, S6, S7, S8)) else ((f_X6_cellOf v1 v2).bind fun r_2 => zix r_2 240 fun _ => if (S2 9 (Int32.toNatClampNeg r_2)) = v3 then (some (0, S2, S4, S5, S6, S7, S8)) else ((f_X1_placeAt S2 v1 v2).bind fun r_3 => if r_3 = (-1) then ((f_X6_cellOf v1 v2).bind fun r_4 => zbo v3 (zix r_4 240 fun j => zlet (zst S2 9 j v3) fun S2_5 => (f_X6_forgetDrawings S1 S2_5 S3 S4 S5 S6 S7 S8 S9).bind fun r_6 => some (1, S2_5, r_6.1, r_6.2.1, r_6.2.2.1, r_6.2.2.2.1, r_6.2.2.2.2))) else (some (0, S2, S4, S5, S6, S7, S8))))
theorem dd_X6_rock : RX6 ≠ "java/lang/invoke/MethodHandle" ∧ RX6 ≠ "java/lang/invoke/VarHandle" ∧ (parseMethodDescriptor yX6_rock.desc).map (fun d => d.parameters.length) = some 3 := by decide +kernel
set_option maxHeartbeats 4000000 in
set_option maxRecDepth 100000 in
theorem c_X6_rock (l : Launch) (D : va_G) (T : Nat → ClassId) (a0 : Nat → Nat) (a1 : Nat → Nat) (a2 : Nat → Nat) (a3 : Nat → Nat) (a4 : Nat → Nat) (a5 : Nat → Nat) (a6 : Nat → Nat) (a7 : Nat → Nat) (a8 : Nat → Nat) (a9 : Nat → Nat) (S1 : Nat → Nat → Int32) (S2 : Nat → Nat → Int32) (S3 : Nat → Nat → Int32) (S4 : Nat → Nat → Int32) (S5 : Nat → Nat → Int32) (S6 : Nat → Nat → Int32) (S7 : Nat → Nat → Int32) (S8 : Nat → Nat → Int32) (S9 : Nat → Nat → Int32) (v1 : Int32) (v2 : Int32) (v3 : Int32) (ex : Int32 × (Nat → Nat → Int32) × (Nat → Nat → Int32) × (Nat → Nat → Int32) × (Nat → Nat → Int32) × (Nat → Nat → Int32) × (Nat → Nat → Int32)) (h : f_X6_rock S1 S2 S3 S4 S5 S6 S7 S8 S9 v1 v2 v3 = some ex) : zWI l yX6_rock wsX6_rock ({ frames := 2, cells := 0, slots := 0, locals := 44 } : Room) D T [.ref (a0 99), .int v1, .int v2, .int v3] (wX6 a0 a1 a2 a3 a4 a5 a6 a7 a8 a9 ++ wX4 T a1 S1 ++ wX1 T a2 S2 ++ wX1 T a3 S3 ++ wX0 T a4 S4 ++ wX5 T a5 S5 ++ wX5 T a6 S6 ++ wX5 T a7 S7 ++ wX5 T a8 S8 ++ wX3 T a9 S9) ex.1 (wX6 a0 a1 a2 a3 a4 a5 a6 a7 a8 a9 ++ wX4 T a1 S1 ++ wX1 T a2 ex.2.1 ++ wX1 T a3 S3 ++ wX0 T a4 ex.2.2.1 ++ wX5 T a5 ex.2.2.2.1 ++ wX5 T a6 ex.2.2.2.2.1 ++ wX5 T a7 ex.2.2.2.2.2.1 ++ wX5 T a8 ex.2.2.2.2.2.2 ++ wX3 T a9 S9) := by
  refine z_begin (cc := cX6_rock) (nL := 4) (own := RX6) (fr := 2) (lc := 44) (ret := some .boolean) (by decide) rfl (Nat.le_of_ble_eq_true rfl) (zA (wX6 a0 a1 a2 a3 a4 a5 a6 a7 a8 a9 ++ wX4 T a1 S1 ++ wX1 T a2 S2 ++ wX1 T a3 S3 ++ wX0 T a4 S4 ++ wX5 T a5 S5 ++ wX5 T a6 S6 ++ wX5 T a7 S7 ++ wX5 T a8 S8 ++ wX3 T a9 S9)) rfl [(0, .ref (a0 99)), (1, .int v1), (2, .int v2), (3, .int v3)] rfl ⟨rfl, rfl⟩ rfl ?_
  intro p e s m args below meth c C hr hD
  have hD := hD.zself
  unfold f_X6_rock at h
  refine z_aload_n C dX6_rock_0 rfl 0 rfl 1 rfl ?_
  refine z_get C (in_X6_rock_X6) 0 rfl rfl 1 (by decide) (List.mem_of_getElem? (i := 1) rfl) rfl rfl dX6_rock_1 4 rfl ?_
  refine z_iload_n C dX6_rock_4 rfl 1 rfl 5 rfl ?_
  refine z_iload_n C dX6_rock_5 rfl 2 rfl 6 rfl ?_
  refine z_callR C (wX1 T a2 S2) (fun v h => c_X1_hasCell l D T a2  S2 v1 v2 v h) ⟨rfl, rfl⟩ (z_cwV C 2 gX6_rock_X1_hasCell rfl rfl dd_X1_hasCell ⟨(Nat.le_of_ble_eq_true rfl), (Nat.le_of_ble_eq_true rfl)⟩) (hD.zaddr rfl) [3, 4, 5, 6, 7] rfl rfl (fun _ => ⟨a2 99, [.int v1, .int v2], 1, 0, _, _, rfl, rfl, rfl, rfl, rfl⟩) (fun h => absurd rfl h) rfl (Nat.le_of_ble_eq_true rfl) dX6_rock_6 9 rfl h (fun r_1 h => ?_)
  refine z_if_eq C 42 dX6_rock_9 (by decide) 12 rfl h (fun h => ?_) (fun h => ?_)
  · refine z_iconst C 0 dX6_rock_42 (by decide) 43 rfl ?_
    exact z_zretWc (fun z => wX6 a0 a1 a2 a3 a4 a5 a6 a7 a8 a9 ++ wX4 T a1 S1 ++ wX1 T a2 z.1 ++ wX1 T a3 S3 ++ wX0 T a4 z.2.1 ++ wX5 T a5 z.2.2.1 ++ wX5 T a6 z.2.2.2.1 ++ wX5 T a7 z.2.2.2.2.1 ++ wX5 T a8 z.2.2.2.2.2 ++ wX3 T a9 S9) C hr dX6_rock_43 (Or.inl rfl) h rfl
  · refine z_aload_n C dX6_rock_12 rfl 0 rfl 13 rfl ?_
    refine z_get C (in_X6_rock_X6) 0 rfl rfl 1 (by decide) (List.mem_of_getElem? (i := 1) rfl) rfl rfl dX6_rock_13 16 rfl ?_
    refine z_get C (in_X6_rock_X1) 3 rfl rfl 9 (by decide) (List.mem_of_getElem? (i := 2) rfl) rfl rfl dX6_rock_16 19 rfl ?_
    refine z_iload_n C dX6_rock_19 rfl 1 rfl 20 rfl ?_
    refine z_iload_n C dX6_rock_20 rfl 2 rfl 21 rfl ?_
    refine z_callR C ([]) (fun v h => c_X6_cellOf l D T    v1 v2 v h) ⟨rfl, rfl⟩ (z_cwS C 2 gX6_rock_X6_cellOf rfl dd_X6_cellOf ⟨(Nat.le_of_ble_eq_true rfl), (Nat.le_of_ble_eq_true rfl)⟩) (hD.zaddr rfl) [] rfl rfl (fun h => absurd h (by decide)) (fun _ => rfl) rfl (Nat.le_of_ble_eq_true rfl) dX6_rock_21 24 rfl h (fun r_2 h => ?_)
    refine z_zald C 7 rfl rfl dX6_rock_24 25 rfl h (fun h => ?_)
    refine z_iload_n C dX6_rock_25 rfl 3 rfl 26 rfl ?_
    refine z_icmp_eq C 42 dX6_rock_26 (by decide) 29 rfl h (fun h => ?_) (fun h => ?_)
    · refine z_iconst C 0 dX6_rock_42 (by decide) 43 rfl ?_
      exact z_zretWc (fun z => wX6 a0 a1 a2 a3 a4 a5 a6 a7 a8 a9 ++ wX4 T a1 S1 ++ wX1 T a2 z.1 ++ wX1 T a3 S3 ++ wX0 T a4 z.2.1 ++ wX5 T a5 z.2.2.1 ++ wX5 T a6 z.2.2.2.1 ++ wX5 T a7 z.2.2.2.2.1 ++ wX5 T a8 z.2.2.2.2.2 ++ wX3 T a9 S9) C hr dX6_rock_43 (Or.inl rfl) h rfl
    · refine z_aload_n C dX6_rock_29 rfl 0 rfl 30 rfl ?_
      refine z_get C (in_X6_rock_X6) 0 rfl rfl 1 (by decide) (List.mem_of_getElem? (i := 1) rfl) rfl rfl dX6_rock_30 33 rfl ?_
      refine z_iload_n C dX6_rock_33 rfl 1 rfl 34 rfl ?_
      refine z_iload_n C dX6_rock_34 rfl 2 rfl 35 rfl ?_
      refine z_callR C (wX1 T a2 S2) (fun v h => c_X1_placeAt l D T a2  S2 v1 v2 v h) ⟨rfl, rfl⟩ (z_cwV C 2 gX6_rock_X1_placeAt rfl rfl dd_X1_placeAt ⟨(Nat.le_of_ble_eq_true rfl), (Nat.le_of_ble_eq_true rfl)⟩) (hD.zaddr rfl) [3, 4, 5, 6, 7] rfl rfl (fun _ => ⟨a2 99, [.int v1, .int v2], 1, 0, _, _, rfl, rfl, rfl, rfl, rfl⟩) (fun h => absurd rfl h) rfl (Nat.le_of_ble_eq_true rfl) dX6_rock_35 38 rfl h (fun r_3 h => ?_)
      refine z_iconst C (-1) dX6_rock_38 (by decide) 39 rfl ?_
      refine z_icmp_eq C 44 dX6_rock_39 (by decide) 42 rfl h (fun h => ?_) (fun h => ?_)
      · refine z_aload_n C dX6_rock_44 rfl 0 rfl 45 rfl ?_
        refine z_get C (in_X6_rock_X6) 0 rfl rfl 1 (by decide) (List.mem_of_getElem? (i := 1) rfl) rfl rfl dX6_rock_45 48 rfl ?_
        refine z_get C (in_X6_rock_X1) 3 rfl rfl 9 (by decide) (List.mem_of_getElem? (i := 2) rfl) rfl rfl dX6_rock_48 51 rfl ?_
        refine z_iload_n C dX6_rock_51 rfl 1 rfl 52 rfl ?_
        refine z_iload_n C dX6_rock_52 rfl 2 rfl 53 rfl ?_
        refine z_callR C ([]) (fun v h => c_X6_cellOf l D T    v1 v2 v h) ⟨rfl, rfl⟩ (z_cwS C 2 gX6_rock_X6_cellOf rfl dd_X6_cellOf ⟨(Nat.le_of_ble_eq_true rfl), (Nat.le_of_ble_eq_true rfl)⟩) (hD.zaddr rfl) [] rfl rfl (fun h => absurd h (by decide)) (fun _ => rfl) rfl (Nat.le_of_ble_eq_true rfl) dX6_rock_53 56 rfl h (fun r_4 h => ?_)
        refine z_iload_n C dX6_rock_56 rfl 3 rfl 57 rfl ?_
        refine z_zast C (fun z => wX6 a0 a1 a2 a3 a4 a5 a6 a7 a8 a9 ++ wX4 T a1 S1 ++ wX1 T a2 z ++ wX1 T a3 S3 ++ wX0 T a4 S4 ++ wX5 T a5 S5 ++ wX5 T a6 S6 ++ wX5 T a7 S7 ++ wX5 T a8 S8 ++ wX3 T a9 S9) S2 9 (hD.zaddr rfl) 7 rfl rfl (fun _ => rfl) dX6_rock_57 58 rfl h (fun S2_5 h => ?_)
        refine z_aload_n C dX6_rock_58 rfl 0 rfl 59 rfl ?_
        refine z_callV C (wX6 a0 a1 a2 a3 a4 a5 a6 a7 a8 a9 ++ wX4 T a1 S1 ++ wX1 T a2 S2_5 ++ wX1 T a3 S3 ++ wX0 T a4 S4 ++ wX5 T a5 S5 ++ wX5 T a6 S6 ++ wX5 T a7 S7 ++ wX5 T a8 S8 ++ wX3 T a9 S9) (([] : va_W)) (fun z => wX6 a0 a1 a2 a3 a4 a5 a6 a7 a8 a9 ++ wX4 T a1 S1 ++ wX1 T a2 S2_5 ++ wX1 T a3 S3 ++ wX0 T a4 z.1 ++ wX5 T a5 z.2.1 ++ wX5 T a6 z.2.2.1 ++ wX5 T a7 z.2.2.2.1 ++ wX5 T a8 z.2.2.2.2 ++ wX3 T a9 S9) (fun z => wX6 a0 a1 a2 a3 a4 a5 a6 a7 a8 a9 ++ wX4 T a1 S1 ++ wX1 T a2 S2_5 ++ wX1 T a3 S3 ++ wX0 T a4 z.1 ++ wX5 T a5 z.2.1 ++ wX5 T a6 z.2.2.1 ++ wX5 T a7 z.2.2.2.1 ++ wX5 T a8 z.2.2.2.2 ++ wX3 T a9 S9) (fun z h => c_X6_forgetDrawings l D T a0 a1 a2 a3 a4 a5 a6 a7 a8 a9  S1 S2_5 S3 S4 S5 S6 S7 S8 S9  z h) ⟨rfl, rfl⟩ (z_cwV C 0 gX6_rock_X6_forgetDrawings rfl rfl dd_X6_forgetDrawings ⟨(Nat.le_of_ble_eq_true rfl), (Nat.le_of_ble_eq_true rfl)⟩) (hD.zaddr rfl) [0, 1, 2, 3, 4, 5, 6, 7, 8, 9, 10, 11, 12, 13, 14, 15, 16, 17, 18, 19, 20, 21, 22, 23, 24, 25, 26, 27, 28, 29, 30, 31, 32, 33] [] [0, 1, 2, 3, 4, 5, 6, 7, 8, 9, 10, 11, 12, 13, 14, 15, 16, 17, 18, 19, 20, 21, 22, 23, 24, 25, 26, 27, 28, 29, 30, 31, 32, 33] rfl rfl rfl (by decide) (fun _ => rfl) (fun _ => ⟨a0 99, [], 5, 0, _, _, rfl, rfl, rfl, rfl, rfl⟩) (fun h => absurd rfl h) rfl (Nat.le_of_ble_eq_true rfl) dX6_rock_59 62 rfl h (fun r_6 h => ?_)
        refine z_iconst C 1 dX6_rock_62 (by decide) 63 rfl ?_
        exact z_zretWc (fun z => wX6 a0 a1 a2 a3 a4 a5 a6 a7 a8 a9 ++ wX4 T a1 S1 ++ wX1 T a2 z.1 ++ wX1 T a3 S3 ++ wX0 T a4 z.2.1 ++ wX5 T a5 z.2.2.1 ++ wX5 T a6 z.2.2.2.1 ++ wX5 T a7 z.2.2.2.2.1 ++ wX5 T a8 z.2.2.2.2.2 ++ wX3 T a9 S9) C hr dX6_rock_63 (Or.inr rfl) h rfl
      · refine z_iconst C 0 dX6_rock_42 (by decide) 43 rfl ?_
        exact z_zretWc (fun z => wX6 a0 a1 a2 a3 a4 a5 a6 a7 a8 a9 ++ wX4 T a1 S1 ++ wX1 T a2 z.1 ++ wX1 T a3 S3 ++ wX0 T a4 z.2.1 ++ wX5 T a5 z.2.2.1 ++ wX5 T a6 z.2.2.2.1 ++ wX5 T a7 z.2.2.2.2.1 ++ wX5 T a8 z.2.2.2.2.2 ++ wX3 T a9 S9) C hr dX6_rock_43 (Or.inl rfl) h rfl

end
/-! StreamTree.set (II)I -/
section
variable {p : Program} {l : Launch} {e : Env} {R : Room} {s : State} {m : MethodId} {args : Array Value} {below : List Frame} {meth : Method} {c : Code} {Q : State → Prop} {A : Nat → Prop} {D : va_G} {T : Nat → ClassId} {a0 : Nat → Nat} {a1 : Nat → Nat} {a2 : Nat → Nat} {a3 : Nat → Nat} {a4 : Nat → Nat} {a5 : Nat → Nat} {a6 : Nat → Nat} {a7 : Nat → Nat} {a8 : Nat → Nat} {a9 : Nat → Nat}
theorem in_X6_set_X1 : ∀ w ∈ u_ws RX1 TX1 10, w ∈ wsX6_set := fun _ h => (List.mem_cons_of_mem _ (List.mem_append_left _ (List.mem_append_left _ (List.mem_append_right _ h))))
theorem in_X6_set_X6 : ∀ w ∈ u_ws RX6 TX6 9, w ∈ wsX6_set := fun _ h => (List.mem_cons_of_mem _ (List.mem_append_left _ (List.mem_append_left _ (List.mem_append_left _ (List.mem_append_right _ h)))))
def f_X6_set_J100 (S1 : Nat → Nat → Int32) (S2 : Nat → Nat → Int32) (S3 : Nat → Nat → Int32) (S4 : Nat → Nat → Int32) (S5 : Nat → Nat → Int32) (S6 : Nat → Nat → Int32) (S7 : Nat → Nat → Int32) (S8 : Nat → Nat → Int32) (S9 : Nat → Nat → Int32) (x3 : Int32)  : Option (Int32 × (Nat → Nat → Int32) × (Nat → Nat → Int32) × (Nat → Nat → Int32) × (Nat → Nat → Int32) × (Nat → Nat → Int32) × (Nat → Nat → Int32)) := if x3 = (-1) then (some (x3, S2, S4, S5, S6, S7, S8)) else ((f_X6_forgetDrawings S1 S2 S3 S4 S5 S6 S7 S8 S9).bind fun r_1 => some (x3, S2, r_1.1, r_1.2.1, r_1.2.2.1, r_1.2.2.2.1, r_1.2.2.2.2))
set_option maxHeartbeats 4000000 in
set_option maxRecDepth 100000 in
theorem p_X6_set_J100 {w0 : va_W} (C : zC p R s m args meth c cX6_set 4 RX6 wsX6_set D T 1 22 0 0) (hr : meth.sig.returnType = some .int) (S1 : Nat → Nat → Int32) (S2 : Nat → Nat → Int32) (S3 : Nat → Nat → Int32) (S4 : Nat → Nat → Int32) (S5 : Nat → Nat → Int32) (S6 : Nat → Nat → Int32) (S7 : Nat → Nat → Int32) (S8 : Nat → Nat → Int32) (S9 : Nat → Nat → Int32) (x3 : Int32)  (hD : va_D (zA w0) (wX6 a0 a1 a2 a3 a4 a5 a6 a7 a8 a9 ++ wX4 T a1 S1 ++ wX1 T a2 S2 ++ wX1 T a3 S3 ++ wX0 T a4 S4 ++ wX5 T a5 S5 ++ wX5 T a6 S6 ++ wX5 T a7 S7 ++ wX5 T a8 S8 ++ wX3 T a9 S9)) {ex : Int32 × (Nat → Nat → Int32) × (Nat → Nat → Int32) × (Nat → Nat → Int32) × (Nat → Nat → Int32) × (Nat → Nat → Int32) × (Nat → Nat → Int32)} (h : f_X6_set_J100 S1 S2 S3 S4 S5 S6 S7 S8 S9 x3 = some ex) : zt p l e R s m args below meth c 4 (zA w0) D 0 0 (MQ below (zQJ D w0 ex.1 (wX6 a0 a1 a2 a3 a4 a5 a6 a7 a8 a9 ++ wX4 T a1 S1 ++ wX1 T a2 ex.2.1 ++ wX1 T a3 S3 ++ wX0 T a4 ex.2.2.1 ++ wX5 T a5 ex.2.2.2.1 ++ wX5 T a6 ex.2.2.2.2.1 ++ wX5 T a7 ex.2.2.2.2.2.1 ++ wX5 T a8 ex.2.2.2.2.2.2 ++ wX3 T a9 S9)) args s 0 0 (zA w0)) (wX6 a0 a1 a2 a3 a4 a5 a6 a7 a8 a9 ++ wX4 T a1 S1 ++ wX1 T a2 S2 ++ wX1 T a3 S3 ++ wX0 T a4 S4 ++ wX5 T a5 S5 ++ wX5 T a6 S6 ++ wX5 T a7 S7 ++ wX5 T a8 S8 ++ wX3 T a9 S9) [(0, .ref (a0 99)), (3, .int x3)] 100 [] := by
  unfold f_X6_set_J100 at h
  refine z_iload_n C dX6_set_100 rfl 1 rfl 101 rfl ?_
  refine z_iconst C (-1) dX6_set_101 (by decide) 102 rfl ?_
  refine z_icmp_eq C 109 dX6_set_102 (by decide) 105 rfl h (fun h => ?_) (fun h => ?_)
  · refine z_iload_n C dX6_set_109 rfl 1 rfl 110 rfl ?_
    exact z_iretW (fun z => wX6 a0 a1 a2 a3 a4 a5 a6 a7 a8 a9 ++ wX4 T a1 S1 ++ wX1 T a2 z.1 ++ wX1 T a3 S3 ++ wX0 T a4 z.2.1 ++ wX5 T a5 z.2.2.1 ++ wX5 T a6 z.2.2.2.1 ++ wX5 T a7 z.2.2.2.2.1 ++ wX5 T a8 z.2.2.2.2.2 ++ wX3 T a9 S9) C hr dX6_set_110 h rfl
  · refine z_aload_n C dX6_set_105 rfl 0 rfl 106 rfl ?_
    refine z_callV C (wX6 a0 a1 a2 a3 a4 a5 a6 a7 a8 a9 ++ wX4 T a1 S1 ++ wX1 T a2 S2 ++ wX1 T a3 S3 ++ wX0 T a4 S4 ++ wX5 T a5 S5 ++ wX5 T a6 S6 ++ wX5 T a7 S7 ++ wX5 T a8 S8 ++ wX3 T a9 S9) (([] : va_W)) (fun z => wX6 a0 a1 a2 a3 a4 a5 a6 a7 a8 a9 ++ wX4 T a1 S1 ++ wX1 T a2 S2 ++ wX1 T a3 S3 ++ wX0 T a4 z.1 ++ wX5 T a5 z.2.1 ++ wX5 T a6 z.2.2.1 ++ wX5 T a7 z.2.2.2.1 ++ wX5 T a8 z.2.2.2.2 ++ wX3 T a9 S9) (fun z => wX6 a0 a1 a2 a3 a4 a5 a6 a7 a8 a9 ++ wX4 T a1 S1 ++ wX1 T a2 S2 ++ wX1 T a3 S3 ++ wX0 T a4 z.1 ++ wX5 T a5 z.2.1 ++ wX5 T a6 z.2.2.1 ++ wX5 T a7 z.2.2.2.1 ++ wX5 T a8 z.2.2.2.2 ++ wX3 T a9 S9) (fun z h => c_X6_forgetDrawings l D T a0 a1 a2 a3 a4 a5 a6 a7 a8 a9  S1 S2 S3 S4 S5 S6 S7 S8 S9  z h) ⟨rfl, rfl⟩ (z_cwV C 0 gX6_set_X6_forgetDrawings rfl rfl dd_X6_forgetDrawings ⟨(Nat.le_of_ble_eq_true rfl), (Nat.le_of_ble_eq_true rfl)⟩) (hD.zaddr rfl) [0, 1, 2, 3, 4, 5, 6, 7, 8, 9, 10, 11, 12, 13, 14, 15, 16, 17, 18, 19, 20, 21, 22, 23, 24, 25, 26, 27, 28, 29, 30, 31, 32, 33] [] [0, 1, 2, 3, 4, 5, 6, 7, 8, 9, 10, 11, 12, 13, 14, 15, 16, 17, 18, 19, 20, 21, 22, 23, 24, 25, 26, 27, 28, 29, 30, 31, 32, 33] rfl rfl rfl (by decide) (fun _ => rfl) (fun _ => ⟨a0 99, [], 5, 0, _, _, rfl, rfl, rfl, rfl, rfl⟩) (fun h => absurd rfl h) rfl (Nat.le_of_ble_eq_true rfl) dX6_set_106 109 rfl h (fun r_1 h => ?_)
    refine z_iload_n C dX6_set_109 rfl 1 rfl 110 rfl ?_
    exact z_iretW (fun z => wX6 a0 a1 a2 a3 a4 a5 a6 a7 a8 a9 ++ wX4 T a1 S1 ++ wX1 T a2 z.1 ++ wX1 T a3 S3 ++ wX0 T a4 z.2.1 ++ wX5 T a5 z.2.2.1 ++ wX5 T a6 z.2.2.2.1 ++ wX5 T a7 z.2.2.2.2.1 ++ wX5 T a8 z.2.2.2.2.2 ++ wX3 T a9 S9) C hr dX6_set_110 h rfl

def f_X6_set_J69 (S1 : Nat → Nat → Int32) (S2 : Nat → Nat → Int32) (S3 : Nat → Nat → Int32) (S4 : Nat → Nat → Int32) (S5 : Nat → Nat → Int32) (S6 : Nat → Nat → Int32) (S7 : Nat → Nat → Int32) (S8 : Nat → Nat → Int32) (S9 : Nat → Nat → Int32) (x1 : Int32) (x2 : Int32) (x3 : Int32)  : Option (Int32 × (Nat → Nat → Int32) × (Nat → Nat → Int32) × (Nat → Nat → Int32) × (Nat → Nat → Int32) × (Nat → Nat → Int32) × (Nat → Nat → Int32)) := if x1 = 2 then ((f_X6_isWithin x2 0 6).bind fun r_2 => if r_2 = 0 then (f_X6_set_J100 S1 S2 S3 S4 S5 S6 S7 S8 S9 x3) else (zlet (S2 4 0) fun u_3 => zlet (zst S2 4 0 x2) fun S2_4 => f_X6_set_J100 S1 S2_4 S3 S4 S5 S6 S7 S8 S9 u_3)) else (f_X6_set_J100 S1 S2 S3 S4 S5 S6 S7 S8 S9 x3)
set_option maxHeartbeats 4000000 in
set_option maxRecDepth 100000 in
theorem p_X6_set_J69 {w0 : va_W} (C : zC p R s m args meth c cX6_set 4 RX6 wsX6_set D T 1 22 0 0) (hr : meth.sig.returnType = some .int) (S1 : Nat → Nat → Int32) (S2 : Nat → Nat → Int32) (S3 : Nat → Nat → Int32) (S4 : Nat → Nat → Int32) (S5 : Nat → Nat → Int32) (S6 : Nat → Nat → Int32) (S7 : Nat → Nat → Int32) (S8 : Nat → Nat → Int32) (S9 : Nat → Nat → Int32) (x1 : Int32) (x2 : Int32) (x3 : Int32)  (hD : va_D (zA w0) (wX6 a0 a1 a2 a3 a4 a5 a6 a7 a8 a9 ++ wX4 T a1 S1 ++ wX1 T a2 S2 ++ wX1 T a3 S3 ++ wX0 T a4 S4 ++ wX5 T a5 S5 ++ wX5 T a6 S6 ++ wX5 T a7 S7 ++ wX5 T a8 S8 ++ wX3 T a9 S9)) {ex : Int32 × (Nat → Nat → Int32) × (Nat → Nat → Int32) × (Nat → Nat → Int32) × (Nat → Nat → Int32) × (Nat → Nat → Int32) × (Nat → Nat → Int32)} (h : f_X6_set_J69 S1 S2 S3 S4 S5 S6 S7 S8 S9 x1 x2 x3 = some ex) : zt p l e R s m args below meth c 4 (zA w0) D 0 0 (MQ below (zQJ D w0 ex.1 (wX6 a0 a1 a2 a3 a4 a5 a6 a7 a8 a9 ++ wX4 T a1 S1 ++ wX1 T a2 ex.2.1 ++ wX1 T a3 S3 ++ wX0 T a4 ex.2.2.1 ++ wX5 T a5 ex.2.2.2.1 ++ wX5 T a6 ex.2.2.2.2.1 ++ wX5 T a7 ex.2.2.2.2.2.1 ++ wX5 T a8 ex.2.2.2.2.2.2 ++ wX3 T a9 S9)) args s 0 0 (zA w0)) (wX6 a0 a1 a2 a3 a4 a5 a6 a7 a8 a9 ++ wX4 T a1 S1 ++ wX1 T a2 S2 ++ wX1 T a3 S3 ++ wX0 T a4 S4 ++ wX5 T a5 S5 ++ wX5 T a6 S6 ++ wX5 T a7 S7 ++ wX5 T a8 S8 ++ wX3 T a9 S9) [(0, .ref (a0 99)), (1, .int x1), (2, .int x2), (3, .int x3)] 69 [] := by
  unfold f_X6_set_J69 at h
  refine z_iload_n C dX6_set_69 rfl 1 rfl 70 rfl ?_
  refine z_iconst C 2 dX6_set_70 (by decide) 71 rfl ?_
  refine z_icmp_ne C 100 dX6_set_71 (by decide) 74 rfl h (fun h => ?_) (fun h => ?_)
  · exact z_locals (ks := [0, 3]) rfl (p_X6_set_J100 C hr S1 S2 S3 S4 S5 S6 S7 S8 S9 x3 (hD.zaddr rfl) h)
  · refine z_iload_n C dX6_set_74 rfl 2 rfl 75 rfl ?_
    refine z_iconst C 0 dX6_set_75 (by decide) 76 rfl ?_
    refine z_bipush C 6 dX6_set_76 (by decide) 78 rfl ?_
    refine z_callR C ([]) (fun v h => c_X6_isWithin l D T    x2 0 6 v h) ⟨rfl, rfl⟩ (z_cwS C 3 gX6_set_X6_isWithin rfl dd_X6_isWithin ⟨(Nat.le_of_ble_eq_true rfl), (Nat.le_of_ble_eq_true rfl)⟩) (hD.zaddr rfl) [] rfl rfl (fun h => absurd h (by decide)) (fun _ => rfl) rfl (Nat.le_of_ble_eq_true rfl) dX6_set_78 81 rfl h (fun r_2 h => ?_)
    refine z_if_eq C 100 dX6_set_81 (by decide) 84 rfl h (fun h => ?_) (fun h => ?_)
    · exact z_locals (ks := [0, 3]) rfl (p_X6_set_J100 C hr S1 S2 S3 S4 S5 S6 S7 S8 S9 x3 (hD.zaddr rfl) h)
    · refine z_aload_n C dX6_set_84 rfl 0 rfl 85 rfl ?_
      refine z_get C (in_X6_set_X6) 0 rfl rfl 1 (by decide) (List.mem_of_getElem? (i := 1) rfl) rfl rfl dX6_set_85 88 rfl ?_
      refine z_get C (in_X6_set_X1) 3 rfl rfl 4 (by decide) (List.mem_of_getElem? (i := 4) rfl) rfl rfl dX6_set_88 91 rfl ?_
      refine z_top h (fun u_3 h => ?_)
      refine z_istore_n C [(0, .ref (a0 99)), (1, .int x1), (2, .int x2), (3, .int u_3)] dX6_set_91 rfl (Nat.le_of_ble_eq_true rfl) [1, 2, 3, 0] rfl 92 rfl ?_
      refine z_aload_n C dX6_set_92 rfl 0 rfl 93 rfl ?_
      refine z_get C (in_X6_set_X6) 0 rfl rfl 1 (by decide) (List.mem_of_getElem? (i := 1) rfl) rfl rfl dX6_set_93 96 rfl ?_
      refine z_iload_n C dX6_set_96 rfl 2 rfl 97 rfl ?_
      refine z_put (ty := .int) C (fun z => wX6 a0 a1 a2 a3 a4 a5 a6 a7 a8 a9 ++ wX4 T a1 S1 ++ wX1 T a2 z ++ wX1 T a3 S3 ++ wX0 T a4 S4 ++ wX5 T a5 S5 ++ wX5 T a6 S6 ++ wX5 T a7 S7 ++ wX5 T a8 S8 ++ wX3 T a9 S9) S2 (hD.zaddr rfl) (in_X6_set_X1) tyX1 tyX1_ok nmX1 3 rfl rfl 4 (by decide) (List.mem_of_getElem? (i := 4) rfl) rfl rfl (by decide +kernel) rfl rfl (Nat.le_of_ble_eq_true rfl) rfl dX6_set_97 100 rfl h (fun S2_4 h => ?_)
      exact z_locals (ks := [0, 3]) rfl (p_X6_set_J100 C hr S1 S2_4 S3 S4 S5 S6 S7 S8 S9 u_3 (hD.zaddr rfl) h)

def f_X6_set_J35 (S1 : Nat → Nat → Int32) (S2 : Nat → Nat → Int32) (S3 : Nat → Nat → Int32) (S4 : Nat → Nat → Int32) (S5 : Nat → Nat → Int32) (S6 : Nat → Nat → Int32) (S7 : Nat → Nat → Int32) (S8 : Nat → Nat → Int32) (S9 : Nat → Nat → Int32) (x1 : Int32) (x2 : Int32) (x3 : Int32)  : Option (Int32 × (Nat → Nat → Int32) × (Nat → Nat → Int32) × (Nat → Nat → Int32) × (Nat → Nat → Int32) × (Nat → Nat → Int32) × (Nat → Nat → Int32)) := if x1 = 1 then ((f_X6_isWithin x2 0 40).bind fun r_5 => if r_5 = 0 then (f_X6_set_J69 S1 S2 S3 S4 S5 S6 S7 S8 S9 x1 x2 x3) else (zlet (S2 3 0) fun u_6 => zlet (zst S2 3 0 x2) fun S2_7 => f_X6_set_J100 S1 S2_7 S3 S4 S5 S6 S7 S8 S9 u_6)) else (f_X6_set_J69 S1 S2 S3 S4 S5 S6 S7 S8 S9 x1 x2 x3)
set_option maxHeartbeats 4000000 in
set_option maxRecDepth 100000 in
theorem p_X6_set_J35 {w0 : va_W} (C : zC p R s m args meth c cX6_set 4 RX6 wsX6_set D T 1 22 0 0) (hr : meth.sig.returnType = some .int) (S1 : Nat → Nat → Int32) (S2 : Nat → Nat → Int32) (S3 : Nat → Nat → Int32) (S4 : Nat → Nat → Int32) (S5 : Nat → Nat → Int32) (S6 : Nat → Nat → Int32) (S7 : Nat → Nat → Int32) (S8 : Nat → Nat → Int32) (S9 : Nat → Nat → Int32) (x1 : Int32) (x2 : Int32) (x3 : Int32)  (hD : va_D (zA w0) (wX6 a0 a1 a2 a3 a4 a5 a6 a7 a8 a9 ++ wX4 T a1 S1 ++ wX1 T a2 S2 ++ wX1 T a3 S3 ++ wX0 T a4 S4 ++ wX5 T a5 S5 ++ wX5 T a6 S6 ++ wX5 T a7 S7 ++ wX5 T a8 S8 ++ wX3 T a9 S9)) {ex : Int32 × (Nat → Nat → Int32) × (Nat → Nat → Int32) × (Nat → Nat → Int32) × (Nat → Nat → Int32) × (Nat → Nat → Int32) × (Nat → Nat → Int32)} (h : f_X6_set_J35 S1 S2 S3 S4 S5 S6 S7 S8 S9 x1 x2 x3 = some ex) : zt p l e R s m args below meth c 4 (zA w0) D 0 0 (MQ below (zQJ D w0 ex.1 (wX6 a0 a1 a2 a3 a4 a5 a6 a7 a8 a9 ++ wX4 T a1 S1 ++ wX1 T a2 ex.2.1 ++ wX1 T a3 S3 ++ wX0 T a4 ex.2.2.1 ++ wX5 T a5 ex.2.2.2.1 ++ wX5 T a6 ex.2.2.2.2.1 ++ wX5 T a7 ex.2.2.2.2.2.1 ++ wX5 T a8 ex.2.2.2.2.2.2 ++ wX3 T a9 S9)) args s 0 0 (zA w0)) (wX6 a0 a1 a2 a3 a4 a5 a6 a7 a8 a9 ++ wX4 T a1 S1 ++ wX1 T a2 S2 ++ wX1 T a3 S3 ++ wX0 T a4 S4 ++ wX5 T a5 S5 ++ wX5 T a6 S6 ++ wX5 T a7 S7 ++ wX5 T a8 S8 ++ wX3 T a9 S9) [(0, .ref (a0 99)), (1, .int x1), (2, .int x2), (3, .int x3)] 35 [] := by
  unfold f_X6_set_J35 at h
  refine z_iload_n C dX6_set_35 rfl 1 rfl 36 rfl ?_
  refine z_iconst C 1 dX6_set_36 (by decide) 37 rfl ?_
  refine z_icmp_ne C 69 dX6_set_37 (by decide) 40 rfl h (fun h => ?_) (fun h => ?_)
  · exact z_locals (ks := [0, 1, 2, 3]) rfl (p_X6_set_J69 C hr S1 S2 S3 S4 S5 S6 S7 S8 S9 x1 x2 x3 (hD.zaddr rfl) h)
  · refine z_iload_n C dX6_set_40 rfl 2 rfl 41 rfl ?_
    refine z_iconst C 0 dX6_set_41 (by decide) 42 rfl ?_
    refine z_bipush C 40 dX6_set_42 (by decide) 44 rfl ?_
    refine z_callR C ([]) (fun v h => c_X6_isWithin l D T    x2 0 40 v h) ⟨rfl, rfl⟩ (z_cwS C 3 gX6_set_X6_isWithin rfl dd_X6_isWithin ⟨(Nat.le_of_ble_eq_true rfl), (Nat.le_of_ble_eq_true rfl)⟩) (hD.zaddr rfl) [] rfl rfl (fun h => absurd h (by decide)) (fun _ => rfl) rfl (Nat.le_of_ble_eq_true rfl) dX6_set_44 47 rfl h (fun r_5 h => ?_)
    refine z_if_eq C 69 dX6_set_47 (by decide) 50 rfl h (fun h => ?_) (fun h => ?_)
    · exact z_locals (ks := [0, 1, 2, 3]) rfl (p_X6_set_J69 C hr S1 S2 S3 S4 S5 S6 S7 S8 S9 x1 x2 x3 (hD.zaddr rfl) h)
    · refine z_aload_n C dX6_set_50 rfl 0 rfl 51 rfl ?_
      refine z_get C (in_X6_set_X6) 0 rfl rfl 1 (by decide) (List.mem_of_getElem? (i := 1) rfl) rfl rfl dX6_set_51 54 rfl ?_
      refine z_get C (in_X6_set_X1) 3 rfl rfl 3 (by decide) (List.mem_of_getElem? (i := 3) rfl) rfl rfl dX6_set_54 57 rfl ?_
      refine z_top h (fun u_6 h => ?_)
      refine z_istore_n C [(0, .ref (a0 99)), (1, .int x1), (2, .int x2), (3, .int u_6)] dX6_set_57 rfl (Nat.le_of_ble_eq_true rfl) [1, 2, 3, 0] rfl 58 rfl ?_
      refine z_aload_n C dX6_set_58 rfl 0 rfl 59 rfl ?_
      refine z_get C (in_X6_set_X6) 0 rfl rfl 1 (by decide) (List.mem_of_getElem? (i := 1) rfl) rfl rfl dX6_set_59 62 rfl ?_
      refine z_iload_n C dX6_set_62 rfl 2 rfl 63 rfl ?_
      refine z_put (ty := .int) C (fun z => wX6 a0 a1 a2 a3 a4 a5 a6 a7 a8 a9 ++ wX4 T a1 S1 ++ wX1 T a2 z ++ wX1 T a3 S3 ++ wX0 T a4 S4 ++ wX5 T a5 S5 ++ wX5 T a6 S6 ++ wX5 T a7 S7 ++ wX5 T a8 S8 ++ wX3 T a9 S9) S2 (hD.zaddr rfl) (in_X6_set_X1) tyX1 tyX1_ok nmX1 3 rfl rfl 3 (by decide) (List.mem_of_getElem? (i := 3) rfl) rfl rfl (by decide +kernel) rfl rfl (Nat.le_of_ble_eq_true rfl) rfl dX6_set_63 66 rfl h (fun S2_7 h => ?_)
      refine z_goto C 100 dX6_set_66 (by decide) ?_
      exact z_locals (ks := [0, 3]) rfl (p_X6_set_J100 C hr S1 S2_7 S3 S4 S5 S6 S7 S8 S9 u_6 (hD.zaddr rfl) h)

def f_X6_set (S1 : Nat → Nat → Int32) (S2 : Nat → Nat → Int32) (S3 : Nat → Nat → Int32) (S4 : Nat → Nat → Int32) (S5 : Nat → Nat → Int32) (S6 : Nat → Nat → Int32) (S7 : Nat → Nat → Int32) (S8 : Nat → Nat → Int32) (S9 : Nat → Nat → Int32) (v1 : Int32) (v2 : Int32) : Option (Int32 × (Nat → Nat → Int32) × (Nat → Nat → Int32) × (Nat → Nat → Int32) × (Nat → Nat → Int32) × (Nat → Nat → Int32) × (Nat → Nat → Int32)) := if v1 = 0 then ((f_X6_isWithin v2 1 99).bind fun r_8 => if r_8 = 0 then (f_X6_set_J35 S1 S2 S3 S4 S5 S6 S7 S8 S9 v1 v2 (-1)) else (zlet (S2 2 0) fun u_9 => zlet (zst S2 2 0 v2) fun S2_10 => f_X6_set_J100 S1 S2_10 S3 S4 S5 S6 S7 S8 S9 u_9)) else (f_X6_set_J35 S1 S2 S3 S4 S5 S6 S7 S8 S9 v1 v2 (-1))
theorem dd_X6_set : RX6 ≠ "java/lang/invoke/MethodHandle" ∧ RX6 ≠ "java/lang/invoke/VarHandle" ∧ (parseMethodDescriptor yX6_set.desc).map (fun d => d.parameters.length) = some 2 := by decide +kernel
set_option maxHeartbeats 4000000 in
set_option maxRecDepth 100000 in
theorem c_X6_set (l : Launch) (D : va_G) (T : Nat → ClassId) (a0 : Nat → Nat) (a1 : Nat → Nat) (a2 : Nat → Nat) (a3 : Nat → Nat) (a4 : Nat → Nat) (a5 : Nat → Nat) (a6 : Nat → Nat) (a7 : Nat → Nat) (a8 : Nat → Nat) (a9 : Nat → Nat) (S1 : Nat → Nat → Int32) (S2 : Nat → Nat → Int32) (S3 : Nat → Nat → Int32) (S4 : Nat → Nat → Int32) (S5 : Nat → Nat → Int32) (S6 : Nat → Nat → Int32) (S7 : Nat → Nat → Int32) (S8 : Nat → Nat → Int32) (S9 : Nat → Nat → Int32) (v1 : Int32) (v2 : Int32) (ex : Int32 × (Nat → Nat → Int32) × (Nat → Nat → Int32) × (Nat → Nat → Int32) × (Nat → Nat → Int32) × (Nat → Nat → Int32) × (Nat → Nat → Int32)) (h : f_X6_set S1 S2 S3 S4 S5 S6 S7 S8 S9 v1 v2 = some ex) : zWI l yX6_set wsX6_set ({ frames := 1, cells := 0, slots := 0, locals := 22 } : Room) D T [.ref (a0 99), .int v1, .int v2] (wX6 a0 a1 a2 a3 a4 a5 a6 a7 a8 a9 ++ wX4 T a1 S1 ++ wX1 T a2 S2 ++ wX1 T a3 S3 ++ wX0 T a4 S4 ++ wX5 T a5 S5 ++ wX5 T a6 S6 ++ wX5 T a7 S7 ++ wX5 T a8 S8 ++ wX3 T a9 S9) ex.1 (wX6 a0 a1 a2 a3 a4 a5 a6 a7 a8 a9 ++ wX4 T a1 S1 ++ wX1 T a2 ex.2.1 ++ wX1 T a3 S3 ++ wX0 T a4 ex.2.2.1 ++ wX5 T a5 ex.2.2.2.1 ++ wX5 T a6 ex.2.2.2.2.1 ++ wX5 T a7 ex.2.2.2.2.2.1 ++ wX5 T a8 ex.2.2.2.2.2.2 ++ wX3 T a9 S9) := by
  refine z_begin (cc := cX6_set) (nL := 4) (own := RX6) (fr := 1) (lc := 22) (ret := some .int) (by decide) rfl (Nat.le_of_ble_eq_true rfl) (zA (wX6 a0 a1 a2 a3 a4 a5 a6 a7 a8 a9 ++ wX4 T a1 S1 ++ wX1 T a2 S2 ++ wX1 T a3 S3 ++ wX0 T a4 S4 ++ wX5 T a5 S5 ++ wX5 T a6 S6 ++ wX5 T a7 S7 ++ wX5 T a8 S8 ++ wX3 T a9 S9)) rfl [(0, .ref (a0 99)), (1, .int v1), (2, .int v2)] rfl ⟨rfl, rfl⟩ rfl ?_
  intro p e s m args below meth c C hr hD
  have hD := hD.zself
  unfold f_X6_set at h
  refine z_iconst C (-1) dX6_set_0 (by decide) 1 rfl ?_
  refine z_istore_n C [(0, .ref (a0 99)), (1, .int v1), (2, .int v2), (3, .int (-1))] dX6_set_1 rfl (Nat.le_of_ble_eq_true rfl) [1, 2, 3, 0] rfl 2 rfl ?_
  refine z_iload_n C dX6_set_2 rfl 1 rfl 3 rfl ?_
  refine z_if_ne C 35 dX6_set_3 (by decide) 6 rfl h (fun h => ?_) (fun h => ?_)
  · exact z_locals (ks := [0, 1, 2, 3]) rfl (p_X6_set_J35 C hr S1 S2 S3 S4 S5 S6 S7 S8 S9 v1 v2 (-1) (hD.zaddr rfl) h)
  · refine z_iload_n C dX6_set_6 rfl 2 rfl 7 rfl ?_
    refine z_iconst C 1 dX6_set_7 (by decide) 8 rfl ?_
    refine z_bipush C 99 dX6_set_8 (by decide) 10 rfl ?_
    refine z_callR C ([]) (fun v h => c_X6_isWithin l D T    v2 1 99 v h) ⟨rfl, rfl⟩ (z_cwS C 3 gX6_set_X6_isWithin rfl dd_X6_isWithin ⟨(Nat.le_of_ble_eq_true rfl), (Nat.le_of_ble_eq_true rfl)⟩) (hD.zaddr rfl) [] rfl rfl (fun h => absurd h (by decide)) (fun _ => rfl) rfl (Nat.le_of_ble_eq_true rfl) dX6_set_10 13 rfl h (fun r_8 h => ?_)
    refine z_if_eq C 35 dX6_set_13 (by decide) 16 rfl h (fun h => ?_) (fun h => ?_)
    · exact z_locals (ks := [0, 1, 2, 3]) rfl (p_X6_set_J35 C hr S1 S2 S3 S4 S5 S6 S7 S8 S9 v1 v2 (-1) (hD.zaddr rfl) h)
    · refine z_aload_n C dX6_set_16 rfl 0 rfl 17 rfl ?_
      refine z_get C (in_X6_set_X6) 0 rfl rfl 1 (by decide) (List.mem_of_getElem? (i := 1) rfl) rfl rfl dX6_set_17 20 rfl ?_
      refine z_get C (in_X6_set_X1) 3 rfl rfl 2 (by decide) (List.mem_of_getElem? (i := 2) rfl) rfl rfl dX6_set_20 23 rfl ?_
      refine z_top h (fun u_9 h => ?_)
      refine z_istore_n C [(0, .ref (a0 99)), (1, .int v1), (2, .int v2), (3, .int u_9)] dX6_set_23 rfl (Nat.le_of_ble_eq_true rfl) [1, 2, 3, 0] rfl 24 rfl ?_
      refine z_aload_n C dX6_set_24 rfl 0 rfl 25 rfl ?_
      refine z_get C (in_X6_set_X6) 0 rfl rfl 1 (by decide) (List.mem_of_getElem? (i := 1) rfl) rfl rfl dX6_set_25 28 rfl ?_
      refine z_iload_n C dX6_set_28 rfl 2 rfl 29 rfl ?_
      refine z_put (ty := .int) C (fun z => wX6 a0 a1 a2 a3 a4 a5 a6 a7 a8 a9 ++ wX4 T a1 S1 ++ wX1 T a2 z ++ wX1 T a3 S3 ++ wX0 T a4 S4 ++ wX5 T a5 S5 ++ wX5 T a6 S6 ++ wX5 T a7 S7 ++ wX5 T a8 S8 ++ wX3 T a9 S9) S2 (hD.zaddr rfl) (in_X6_set_X1) tyX1 tyX1_ok nmX1 3 rfl rfl 2 (by decide) (List.mem_of_getElem? (i := 2) rfl) rfl rfl (by decide +kernel) rfl rfl (Nat.le_of_ble_eq_true rfl) rfl dX6_set_29 32 rfl h (fun S2_10 h => ?_)
      refine z_goto C 100 dX6_set_32 (by decide) ?_
      exact z_locals (ks := [0, 3]) rfl (p_X6_set_J100 C hr S1 S2_10 S3 S4 S5 S6 S7 S8 S9 u_9 (hD.zaddr rfl) h)

end
/-! StreamTree.ink (I)I -/
section
variable {p : Program} {l : Launch} {e : Env} {R : Room} {s : State} {m : MethodId} {args : Array Value} {below : List Frame} {meth : Method} {c : Code} {Q : State → Prop} {A : Nat → Prop} {D : va_G} {T : Nat → ClassId} {a0 : Nat → Nat} {a1 : Nat → Nat} {a2 : Nat → Nat} {a3 : Nat → Nat} {a4 : Nat → Nat} {a5 : Nat → Nat} {a6 : Nat → Nat} {a7 : Nat → Nat} {a8 : Nat → Nat} {a9 : Nat → Nat}
theorem in_X6_ink_X5 : ∀ w ∈ u_ws RX5 TX5 5, w ∈ wsX6_ink := fun _ h => (List.mem_cons_of_mem _ (List.mem_append_left _ (List.mem_append_left _ (List.mem_append_left _ (List.mem_append_right _ h)))))
def f_X6_ink (S1 : Nat → Nat → Int32) (S2 : Nat → Nat → Int32) (S3 : Nat → Nat → Int32) (S4 : Nat → Nat → Int32) (S5 : Nat → Nat → Int32) (S6 : Nat → Nat → Int32) (S7 : Nat → Nat → Int32) (S8 : Nat → Nat → Int32) (S9 : Nat → Nat → Int32) (v1 : Int32) : Option (Int32 × (Nat → Nat → Int32) × (Nat → Nat → Int32) × (Nat → Nat → Int32) × (Nat → Nat → Int32) × (Nat → Nat → Int32)) := if v1 = 0 then ((f_X6_inkOfAllAlone S1 S2 S3 S4 S5 S6 S7 S8 S9).bind fun r_3 => some (r_3.1, r_3.2, S5, S6, S7, S8)) else ((f_X6_isTreeManner v1).bind fun r_1 => if r_1 = 0 then (some ((-1), S4, S5, S6, S7, S8)) else ((f_X6_treeOf S1 S2 S3 S4 S5 S6 S7 S8 S9 v1).bind fun r_2 => if r_2.1 = 5 then (if (r_2.2.2.1 1 0) = 0 then (some ((-2), r_2.2.1, r_2.2.2.1, r_2.2.2.2.1, r_2.2.2.2.2.1, r_2.2.2.2.2.2)) else (some ((r_2.2.2.1 2 0), r_2.2.1, r_2.2.2.1, r_2.2.2.2.1, r_2.2.2.2.2.1, r_2.2.2.2.2.2))) else (if r_2.1 = 6 then (if (r_2.2.2.2.1 1 0) = 0 then (some ((-2), r_2.2.1, r_2.2.2.1, r_2.2.2.2.1, r_2.2.2.2.2.1, r_2.2.2.2.2.2)) else (some ((r_2.2.2.2.1 2 0), r_2.2.1, r_2.2.2.1, r_2.2.2.2.1, r_2.2.2.2.2.1, r_2.2.2.2.2.2))) else (if (r_2.2.2.2.2.2 1 0) = 0 then (some ((-2), r_2.2.1, r_2.2.2.1, r_2.2.2.2.1, r_2.2.2.2.2.1, r_2.2.2.2.2.2)) else (some ((r_2.2.2.2.2.2 2 0), r_2.2.1, r_2.2.2.1, r_2.2.2.2.1, r_2.2.2.2.2.1, r_2.2.2.2.2.2))))))
theorem dd_X6_ink : RX6 ≠ "java/lang/invoke/MethodHandle" ∧ RX6 ≠ "java/lang/invoke/VarHandle" ∧ (parseMethodDescriptor yX6_ink.desc).map (fun d => d.parameters.length) = some 1 := by decide +kernel
set_option maxHeartbeats 4000000 in
set_option maxRecDepth 100000 in
theorem c_X6_ink (l : Launch) (D : va_G) (T : Nat → ClassId) (a0 : Nat → Nat) (a1 : Nat → Nat) (a2 : Nat → Nat) (a3 : Nat → Nat) (a4 : Nat → Nat) (a5 : Nat → Nat) (a6 : Nat → Nat) (a7 : Nat → Nat) (a8 : Nat → Nat) (a9 : Nat → Nat) (S1 : Nat → Nat → Int32) (S2 : Nat → Nat → Int32) (S3 : Nat → Nat → Int32) (S4 : Nat → Nat → Int32) (S5 : Nat → Nat → Int32) (S6 : Nat → Nat → Int32) (S7 : Nat → Nat → Int32) (S8 : Nat → Nat → Int32) (S9 : Nat → Nat → Int32) (v1 : Int32) (ex : Int32 × (Nat → Nat → Int32) × (Nat → Nat → Int32) × (Nat → Nat → Int32) × (Nat → Nat → Int32) × (Nat → Nat → Int32)) (h : f_X6_ink S1 S2 S3 S4 S5 S6 S7 S8 S9 v1 = some ex) : zWI l yX6_ink wsX6_ink ({ frames := 7, cells := 0, slots := 0, locals := 171 } : Room) D T [.ref (a0 99), .int v1] (wX6 a0 a1 a2 a3 a4 a5 a6 a7 a8 a9 ++ wX4 T a1 S1 ++ wX1 T a2 S2 ++ wX1 T a3 S3 ++ wX0 T a4 S4 ++ wX5 T a5 S5 ++ wX5 T a6 S6 ++ wX5 T a7 S7 ++ wX5 T a8 S8 ++ wX3 T a9 S9) ex.1 (wX6 a0 a1 a2 a3 a4 a5 a6 a7 a8 a9 ++ wX4 T a1 S1 ++ wX1 T a2 S2 ++ wX1 T a3 S3 ++ wX0 T a4 ex.2.1 ++ wX5 T a5 ex.2.2.1 ++ wX5 T a6 ex.2.2.2.1 ++ wX5 T a7 ex.2.2.2.2.1 ++ wX5 T a8 ex.2.2.2.2.2 ++ wX3 T a9 S9) := by
  refine z_begin (cc := cX6_ink) (nL := 3) (own := RX6) (fr := 7) (lc := 171) (ret := some .int) (by decide) rfl (Nat.le_of_ble_eq_true rfl) (zA (wX6 a0 a1 a2 a3 a4 a5 a6 a7 a8 a9 ++ wX4 T a1 S1 ++ wX1 T a2 S2 ++ wX1 T a3 S3 ++ wX0 T a4 S4 ++ wX5 T a5 S5 ++ wX5 T a6 S6 ++ wX5 T a7 S7 ++ wX5 T a8 S8 ++ wX3 T a9 S9)) rfl [(0, .ref (a0 99)), (1, .int v1)] rfl ⟨rfl, rfl⟩ rfl ?_
  intro p e s m args below meth c C hr hD
  have hD := hD.zself
  unfold f_X6_ink at h
  refine z_iload_n C dX6_ink_0 rfl 1 rfl 1 rfl ?_
  refine z_if_ne C 9 dX6_ink_1 (by decide) 4 rfl h (fun h => ?_) (fun h => ?_)
  · refine z_iload_n C dX6_ink_9 rfl 1 rfl 10 rfl ?_
    refine z_callR C ([]) (fun v h => c_X6_isTreeManner l D T    v1 v h) ⟨rfl, rfl⟩ (z_cwS C 1 gX6_ink_X6_isTreeManner rfl dd_X6_isTreeManner ⟨(Nat.le_of_ble_eq_true rfl), (Nat.le_of_ble_eq_true rfl)⟩) (hD.zaddr rfl) [] rfl rfl (fun h => absurd h (by decide)) (fun _ => rfl) rfl (Nat.le_of_ble_eq_true rfl) dX6_ink_10 13 rfl h (fun r_1 h => ?_)
    refine z_if_ne C 18 dX6_ink_13 (by decide) 16 rfl h (fun h => ?_) (fun h => ?_)
    · refine z_aload_n C dX6_ink_18 rfl 0 rfl 19 rfl ?_
      refine z_iload_n C dX6_ink_19 rfl 1 rfl 20 rfl ?_
      refine z_callA C (wX6 a0 a1 a2 a3 a4 a5 a6 a7 a8 a9 ++ wX4 T a1 S1 ++ wX1 T a2 S2 ++ wX1 T a3 S3 ++ wX0 T a4 S4 ++ wX5 T a5 S5 ++ wX5 T a6 S6 ++ wX5 T a7 S7 ++ wX5 T a8 S8 ++ wX3 T a9 S9) (([] : va_W)) (fun z => if z.1 = 5 then a5 99 else if z.1 = 6 then a6 99 else a8 99) (fun z => wX6 a0 a1 a2 a3 a4 a5 a6 a7 a8 a9 ++ wX4 T a1 S1 ++ wX1 T a2 S2 ++ wX1 T a3 S3 ++ wX0 T a4 z.2.1 ++ wX5 T a5 z.2.2.1 ++ wX5 T a6 z.2.2.2.1 ++ wX5 T a7 z.2.2.2.2.1 ++ wX5 T a8 z.2.2.2.2.2 ++ wX3 T a9 S9) (fun z => wX6 a0 a1 a2 a3 a4 a5 a6 a7 a8 a9 ++ wX4 T a1 S1 ++ wX1 T a2 S2 ++ wX1 T a3 S3 ++ wX0 T a4 z.2.1 ++ wX5 T a5 z.2.2.1 ++ wX5 T a6 z.2.2.2.1 ++ wX5 T a7 z.2.2.2.2.1 ++ wX5 T a8 z.2.2.2.2.2 ++ wX3 T a9 S9) (fun z h => c_X6_treeOf l D T a0 a1 a2 a3 a4 a5 a6 a7 a8 a9  S1 S2 S3 S4 S5 S6 S7 S8 S9 v1 z h) ⟨rfl, rfl⟩ (z_cwV C 1 gX6_ink_X6_treeOf rfl rfl dd_X6_treeOf ⟨(Nat.le_of_ble_eq_true rfl), (Nat.le_of_ble_eq_true rfl)⟩) (hD.zaddr rfl) [0, 1, 2, 3, 4, 5, 6, 7, 8, 9, 10, 11, 12, 13, 14, 15, 16, 17, 18, 19, 20, 21, 22, 23, 24, 25, 26, 27, 28, 29, 30, 31, 32, 33] [] [0, 1, 2, 3, 4, 5, 6, 7, 8, 9, 10, 11, 12, 13, 14, 15, 16, 17, 18, 19, 20, 21, 22, 23, 24, 25, 26, 27, 28, 29, 30, 31, 32, 33] rfl rfl rfl (by decide) (fun _ => rfl) (fun _ => ⟨a0 99, [.int v1], 5, 0, _, _, rfl, rfl, rfl, rfl, rfl⟩) (fun h => absurd rfl h) rfl (Nat.le_of_ble_eq_true rfl) dX6_ink_20 23 rfl h (fun r_2 h => ?_)
      refine z_tag (t := r_2.1) 5 (fun t => if t = 5 then a5 99 else if t = 6 then a6 99 else a8 99) rfl h (fun h => ?_) (fun hx_0 h => ?_)
      · refine z_astore_n C [(0, .ref (a0 99)), (1, .int v1), (2, .ref (a5 99))] dX6_ink_23 rfl (Nat.le_of_ble_eq_true rfl) [1, 2, 0] rfl 24 rfl ?_
        refine z_aload_n C dX6_ink_24 rfl 2 rfl 25 rfl ?_
        refine z_get C (in_X6_ink_X5) 20 rfl rfl 1 (by decide) (List.mem_of_getElem? (i := 1) rfl) rfl rfl dX6_ink_25 28 rfl ?_
        refine z_if_eq C 38 dX6_ink_28 (by decide) 31 rfl h (fun h => ?_) (fun h => ?_)
        · refine z_bipush C (-2) dX6_ink_38 (by decide) 40 rfl ?_
          exact z_iretW (fun z => wX6 a0 a1 a2 a3 a4 a5 a6 a7 a8 a9 ++ wX4 T a1 S1 ++ wX1 T a2 S2 ++ wX1 T a3 S3 ++ wX0 T a4 z.1 ++ wX5 T a5 z.2.1 ++ wX5 T a6 z.2.2.1 ++ wX5 T a7 z.2.2.2.1 ++ wX5 T a8 z.2.2.2.2 ++ wX3 T a9 S9) C hr dX6_ink_40 h rfl
        · refine z_aload_n C dX6_ink_31 rfl 2 rfl 32 rfl ?_
          refine z_get C (in_X6_ink_X5) 20 rfl rfl 2 (by decide) (List.mem_of_getElem? (i := 2) rfl) rfl rfl dX6_ink_32 35 rfl ?_
          refine z_goto C 40 dX6_ink_35 (by decide) ?_
          exact z_iretW (fun z => wX6 a0 a1 a2 a3 a4 a5 a6 a7 a8 a9 ++ wX4 T a1 S1 ++ wX1 T a2 S2 ++ wX1 T a3 S3 ++ wX0 T a4 z.1 ++ wX5 T a5 z.2.1 ++ wX5 T a6 z.2.2.1 ++ wX5 T a7 z.2.2.2.1 ++ wX5 T a8 z.2.2.2.2 ++ wX3 T a9 S9) C hr dX6_ink_40 h rfl
      · refine z_tag (t := r_2.1) 6 (fun t => if t = 5 then a5 99 else if t = 6 then a6 99 else a8 99) rfl h (fun h => ?_) (fun hx_1 h => ?_)
        · refine z_astore_n C [(0, .ref (a0 99)), (1, .int v1), (2, .ref (a6 99))] dX6_ink_23 rfl (Nat.le_of_ble_eq_true rfl) [1, 2, 0] rfl 24 rfl ?_
          refine z_aload_n C dX6_ink_24 rfl 2 rfl 25 rfl ?_
          refine z_get C (in_X6_ink_X5) 23 rfl rfl 1 (by decide) (List.mem_of_getElem? (i := 1) rfl) rfl rfl dX6_ink_25 28 rfl ?_
          refine z_if_eq C 38 dX6_ink_28 (by decide) 31 rfl h (fun h => ?_) (fun h => ?_)
          · refine z_bipush C (-2) dX6_ink_38 (by decide) 40 rfl ?_
            exact z_iretW (fun z => wX6 a0 a1 a2 a3 a4 a5 a6 a7 a8 a9 ++ wX4 T a1 S1 ++ wX1 T a2 S2 ++ wX1 T a3 S3 ++ wX0 T a4 z.1 ++ wX5 T a5 z.2.1 ++ wX5 T a6 z.2.2.1 ++ wX5 T a7 z.2.2.2.1 ++ wX5 T a8 z.2.2.2.2 ++ wX3 T a9 S9) C hr dX6_ink_40 h rfl
          · refine z_aload_n C dX6_ink_31 rfl 2 rfl 32 rfl ?_
            refine z_get C (in_X6_ink_X5) 23 rfl rfl 2 (by decide) (List.mem_of_getElem? (i := 2) rfl) rfl rfl dX6_ink_32 35 rfl ?_
            refine z_goto C 40 dX6_ink_35 (by decide) ?_
            exact z_iretW (fun z => wX6 a0 a1 a2 a3 a4 a5 a6 a7 a8 a9 ++ wX4 T a1 S1 ++ wX1 T a2 S2 ++ wX1 T a3 S3 ++ wX0 T a4 z.1 ++ wX5 T a5 z.2.1 ++ wX5 T a6 z.2.2.1 ++ wX5 T a7 z.2.2.2.1 ++ wX5 T a8 z.2.2.2.2 ++ wX3 T a9 S9) C hr dX6_ink_40 h rfl
        · refine z_ref (b := a8 99) (by show (if _ = _ then _ else _) = _; rw [if_neg hx_0, if_neg hx_1]) ?_
          refine z_astore_n C [(0, .ref (a0 99)), (1, .int v1), (2, .ref (a8 99))] dX6_ink_23 rfl (Nat.le_of_ble_eq_true rfl) [1, 2, 0] rfl 24 rfl ?_
          refine z_aload_n C dX6_ink_24 rfl 2 rfl 25 rfl ?_
          refine z_get C (in_X6_ink_X5) 29 rfl rfl 1 (by decide) (List.mem_of_getElem? (i := 1) rfl) rfl rfl dX6_ink_25 28 rfl ?_
          refine z_if_eq C 38 dX6_ink_28 (by decide) 31 rfl h (fun h => ?_) (fun h => ?_)
          · refine z_bipush C (-2) dX6_ink_38 (by decide) 40 rfl ?_
            exact z_iretW (fun z => wX6 a0 a1 a2 a3 a4 a5 a6 a7 a8 a9 ++ wX4 T a1 S1 ++ wX1 T a2 S2 ++ wX1 T a3 S3 ++ wX0 T a4 z.1 ++ wX5 T a5 z.2.1 ++ wX5 T a6 z.2.2.1 ++ wX5 T a7 z.2.2.2.1 ++ wX5 T a8 z.2.2.2.2 ++ wX3 T a9 S9) C hr dX6_ink_40 h rfl
          · refine z_aload_n C dX6_ink_31 rfl 2 rfl 32 rfl ?_
            refine z_get C (in_X6_ink_X5) 29 rfl rfl 2 (by decide) (List.mem_of_getElem? (i := 2) rfl) rfl rfl dX6_ink_32 35 rfl ?_
            refine z_goto C 40 dX6_ink_35 (by decide) ?_
            exact z_iretW (fun z => wX6 a0 a1 a2 a3 a4 a5 a6 a7 a8 a9 ++ wX4 T a1 S1 ++ wX1 T a2 S2 ++ wX1 T a3 S3 ++ wX0 T a4 z.1 ++ wX5 T a5 z.2.1 ++ wX5 T a6 z.2.2.1 ++ wX5 T a7 z.2.2.2.1 ++ wX5 T a8 z.2.2.2.2 ++ wX3 T a9 S9) C hr dX6_ink_40 h rfl
    · refine z_iconst C (-1) dX6_ink_16 (by decide) 17 rfl ?_
      exact z_iretW (fun z => wX6 a0 a1 a2 a3 a4 a5 a6 a7 a8 a9 ++ wX4 T a1 S1 ++ wX1 T a2 S2 ++ wX1 T a3 S3 ++ wX0 T a4 z.1 ++ wX5 T a5 z.2.1 ++ wX5 T a6 z.2.2.1 ++ wX5 T a7 z.2.2.2.1 ++ wX5 T a8 z.2.2.2.2 ++ wX3 T a9 S9) C hr dX6_ink_17 h rfl
  · refine z_aload_n C dX6_ink_4 rfl 0 rfl 5 rfl ?_
    refine z_callW C (wX6 a0 a1 a2 a3 a4 a5 a6 a7 a8 a9 ++ wX4 T a1 S1 ++ wX1 T a2 S2 ++ wX1 T a3 S3 ++ wX0 T a4 S4 ++ wX5 T a5 S5 ++ wX5 T a6 S6 ++ wX5 T a7 S7 ++ wX5 T a8 S8 ++ wX3 T a9 S9) (([] : va_W)) (fun z => z.1) (fun z => wX6 a0 a1 a2 a3 a4 a5 a6 a7 a8 a9 ++ wX4 T a1 S1 ++ wX1 T a2 S2 ++ wX1 T a3 S3 ++ wX0 T a4 z.2 ++ wX5 T a5 S5 ++ wX5 T a6 S6 ++ wX5 T a7 S7 ++ wX5 T a8 S8 ++ wX3 T a9 S9) (fun z => wX6 a0 a1 a2 a3 a4 a5 a6 a7 a8 a9 ++ wX4 T a1 S1 ++ wX1 T a2 S2 ++ wX1 T a3 S3 ++ wX0 T a4 z.2 ++ wX5 T a5 S5 ++ wX5 T a6 S6 ++ wX5 T a7 S7 ++ wX5 T a8 S8 ++ wX3 T a9 S9) (fun z h => c_X6_inkOfAllAlone l D T a0 a1 a2 a3 a4 a5 a6 a7 a8 a9  S1 S2 S3 S4 S5 S6 S7 S8 S9  z h) ⟨rfl, rfl⟩ (z_cwV C 0 gX6_ink_X6_inkOfAllAlone rfl rfl dd_X6_inkOfAllAlone ⟨(Nat.le_of_ble_eq_true rfl), (Nat.le_of_ble_eq_true rfl)⟩) (hD.zaddr rfl) [0, 1, 2, 3, 4, 5, 6, 7, 8, 9, 10, 11, 12, 13, 14, 15, 16, 17, 18, 19, 20, 21, 22, 23, 24, 25, 26, 27, 28, 29, 30, 31, 32, 33] [] [0, 1, 2, 3, 4, 5, 6, 7, 8, 9, 10, 11, 12, 13, 14, 15, 16, 17, 18, 19, 20, 21, 22, 23, 24, 25, 26, 27, 28, 29, 30, 31, 32, 33] rfl rfl rfl (by decide) (fun _ => rfl) (fun _ => ⟨a0 99, [], 5, 0, _, _, rfl, rfl, rfl, rfl, rfl⟩) (fun h => absurd rfl h) rfl (Nat.le_of_ble_eq_true rfl) dX6_ink_5 8 rfl h (fun r_3 h => ?_)
    exact z_iretW (fun z => wX6 a0 a1 a2 a3 a4 a5 a6 a7 a8 a9 ++ wX4 T a1 S1 ++ wX1 T a2 S2 ++ wX1 T a3 S3 ++ wX0 T a4 z.1 ++ wX5 T a5 z.2.1 ++ wX5 T a6 z.2.2.1 ++ wX5 T a7 z.2.2.2.1 ++ wX5 T a8 z.2.2.2.2 ++ wX3 T a9 S9) C hr dX6_ink_8 h rfl

end
/-! StreamTree.width (III)I -/
section
variable {p : Program} {l : Launch} {e : Env} {R : Room} {s : State} {m : MethodId} {args : Array Value} {below : List Frame} {meth : Method} {c : Code} {Q : State → Prop} {A : Nat → Prop} {D : va_G} {T : Nat → ClassId} {a0 : Nat → Nat} {a1 : Nat → Nat} {a2 : Nat → Nat} {a3 : Nat → Nat} {a4 : Nat → Nat} {a5 : Nat → Nat} {a6 : Nat → Nat} {a7 : Nat → Nat} {a8 : Nat → Nat} {a9 : Nat → Nat}
theorem in_X6_width_X5 : ∀ w ∈ u_ws RX5 TX5 5, w ∈ wsX6_width := fun _ h => (List.mem_cons_of_mem _ (List.mem_append_left _ (List.mem_append_left _ (List.mem_append_right _ h))))
theorem in_X6_width_X6 : ∀ w ∈ u_ws RX6 TX6 9, w ∈ wsX6_width := fun _ h => (List.mem_cons_of_mem _ (List.mem_append_left _ (List.mem_append_left _ (List.mem_append_left _ (List.mem_append_right _ h)))))
def f_X6_width (S1 : Nat → Nat → Int32) (S2 : Nat → Nat → Int32) (S3 : Nat → Nat → Int32) (S4 : Nat → Nat → Int32) (S5 : Nat → Nat → Int32) (S6 : Nat → Nat → Int32) (S7 : Nat → Nat → Int32) (S8 : Nat → Nat → Int32) (S9 : Nat → Nat → Int32) (v1 : Int32) (v2 : Int32) (v3 : Int32) : Option (Int32 × (Nat → Nat → Int32) × (Nat → Nat → Int32) × (Nat → Nat → Int32) × (Nat → Nat → Int32) × (Nat → Nat → Int32)) := (f_X6_isTreeManner v1).bind fun r_1 => if r_1 = 0 then (some ((-1), S4, S5, S6, S7, S8)) else ((f_X1_hasCellOrSource S2 v2 v3).bind fun r_2 => if r_2 = 0 then (some ((-1), S4, S5, S6, S7, S8)) else ((f_X6_treeOf S1 S2 S3 S4 S5 S6 S7 S8 S9 v1).bind fun r_3 => if r_3.1 = 5 then (if (r_3.2.2.1 1 0) = 0 then (some ((-2), r_3.2.1, r_3.2.2.1, r_3.2.2.2.1, r_3.2.2.2.2.1, r_3.2.2.2.2.2)) else ((f_X6_cellOf v2 v3).bind fun r_4 => zix r_4 240 fun _ => (f_X1_amountOf S2 (r_3.2.2.1 3 (Int32.toNatClampNeg r_4))).bind fun r_5 => some (r_5, r_3.2.1, r_3.2.2.1, r_3.2.2.2.1, r_3.2.2.2.2.1, r_3.2.2.2.2.2))) else (if r_3.1 = 6 then (if (r_3.2.2.2.1 1 0) = 0 then (some ((-2), r_3.2.1, r_3.2.2.1, r_3.2.2.2.1, r_3.2.2.2.2.1, r_3.2.2.2.2.2)) else ((f_X6_cellOf v2 v3).bind fun r_6 => zix r_6 240 fun _ => (f_X1_amountOf S2 (r_3.2.2.2.1 3 (Int32.toNatClampNeg r_6))).bind fun r_7 => some (r_7, r_3.2.1, r_3.2.2.1, r_3.2.2.2.1, r_3.2.2.2.2.1, r_3.2.2.2.2.2))) else (if (r_3.2.2.2.2.2 1 0) = 0 then (some ((-2), r_3.2.1, r_3.2.2.1, r_3.2.2.2.1, r_3.2.2.2.2.1, r_3.2.2.2.2.2)) else ((f_X6_cellOf v2 v3).bind fun r_8 => zix r_8 240 fun _ => (f_X1_amountOf S2 (r_3.2.2.2.2.2 3 (Int32.toNatClampNeg r_8))).bind fun r_9 => some (r_9, r_3.2.1, r_3.2.2.1, r_3.2.2.2.1, r_3.2.2.2.2.1, r_3.2.2.2.2.2))))))
theorem dd_X6_width : RX6 ≠ "java/lang/invoke/MethodHandle" ∧ RX6 ≠ "java/lang/invoke/VarHandle" ∧ (parseMethodDescriptor yX6_width.desc).map (fun d => d.parameters.length) = some 3 := by decide +kernel
set_option maxHeartbeats 4000000 in
set_option maxRecDepth 100000 in
theorem c_X6_width (l : Launch) (D : va_G) (T : Nat → ClassId) (a0 : Nat → Nat) (a1 : Nat → Nat) (a2 : Nat → Nat) (a3 : Nat → Nat) (a4 : Nat → Nat) (a5 : Nat → Nat) (a6 : Nat → Nat) (a7 : Nat → Nat) (a8 : Nat → Nat) (a9 : Nat → Nat) (S1 : Nat → Nat → Int32) (S2 : Nat → Nat → Int32) (S3 : Nat → Nat → Int32) (S4 : Nat → Nat → Int32) (S5 : Nat → Nat → Int32) (S6 : Nat → Nat → Int32) (S7 : Nat → Nat → Int32) (S8 : Nat → Nat → Int32) (S9 : Nat → Nat → Int32) (v1 : Int32) (v2 : Int32) (v3 : Int32) (ex : Int32 × (Nat → Nat → Int32) × (Nat → Nat → Int32) × (Nat → Nat → Int32) × (Nat → Nat → Int32) × (Nat → Nat → Int32)) (h : f_X6_width S1 S2 S3 S4 S5 S6 S7 S8 S9 v1 v2 v3 = some ex) : zWI l yX6_width wsX6_width ({ frames := 6, cells := 0, slots := 0, locals := 150 } : Room) D T [.ref (a0 99), .int v1, .int v2, .int v3] (wX6 a0 a1 a2 a3 a4 a5 a6 a7 a8 a9 ++ wX4 T a1 S1 ++ wX1 T a2 S2 ++ wX1 T a3 S3 ++ wX0 T a4 S4 ++ wX5 T a5 S5 ++ wX5 T a6 S6 ++ wX5 T a7 S7 ++ wX5 T a8 S8 ++ wX3 T a9 S9) ex.1 (wX6 a0 a1 a2 a3 a4 a5 a6 a7 a8 a9 ++ wX4 T a1 S1 ++ wX1 T a2 S2 ++ wX1 T a3 S3 ++ wX0 T a4 ex.2.1 ++ wX5 T a5 ex.2.2.1 ++ wX5 T a6 ex.2.2.2.1 ++ wX5 T a7 ex.2.2.2.2.1 ++ wX5 T a8 ex.2.2.2.2.2 ++ wX3 T a9 S9) := by
  refine z_begin (cc := cX6_width) (nL := 5) (own := RX6) (fr := 6) (lc := 150) (ret := some .int) (by decide) rfl (Nat.le_of_ble_eq_true rfl) (zA (wX6 a0 a1 a2 a3 a4 a5 a6 a7 a8 a9 ++ wX4 T a1 S1 ++ wX1 T a2 S2 ++ wX1 T a3 S3 ++ wX0 T a4 S4 ++ wX5 T a5 S5 ++ wX5 T a6 S6 ++ wX5 T a7 S7 ++ wX5 T a8 S8 ++ wX3 T a9 S9)) rfl [(0, .ref (a0 99)), (1, .int v1), (2, .int v2), (3, .int v3)] rfl ⟨rfl, rfl⟩ rfl ?_
  intro p e s m args below meth c C hr hD
  have hD := hD.zself
  unfold f_X6_width at h
  refine z_iload_n C dX6_width_0 rfl 1 rfl 1 rfl ?_
  refine z_callR C ([]) (fun v h => c_X6_isTreeManner l D T    v1 v h) ⟨rfl, rfl⟩ (z_cwS C 1 gX6_width_X6_isTreeManner rfl dd_X6_isTreeManner ⟨(Nat.le_of_ble_eq_true rfl), (Nat.le_of_ble_eq_true rfl)⟩) (hD.zaddr rfl) [] rfl rfl (fun h => absurd h (by decide)) (fun _ => rfl) rfl (Nat.le_of_ble_eq_true rfl) dX6_width_1 4 rfl h (fun r_1 h => ?_)
  refine z_if_eq C 19 dX6_width_4 (by decide) 7 rfl h (fun h => ?_) (fun h => ?_)
  · refine z_iconst C (-1) dX6_width_19 (by decide) 20 rfl ?_
    exact z_iretW (fun z => wX6 a0 a1 a2 a3 a4 a5 a6 a7 a8 a9 ++ wX4 T a1 S1 ++ wX1 T a2 S2 ++ wX1 T a3 S3 ++ wX0 T a4 z.1 ++ wX5 T a5 z.2.1 ++ wX5 T a6 z.2.2.1 ++ wX5 T a7 z.2.2.2.1 ++ wX5 T a8 z.2.2.2.2 ++ wX3 T a9 S9) C hr dX6_width_20 h rfl
  · refine z_aload_n C dX6_width_7 rfl 0 rfl 8 rfl ?_
    refine z_get C (in_X6_width_X6) 0 rfl rfl 1 (by decide) (List.mem_of_getElem? (i := 1) rfl) rfl rfl dX6_width_8 11 rfl ?_
    refine z_iload_n C dX6_width_11 rfl 2 rfl 12 rfl ?_
    refine z_iload_n C dX6_width_12 rfl 3 rfl 13 rfl ?_
    refine z_callR C (wX1 T a2 S2) (fun v h => c_X1_hasCellOrSource l D T a2  S2 v2 v3 v h) ⟨rfl, rfl⟩ (z_cwV C 2 gX6_width_X1_hasCellOrSource rfl rfl dd_X1_hasCellOrSource ⟨(Nat.le_of_ble_eq_true rfl), (Nat.le_of_ble_eq_true rfl)⟩) (hD.zaddr rfl) [3, 4, 5, 6, 7] rfl rfl (fun _ => ⟨a2 99, [.int v2, .int v3], 1, 0, _, _, rfl, rfl, rfl, rfl, rfl⟩) (fun h => absurd rfl h) rfl (Nat.le_of_ble_eq_true rfl) dX6_width_13 16 rfl h (fun r_2 h => ?_)
    refine z_if_ne C 21 dX6_width_16 (by decide) 19 rfl h (fun h => ?_) (fun h => ?_)
    · refine z_aload_n C dX6_width_21 rfl 0 rfl 22 rfl ?_
      refine z_iload_n C dX6_width_22 rfl 1 rfl 23 rfl ?_
      refine z_callA C (wX6 a0 a1 a2 a3 a4 a5 a6 a7 a8 a9 ++ wX4 T a1 S1 ++ wX1 T a2 S2 ++ wX1 T a3 S3 ++ wX0 T a4 S4 ++ wX5 T a5 S5 ++ wX5 T a6 S6 ++ wX5 T a7 S7 ++ wX5 T a8 S8 ++ wX3 T a9 S9) (([] : va_W)) (fun z => if z.1 = 5 then a5 99 else if z.1 = 6 then a6 99 else a8 99) (fun z => wX6 a0 a1 a2 a3 a4 a5 a6 a7 a8 a9 ++ wX4 T a1 S1 ++ wX1 T a2 S2 ++ wX1 T a3 S3 ++ wX0 T a4 z.2.1 ++ wX5 T a5 z.2.2.1 ++ wX5 T a6 z.2.2.2.1 ++ wX5 T a7 z.2.2.2.2.1 ++ wX5 T a8 z.2.2.2.2.2 ++ wX3 T a9 S9) (fun z => wX6 a0 a1 a2 a3 a4 a5 a6 a7 a8 a9 ++ wX4 T a1 S1 ++ wX1 T a2 S2 ++ wX1 T a3 S3 ++ wX0 T a4 z.2.1 ++ wX5 T a5 z.2.2.1 ++ wX5 T a6 z.2.2.2.1 ++ wX5 T a7 z.2.2.2.2.1 ++ wX5 T a8 z.2.2.2.2.2 ++ wX3 T a9 S9) (fun z h => c_X6_treeOf l D T a0 a1 a2 a3 a4 a5 a6 a7 a8 a9  S1 S2 S3 S4 S5 S6 S7 S8 S9 v1 z h) ⟨rfl, rfl⟩ (z_cwV C 1 gX6_width_X6_treeOf rfl rfl dd_X6_treeOf ⟨(Nat.le_of_ble_eq_true rfl), (Nat.le_of_ble_eq_true rfl)⟩) (hD.zaddr rfl) [0, 1, 2, 3, 4, 5, 6, 7, 8, 9, 10, 11, 12, 13, 14, 15, 16, 17, 18, 19, 20, 21, 22, 23, 24, 25, 26, 27, 28, 29, 30, 31, 32, 33] [] [0, 1, 2, 3, 4, 5, 6, 7, 8, 9, 10, 11, 12, 13, 14, 15, 16, 17, 18, 19, 20, 21, 22, 23, 24, 25, 26, 27, 28, 29, 30, 31, 32, 33] rfl rfl rfl (by decide) (fun _ => rfl) (fun _ => ⟨a0 99, [.int v1], 5, 0, _, _, rfl, rfl, rfl, rfl, rfl⟩) (fun h => absurd rfl h) rfl (Nat.le_of_ble_eq_true rfl) dX6_width_23 26 rfl h (fun r_3 h => ?_)
      refine z_tag (t := r_3.1) 5 (fun t => if t = 5 then a5 99 else if t = 6 then a6 99 else a8 99) rfl h (fun h => ?_) (fun hx_0 h => ?_)
      · refine z_astore C [(0, .ref (a0 99)), (1, .int v1), (2, .int v2), (3, .int v3), (4, .ref (a5 99))] dX6_width_26 (Nat.le_of_ble_eq_true rfl) [1, 2, 3, 4, 0] rfl 28 rfl ?_
        refine z_aload C dX6_width_28 4 rfl 30 rfl ?_
        refine z_get C (in_X6_width_X5) 20 rfl rfl 1 (by decide) (List.mem_of_getElem? (i := 2) rfl) rfl rfl dX6_width_30 33 rfl ?_
        refine z_if_eq C 57 dX6_width_33 (by decide) 36 rfl h (fun h => ?_) (fun h => ?_)
        · refine z_bipush C (-2) dX6_width_57 (by decide) 59 rfl ?_
          exact z_iretW (fun z => wX6 a0 a1 a2 a3 a4 a5 a6 a7 a8 a9 ++ wX4 T a1 S1 ++ wX1 T a2 S2 ++ wX1 T a3 S3 ++ wX0 T a4 z.1 ++ wX5 T a5 z.2.1 ++ wX5 T a6 z.2.2.1 ++ wX5 T a7 z.2.2.2.1 ++ wX5 T a8 z.2.2.2.2 ++ wX3 T a9 S9) C hr dX6_width_59 h rfl
        · refine z_aload_n C dX6_width_36 rfl 0 rfl 37 rfl ?_
          refine z_get C (in_X6_width_X6) 0 rfl rfl 1 (by decide) (List.mem_of_getElem? (i := 1) rfl) rfl rfl dX6_width_37 40 rfl ?_
          refine z_aload C dX6_width_40 4 rfl 42 rfl ?_
          refine z_get C (in_X6_width_X5) 20 rfl rfl 3 (by decide) (List.mem_of_getElem? (i := 3) rfl) rfl rfl dX6_width_42 45 rfl ?_
          refine z_iload_n C dX6_width_45 rfl 2 rfl 46 rfl ?_
          refine z_iload_n C dX6_width_46 rfl 3 rfl 47 rfl ?_
          refine z_callR C ([]) (fun v h => c_X6_cellOf l D T    v2 v3 v h) ⟨rfl, rfl⟩ (z_cwS C 2 gX6_width_X6_cellOf rfl dd_X6_cellOf ⟨(Nat.le_of_ble_eq_true rfl), (Nat.le_of_ble_eq_true rfl)⟩) (hD.zaddr rfl) [] rfl rfl (fun h => absurd h (by decide)) (fun _ => rfl) rfl (Nat.le_of_ble_eq_true rfl) dX6_width_47 50 rfl h (fun r_4 h => ?_)
          refine z_iald C 21 rfl rfl dX6_width_50 51 rfl h (fun h => ?_)
          refine z_callR C (wX1 T a2 S2) (fun v h => c_X1_amountOf l D T a2  S2 (r_3.2.2.1 3 (Int32.toNatClampNeg r_4)) v h) ⟨rfl, rfl⟩ (z_cwV C 1 gX6_width_X1_amountOf rfl rfl dd_X1_amountOf ⟨(Nat.le_of_ble_eq_true rfl), (Nat.le_of_ble_eq_true rfl)⟩) (hD.zaddr rfl) [3, 4, 5, 6, 7] rfl rfl (fun _ => ⟨a2 99, [.int (r_3.2.2.1 3 (Int32.toNatClampNeg r_4))], 1, 0, _, _, rfl, rfl, rfl, rfl, rfl⟩) (fun h => absurd rfl h) rfl (Nat.le_of_ble_eq_true rfl) dX6_width_51 54 rfl h (fun r_5 h => ?_)
          refine z_goto C 59 dX6_width_54 (by decide) ?_
          exact z_iretW (fun z => wX6 a0 a1 a2 a3 a4 a5 a6 a7 a8 a9 ++ wX4 T a1 S1 ++ wX1 T a2 S2 ++ wX1 T a3 S3 ++ wX0 T a4 z.1 ++ wX5 T a5 z.2.1 ++ wX5 T a6 z.2.2.1 ++ wX5 T a7 z.2.2.2.1 ++ wX5 T a8 z.2.2.2.2 ++ wX3 T a9 S9) C hr dX6_width_59 h rfl
      · refine z_tag (t := r_3.1) 6 (fun t => if t = 5 then a5 99 else if t = 6 then a6 99 else a8 99) rfl h (fun h => ?_) (fun hx_1 h => ?_)
        · refine z_astore C [(0, .ref (a0 99)), (1, .int v1), (2, .int v2), (3, .int v3), (4, .ref (a6 99))] dX6_width_26 (Nat.le_of_ble_eq_true rfl) [1, 2, 3, 4, 0] rfl 28 rfl ?_
          refine z_aload C dX6_width_28 4 rfl 30 rfl ?_
          refine z_get C (in_X6_width_X5) 23 rfl rfl 1 (by decide) (List.mem_of_getElem? (i := 2) rfl) rfl rfl dX6_width_30 33 rfl ?_
          refine z_if_eq C 57 dX6_width_33 (by decide) 36 rfl h (fun h => ?_) (fun h => ?_)
          · refine z_bipush C (-2) dX6_width_57 (by decide) 59 rfl ?_
            exact z_iretW (fun z => wX6 a0 a1 a2 a3 a4 a5 a6 a7 a8 a9 ++ wX4 T a1 S1 ++ wX1 T a2 S2 ++ wX1 T a3 S3 ++ wX0 T a4 z.1 ++ wX5 T a5 z.2.1 ++ wX5 T a6 z.2.2.1 ++ wX5 T a7 z.2.2.2.1 ++ wX5 T a8 z.2.2.2.2 ++ wX3 T a9 S9) C hr dX6_width_59 h rfl
          · refine z_aload_n C dX6_width_36 rfl 0 rfl 37 rfl ?_
            refine z_get C (in_X6_width_X6) 0 rfl rfl 1 (by decide) (List.mem_of_getElem? (i := 1) rfl) rfl rfl dX6_width_37 40 rfl ?_
            refine z_aload C dX6_width_40 4 rfl 42 rfl ?_
            refine z_get C (in_X6_width_X5) 23 rfl rfl 3 (by decide) (List.mem_of_getElem? (i := 3) rfl) rfl rfl dX6_width_42 45 rfl ?_
            refine z_iload_n C dX6_width_45 rfl 2 rfl 46 rfl ?_
            refine z_iload_n C dX6_width_46 rfl 3 rfl 47 rfl ?_
            refine z_callR C ([]) (fun v h => c_X6_cellOf l D T    v2 v3 v h) ⟨rfl, rfl⟩ (z_cwS C 2 gX6_width_X6_cellOf rfl dd_X6_cellOf ⟨(Nat.le_of_ble_eq_true rfl), (Nat.le_of_ble_eq_true rfl)⟩) (hD.zaddr rfl) [] rfl rfl (fun h => absurd h (by decide)) (fun _ => rfl) rfl (Nat.le_of_ble_eq_true rfl) dX6_width_47 50 rfl h (fun r_6 h => ?_)
            refine z_iald C 24 rfl rfl dX6_width_50 51 rfl h (fun h => ?_)
            refine z_callR C (wX1 T a2 S2) (fun v h => c_X1_amountOf l D T a2  S2 (r_3.2.2.2.1 3 (Int32.toNatClampNeg r_6)) v h) ⟨rfl, rfl⟩ (z_cwV C 1 gX6_width_X1_amountOf rfl rfl dd_X1_amountOf ⟨(Nat.le_of_ble_eq_true rfl), (Nat.le_of_ble_eq_true rfl)⟩) (hD.zaddr rfl) [3, 4, 5, 6, 7] rfl rfl (fun _ => ⟨a2 99, [.int (r_3.2.2.2.1 3 (Int32.toNatClampNeg r_6))], 1, 0, _, _, rfl, rfl, rfl, rfl, rfl⟩) (fun h => absurd rfl h) rfl (Nat.le_of_ble_eq_true rfl) dX6_width_51 54 rfl h (fun r_7 h => ?_)
            refine z_goto C 59 dX6_width_54 (by decide) ?_
            exact z_iretW (fun z => wX6 a0 a1 a2 a3 a4 a5 a6 a7 a8 a9 ++ wX4 T a1 S1 ++ wX1 T a2 S2 ++ wX1 T a3 S3 ++ wX0 T a4 z.1 ++ wX5 T a5 z.2.1 ++ wX5 T a6 z.2.2.1 ++ wX5 T a7 z.2.2.2.1 ++ wX5 T a8 z.2.2.2.2 ++ wX3 T a9 S9) C hr dX6_width_59 h rfl
        · refine z_ref (b := a8 99) (by show (if _ = _ then _ else _) = _; rw [if_neg hx_0, if_neg hx_1]) ?_
          refine z_astore C [(0, .ref (a0 99)), (1, .int v1), (2, .int v2), (3, .int v3), (4, .ref (a8 99))] dX6_width_26 (Nat.le_of_ble_eq_true rfl) [1, 2, 3, 4, 0] rfl 28 rfl ?_
          refine z_aload C dX6_width_28 4 rfl 30 rfl ?_
          refine z_get C (in_X6_width_X5) 29 rfl rfl 1 (by decide) (List.mem_of_getElem? (i := 2) rfl) rfl rfl dX6_width_30 33 rfl ?_
          refine z_if_eq C 57 dX6_width_33 (by decide) 36 rfl h (fun h => ?_) (fun h => ?_)
          · refine z_bipush C (-2) dX6_width_57 (by decide) 59 rfl ?_
            exact z_iretW (fun z => wX6 a0 a1 a2 a3 a4 a5 a6 a7 a8 a9 ++ wX4 T a1 S1 ++ wX1 T a2 S2 ++ wX1 T a3 S3 ++ wX0 T a4 z.1 ++ wX5 T a5 z.2.1 ++ wX5 T a6 z.2.2.1 ++ wX5 T a7 z.2.2.2.1 ++ wX5 T a8 z.2.2.2.2 ++ wX3 T a9 S9) C hr dX6_width_59 h rfl
          · refine z_aload_n C dX6_width_36 rfl 0 rfl 37 rfl ?_
            refine z_get C (in_X6_width_X6) 0 rfl rfl 1 (by decide) (List.mem_of_getElem? (i := 1) rfl) rfl rfl dX6_width_37 40 rfl ?_
            refine z_aload C dX6_width_40 4 rfl 42 rfl ?_
            refine z_get C (in_X6_width_X5) 29 rfl rfl 3 (by decide) (List.mem_of_getElem? (i := 3) rfl) rfl rfl dX6_width_42 45 rfl ?_
            refine z_iload_n C dX6_width_45 rfl 2 rfl 46 rfl ?_
            refine z_iload_n C dX6_width_46 rfl 3 rfl 47 rfl ?_
            refine z_callR C ([]) (fun v h => c_X6_cellOf l D T    v2 v3 v h) ⟨rfl, rfl⟩ (z_cwS C 2 gX6_width_X6_cellOf rfl dd_X6_cellOf ⟨(Nat.le_of_ble_eq_true rfl), (Nat.le_of_ble_eq_true rfl)⟩) (hD.zaddr rfl) [] rfl rfl (fun h => absurd h (by decide)) (fun _ => rfl) rfl (Nat.le_of_ble_eq_true rfl) dX6_width_47 50 rfl h (fun r_8 h => ?_)
            refine z_iald C 30 rfl rfl dX6_width_50 51 rfl h (fun h => ?_)
            refine z_callR C (wX1 T a2 S2) (fun v h => c_X1_amountOf l D T a2  S2 (r_3.2.2.2.2.2 3 (Int32.toNatClampNeg r_8)) v h) ⟨rfl, rfl⟩ (z_cwV C 1 gX6_width_X1_amountOf rfl rfl dd_X1_amountOf ⟨(Nat.le_of_ble_eq_true rfl), (Nat.le_of_ble_eq_true rfl)⟩) (hD.zaddr rfl) [3, 4, 5, 6, 7] rfl rfl (fun _ => ⟨a2 99, [.int (r_3.2.2.2.2.2 3 (Int32.toNatClampNeg r_8))], 1, 0, _, _, rfl, rfl, rfl, rfl, rfl⟩) (fun h => absurd rfl h) rfl (Nat.le_of_ble_eq_true rfl) dX6_width_51 54 rfl h (fun r_9 h => ?_)
            refine z_goto C 59 dX6_width_54 (by decide) ?_
            exact z_iretW (fun z => wX6 a0 a1 a2 a3 a4 a5 a6 a7 a8 a9 ++ wX4 T a1 S1 ++ wX1 T a2 S2 ++ wX1 T a3 S3 ++ wX0 T a4 z.1 ++ wX5 T a5 z.2.1 ++ wX5 T a6 z.2.2.1 ++ wX5 T a7 z.2.2.2.1 ++ wX5 T a8 z.2.2.2.2 ++ wX3 T a9 S9) C hr dX6_width_59 h rfl
    · refine z_iconst C (-1) dX6_width_19 (by decide) 20 rfl ?_
      exact z_iretW (fun z => wX6 a0 a1 a2 a3 a4 a5 a6 a7 a8 a9 ++ wX4 T a1 S1 ++ wX1 T a2 S2 ++ wX1 T a3 S3 ++ wX0 T a4 z.1 ++ wX5 T a5 z.2.1 ++ wX5 T a6 z.2.2.1 ++ wX5 T a7 z.2.2.2.1 ++ wX5 T a8 z.2.2.2.2 ++ wX3 T a9 S9) C hr dX6_width_20 h rfl

end
/-! StreamTree.step (III)I -/
section
variable {p : Program} {l : Launch} {e : Env} {R : Room} {s : State} {m : MethodId} {args : Array Value} {below : List Frame} {meth : Method} {c : Code} {Q : State → Prop} {A : Nat → Prop} {D : va_G} {T : Nat → ClassId} {a0 : Nat → Nat} {a1 : Nat → Nat} {a2 : Nat → Nat} {a3 : Nat → Nat} {a4 : Nat → Nat} {a5 : Nat → Nat} {a6 : Nat → Nat} {a7 : Nat → Nat} {a8 : Nat → Nat} {a9 : Nat → Nat}
theorem in_X6_step_X5 : ∀ w ∈ u_ws RX5 TX5 5, w ∈ wsX6_step := fun _ h => (List.mem_cons_of_mem _ (List.mem_append_left _ (List.mem_append_left _ (List.mem_append_right _ h))))
theorem in_X6_step_X6 : ∀ w ∈ u_ws RX6 TX6 9, w ∈ wsX6_step := fun _ h => (List.mem_cons_of_mem _ (List.mem_append_left _ (List.mem_append_left _ (List.mem_append_left _ (List.mem_append_right _ h)))))
def f_X6_step (S1 : Nat → Nat → Int32) (S2 : Nat → Nat → Int32) (S3 : Nat → Nat → Int32) (S4 : Nat → Nat → Int32) (S5 : Nat → Nat → Int32) (S6 : Nat → Nat → Int32) (S7 : Nat → Nat → Int32) (S8 : Nat → Nat → Int32) (S9 : Nat → Nat → Int32) (v1 : Int32) (v2 : Int32) (v3 : Int32) : Option (Int32 × (Nat → Nat → Int32) × (Nat → Nat → Int32) × (Nat → Nat → Int32) × (Nat → Nat → Int32) × (Nat → Nat → Int32)) := (f_X6_isTreeManner v1).bind fun r_1 => if r_1 = 0 then (some ((-1), S4, S5, S6, S7, S8)) else ((f_X1_hasCellOrSource S2 v2 v3).bind fun r_2 => if r_2 = 0 then (some ((-1), S4, S5, S6, S7, S8)) else ((f_X6_treeOf S1 S2 S3 S4 S5 S6 S7 S8 S9 v1).bind fun r_3 => if r_3.1 = 5 then (if (r_3.2.2.1 1 0) = 0 then (some ((-2), r_3.2.1, r_3.2.2.1, r_3.2.2.2.1, r_3.2.2.2.2.1, r_3.2.2.2.2.2)) else ((f_X6_cellOf v2 v3).bind fun r_4 => zix r_4 240 fun _ => some ((r_3.2.2.1 4 (Int32.toNatClampNeg r_4)), r_3.2.1, r_3.2.2.1, r_3.2.2.2.1, r_3.2.2.2.2.1, r_3.2.2.2.2.2))) else (if r_3.1 = 6 then (if (r_3.2.2.2.1 1 0) = 0 then (some ((-2), r_3.2.1, r_3.2.2.1, r_3.2.2.2.1, r_3.2.2.2.2.1, r_3.2.2.2.2.2)) else ((f_X6_cellOf v2 v3).bind fun r_5 => zix r_5 240 fun _ => some ((r_3.2.2.2.1 4 (Int32.toNatClampNeg r_5)), r_3.2.1, r_3.2.2.1, r_3.2.2.2.1, r_3.2.2.2.2.1, r_3.2.2.2.2.2))) else (if (r_3.2.2.2.2.2 1 0) = 0 then (some ((-2), r_3.2.1, r_3.2.2.1, r_3.2.2.2.1, r_3.2.2.2.2.1, r_3.2.2.2.2.2)) else ((f_X6_cellOf v2 v3).bind fun r_6 => zix r_6 240 fun _ => some ((r_3.2.2.2.2.2 4 (Int32.toNatClampNeg r_6)), r_3.2.1, r_3.2.2.1, r_3.2.2.2.1, r_3.2.2.2.2.1, r_3.2.2.2.2.2))))))
theorem dd_X6_step : RX6 ≠ "java/lang/invoke/MethodHandle" ∧ RX6 ≠ "java/lang/invoke/VarHandle" ∧ (parseMethodDescriptor yX6_step.desc).map (fun d => d.parameters.length) = some 3 := by decide +kernel
set_option maxHeartbeats 4000000 in
set_option maxRecDepth 100000 in
theorem c_X6_step (l : Launch) (D : va_G) (T : Nat → ClassId) (a0 : Nat → Nat) (a1 : Nat → Nat) (a2 : Nat → Nat) (a3 : Nat → Nat) (a4 : Nat → Nat) (a5 : Nat → Nat) (a6 : Nat → Nat) (a7 : Nat → Nat) (a8 : Nat → Nat) (a9 : Nat → Nat) (S1 : Nat → Nat → Int32) (S2 : Nat → Nat → Int32) (S3 : Nat → Nat → Int32) (S4 : Nat → Nat → Int32) (S5 : Nat → Nat → Int32) (S6 : Nat → Nat → Int32) (S7 : Nat → Nat → Int32) (S8 : Nat → Nat → Int32) (S9 : Nat → Nat → Int32) (v1 : Int32) (v2 : Int32) (v3 : Int32) (ex : Int32 × (Nat → Nat → Int32) × (Nat → Nat → Int32) × (Nat → Nat → Int32) × (Nat → Nat → Int32) × (Nat → Nat → Int32)) (h : f_X6_step S1 S2 S3 S4 S5 S6 S7 S8 S9 v1 v2 v3 = some ex) : zWI l yX6_step wsX6_step ({ frames := 6, cells := 0, slots := 0, locals := 150 } : Room) D T [.ref (a0 99), .int v1, .int v2, .int v3] (wX6 a0 a1 a2 a3 a4 a5 a6 a7 a8 a9 ++ wX4 T a1 S1 ++ wX1 T a2 S2 ++ wX1 T a3 S3 ++ wX0 T a4 S4 ++ wX5 T a5 S5 ++ wX5 T a6 S6 ++ wX5 T a7 S7 ++ wX5 T a8 S8 ++ wX3 T a9 S9) ex.1 (wX6 a0 a1 a2 a3 a4 a5 a6 a7 a8 a9 ++ wX4 T a1 S1 ++ wX1 T a2 S2 ++ wX1 T a3 S3 ++ wX0 T a4 ex.2.1 ++ wX5 T a5 ex.2.2.1 ++ wX5 T a6 ex.2.2.2.1 ++ wX5 T a7 ex.2.2.2.2.1 ++ wX5 T a8 ex.2.2.2.2.2 ++ wX3 T a9 S9) := by
  refine z_begin (cc := cX6_step) (nL := 5) (own := RX6) (fr := 6) (lc := 150) (ret := some .int) (by decide) rfl (Nat.le_of_ble_eq_true rfl) (zA (wX6 a0 a1 a2 a3 a4 a5 a6 a7 a8 a9 ++ wX4 T a1 S1 ++ wX1 T a2 S2 ++ wX1 T a3 S3 ++ wX0 T a4 S4 ++ wX5 T a5 S5 ++ wX5 T a6 S6 ++ wX5 T a7 S7 ++ wX5 T a8 S8 ++ wX3 T a9 S9)) rfl [(0, .ref (a0 99)), (1, .int v1), (2, .int v2), (3, .int v3)] rfl ⟨rfl, rfl⟩ rfl ?_
  intro p e s m args below meth c C hr hD
  have hD := hD.zself
  unfold f_X6_step at h
  refine z_iload_n C dX6_step_0 rfl 1 rfl 1 rfl ?_
  refine z_callR C ([]) (fun v h => c_X6_isTreeManner l D T    v1 v h) ⟨rfl, rfl⟩ (z_cwS C 1 gX6_step_X6_isTreeManner rfl dd_X6_isTreeManner ⟨(Nat.le_of_ble_eq_true rfl), (Nat.le_of_ble_eq_true rfl)⟩) (hD.zaddr rfl) [] rfl rfl (fun h => absurd h (by decide)) (fun _ => rfl) rfl (Nat.le_of_ble_eq_true rfl) dX6_step_1 4 rfl h (fun r_1 h => ?_)
  refine z_if_eq C 19 dX6_step_4 (by decide) 7 rfl h (fun h => ?_) (fun h => ?_)
  · refine z_iconst C (-1) dX6_step_19 (by decide) 20 rfl ?_
    exact z_iretW (fun z => wX6 a0 a1 a2 a3 a4 a5 a6 a7 a8 a9 ++ wX4 T a1 S1 ++ wX1 T a2 S2 ++ wX1 T a3 S3 ++ wX0 T a4 z.1 ++ wX5 T a5 z.2.1 ++ wX5 T a6 z.2.2.1 ++ wX5 T a7 z.2.2.2.1 ++ wX5 T a8 z.2.2.2.2 ++ wX3 T a9 S9) C hr dX6_step_20 h rfl
  · refine z_aload_n C dX6_step_7 rfl 0 rfl 8 rfl ?_
    refine z_get C (in_X6_step_X6) 0 rfl rfl 1 (by decide) (List.mem_of_getElem? (i := 1) rfl) rfl rfl dX6_step_8 11 rfl ?_
    refine z_iload_n C dX6_step_11 rfl 2 rfl 12 rfl ?_
    refine z_iload_n C dX6_step_12 rfl 3 rfl 13 rfl ?_
    refine z_callR C (wX1 T a2 S2) (fun v h => c_X1_hasCellOrSource l D T a2  S2 v2 v3 v h) ⟨rfl, rfl⟩ (z_cwV C 2 gX6_step_X1_hasCellOrSource rfl rfl dd_X1_hasCellOrSource ⟨(Nat.le_of_ble_eq_true rfl), (Nat.le_of_ble_eq_true rfl)⟩) (hD.zaddr rfl) [3, 4, 5, 6, 7] rfl rfl (fun _ => ⟨a2 99, [.int v2, .int v3], 1, 0, _, _, rfl, rfl, rfl, rfl, rfl⟩) (fun h => absurd rfl h) rfl (Nat.le_of_ble_eq_true rfl) dX6_step_13 16 rfl h (fun r_2 h => ?_)
    refine z_if_ne C 21 dX6_step_16 (by decide) 19 rfl h (fun h => ?_) (fun h => ?_)
    · refine z_aload_n C dX6_step_21 rfl 0 rfl 22 rfl ?_
      refine z_iload_n C dX6_step_22 rfl 1 rfl 23 rfl ?_
      refine z_callA C (wX6 a0 a1 a2 a3 a4 a5 a6 a7 a8 a9 ++ wX4 T a1 S1 ++ wX1 T a2 S2 ++ wX1 T a3 S3 ++ wX0 T a4 S4 ++ wX5 T a5 S5 ++ wX5 T a6 S6 ++ wX5 T a7 S7 ++ wX5 T a8 S8 ++ wX3 T a9 S9) (([] : va_W)) (fun z => if z.1 = 5 then a5 99 else if z.1 = 6 then a6 99 else a8 99) (fun z => wX6 a0 a1 a2 a3 a4 a5 a6 a7 a8 a9 ++ wX4 T a1 S1 ++ wX1 T a2 S2 ++ wX1 T a3 S3 ++ wX0 T a4 z.2.1 ++ wX5 T a5 z.2.2.1 ++ wX5 T a6 z.2.2.2.1 ++ wX5 T a7 z.2.2.2.2.1 ++ wX5 T a8 z.2.2.2.2.2 ++ wX3 T a9 S9) (fun z => wX6 a0 a1 a2 a3 a4 a5 a6 a7 a8 a9 ++ wX4 T a1 S1 ++ wX1 T a2 S2 ++ wX1 T a3 S3 ++ wX0 T a4 z.2.1 ++ wX5 T a5 z.2.2.1 ++ wX5 T a6 z.2.2.2.1 ++ wX5 T a7 z.2.2.2.2.1 ++ wX5 T a8 z.2.2.2.2.2 ++ wX3 T a9 S9) (fun z h => c_X6_treeOf l D T a0 a1 a2 a3 a4 a5 a6 a7 a8 a9  S1 S2 S3 S4 S5 S6 S7 S8 S9 v1 z h) ⟨rfl, rfl⟩ (z_cwV C 1 gX6_step_X6_treeOf rfl rfl dd_X6_treeOf ⟨(Nat.le_of_ble_eq_true rfl), (Nat.le_of_ble_eq_true rfl)⟩) (hD.zaddr rfl) [0, 1, 2, 3, 4, 5, 6, 7, 8, 9, 10, 11, 12, 13, 14, 15, 16, 17, 18, 19, 20, 21, 22, 23, 24, 25, 26, 27, 28, 29, 30, 31, 32, 33] [] [0, 1, 2, 3, 4, 5, 6, 7, 8, 9, 10, 11, 12, 13, 14, 15, 16, 17, 18, 19, 20, 21, 22, 23, 24, 25, 26, 27, 28, 29, 30, 31, 32, 33] rfl rfl rfl (by decide) (fun _ => rfl) (fun _ => ⟨a0 99, [.int v1], 5, 0, _, _, rfl, rfl, rfl, rfl, rfl⟩) (fun h => absurd rfl h) rfl (Nat.le_of_ble_eq_true rfl) dX6_step_23 26 rfl h (fun r_3 h => ?_)
      refine z_tag (t := r_3.1) 5 (fun t => if t = 5 then a5 99 else if t = 6 then a6 99 else a8 99) rfl h (fun h => ?_) (fun hx_0 h => ?_)
      · refine z_astore C [(0, .ref (a0 99)), (1, .int v1), (2, .int v2), (3, .int v3), (4, .ref (a5 99))] dX6_step_26 (Nat.le_of_ble_eq_true rfl) [1, 2, 3, 4, 0] rfl 28 rfl ?_
        refine z_aload C dX6_step_28 4 rfl 30 rfl ?_
        refine z_get C (in_X6_step_X5) 20 rfl rfl 1 (by decide) (List.mem_of_getElem? (i := 2) rfl) rfl rfl dX6_step_30 33 rfl ?_
        refine z_if_eq C 50 dX6_step_33 (by decide) 36 rfl h (fun h => ?_) (fun h => ?_)
        · refine z_bipush C (-2) dX6_step_50 (by decide) 52 rfl ?_
          exact z_iretW (fun z => wX6 a0 a1 a2 a3 a4 a5 a6 a7 a8 a9 ++ wX4 T a1 S1 ++ wX1 T a2 S2 ++ wX1 T a3 S3 ++ wX0 T a4 z.1 ++ wX5 T a5 z.2.1 ++ wX5 T a6 z.2.2.1 ++ wX5 T a7 z.2.2.2.1 ++ wX5 T a8 z.2.2.2.2 ++ wX3 T a9 S9) C hr dX6_step_52 h rfl
        · refine z_aload C dX6_step_36 4 rfl 38 rfl ?_
          refine z_get C (in_X6_step_X5) 20 rfl rfl 4 (by decide) (List.mem_of_getElem? (i := 3) rfl) rfl rfl dX6_step_38 41 rfl ?_
          refine z_iload_n C dX6_step_41 rfl 2 rfl 42 rfl ?_
          refine z_iload_n C dX6_step_42 rfl 3 rfl 43 rfl ?_
          refine z_callR C ([]) (fun v h => c_X6_cellOf l D T    v2 v3 v h) ⟨rfl, rfl⟩ (z_cwS C 2 gX6_step_X6_cellOf rfl dd_X6_cellOf ⟨(Nat.le_of_ble_eq_true rfl), (Nat.le_of_ble_eq_true rfl)⟩) (hD.zaddr rfl) [] rfl rfl (fun h => absurd h (by decide)) (fun _ => rfl) rfl (Nat.le_of_ble_eq_true rfl) dX6_step_43 46 rfl h (fun r_4 h => ?_)
          refine z_iald C 22 rfl rfl dX6_step_46 47 rfl h (fun h => ?_)
          refine z_goto C 52 dX6_step_47 (by decide) ?_
          exact z_iretW (fun z => wX6 a0 a1 a2 a3 a4 a5 a6 a7 a8 a9 ++ wX4 T a1 S1 ++ wX1 T a2 S2 ++ wX1 T a3 S3 ++ wX0 T a4 z.1 ++ wX5 T a5 z.2.1 ++ wX5 T a6 z.2.2.1 ++ wX5 T a7 z.2.2.2.1 ++ wX5 T a8 z.2.2.2.2 ++ wX3 T a9 S9) C hr dX6_step_52 h rfl
      · refine z_tag (t := r_3.1) 6 (fun t => if t = 5 then a5 99 else if t = 6 then a6 99 else a8 99) rfl h (fun h => ?_) (fun hx_1 h => ?_)
        · refine z_astore C [(0, .ref (a0 99)), (1, .int v1), (2, .int v2), (3, .int v3), (4, .ref (a6 99))] dX6_step_26 (Nat.le_of_ble_eq_true rfl) [1, 2, 3, 4, 0] rfl 28 rfl ?_
          refine z_aload C dX6_step_28 4 rfl 30 rfl ?_
          refine z_get C (in_X6_step_X5) 23 rfl rfl 1 (by decide) (List.mem_of_getElem? (i := 2) rfl) rfl rfl dX6_step_30 33 rfl ?_
          refine z_if_eq C 50 dX6_step_33 (by decide) 36 rfl h (fun h => ?_) (fun h => ?_)
          · refine z_bipush C (-2) dX6_step_50 (by decide) 52 rfl ?_
            exact z_iretW (fun z => wX6 a0 a1 a2 a3 a4 a5 a6 a7 a8 a9 ++ wX4 T a1 S1 ++ wX1 T a2 S2 ++ wX1 T a3 S3 ++ wX0 T a4 z.1 ++ wX5 T a5 z.2.1 ++ wX5 T a6 z.2.2.1 ++ wX5 T a7 z.2.2.2.1 ++ wX5 T a8 z.2.2.2.2 ++ wX3 T a9 S9) C hr dX6_step_52 h rfl
          · refine z_aload C dX6_step_36 4 rfl 38 rfl ?_
            refine z_get C (in_X6_step_X5) 23 rfl rfl 4 (by decide) (List.mem_of_getElem? (i := 3) rfl) rfl rfl dX6_step_38 41 rfl ?_
            refine z_iload_n C dX6_step_41 rfl 2 rfl 42 rfl ?_
            refine z_iload_n C dX6_step_42 rfl 3 rfl 43 rfl ?_
            refine z_callR C ([]) (fun v h => c_X6_cellOf l D T    v2 v3 v h) ⟨rfl, rfl⟩ (z_cwS C 2 gX6_step_X6_cellOf rfl dd_X6_cellOf ⟨(Nat.le_of_ble_eq_true rfl), (Nat.le_of_ble_eq_true rfl)⟩) (hD.zaddr rfl) [] rfl rfl (fun h => absurd h (by decide)) (fun _ => rfl) rfl (Nat.le_of_ble_eq_true rfl) dX6_step_43 46 rfl h (fun r_5 h => ?_)
            refine z_iald C 25 rfl rfl dX6_step_46 47 rfl h (fun h => ?_)
            refine z_goto C 52 dX6_step_47 (by decide) ?_
            exact z_iretW (fun z => wX6 a0 a1 a2 a3 a4 a5 a6 a7 a8 a9 ++ wX4 T a1 S1 ++ wX1 T a2 S2 ++ wX1 T a3 S3 ++ wX0 T a4 z.1 ++ wX5 T a5 z.2.1 ++ wX5 T a6 z.2.2.1 ++ wX5 T a7 z.2.2.2.1 ++ wX5 T a8 z.2.2.2.2 ++ wX3 T a9 S9) C hr dX6_step_52 h rfl
        · refine z_ref (b := a8 99) (by show (if _ = _ then _ else _) = _; rw [if_neg hx_0, if_neg hx_1]) ?_
          refine z_astore C [(0, .ref (a0 99)), (1, .int v1), (2, .int v2), (3, .int v3), (4, .ref (a8 99))] dX6_step_26 (Nat.le_of_ble_eq_true rfl) [1, 2, 3, 4, 0] rfl 28 rfl ?_
          refine z_aload C dX6_step_28 4 rfl 30 rfl ?_
          refine z_get C (in_X6_step_X5) 29 rfl rfl 1 (by decide) (List.mem_of_getElem? (i := 2) rfl) rfl rfl dX6_step_30 33 rfl ?_
          refine z_if_eq C 50 dX6_step_33 (by decide) 36 rfl h (fun h => ?_) (fun h => ?_)
          · refine z_bipush C (-2) dX6_step_50 (by decide) 52 rfl ?_
            exact z_iretW (fun z => wX6 a0 a1 a2 a3 a4 a5 a6 a7 a8 a9 ++ wX4 T a1 S1 ++ wX1 T a2 S2 ++ wX1 T a3 S3 ++ wX0 T a4 z.1 ++ wX5 T a5 z.2.1 ++ wX5 T a6 z.2.2.1 ++ wX5 T a7 z.2.2.2.1 ++ wX5 T a8 z.2.2.2.2 ++ wX3 T a9 S9) C hr dX6_step_52 h rfl
          · refine z_aload C dX6_step_36 4 rfl 38 rfl ?_
            refine z_get C (in_X6_step_X5) 29 rfl rfl 4 (by decide) (List.mem_of_getElem? (i := 3) rfl) rfl rfl dX6_step_38 41 rfl ?_
            refine z_iload_n C dX6_step_41 rfl 2 rfl 42 rfl ?_
            refine z_iload_n C dX6_step_42 rfl 3 rfl 43 rfl ?_
            refine z_callR C ([]) (fun v h => c_X6_cellOf l D T    v2 v3 v h) ⟨rfl, rfl⟩ (z_cwS C 2 gX6_step_X6_cellOf rfl dd_X6_cellOf ⟨(Nat.le_of_ble_eq_true rfl), (Nat.le_of_ble_eq_true rfl)⟩) (hD.zaddr rfl) [] rfl rfl (fun h => absurd h (by decide)) (fun _ => rfl) rfl (Nat.le_of_ble_eq_true rfl) dX6_step_43 46 rfl h (fun r_6 h => ?_)
            refine z_iald C 31 rfl rfl dX6_step_46 47 rfl h (fun h => ?_)
            refine z_goto C 52 dX6_step_47 (by decide) ?_
            exact z_iretW (fun z => wX6 a0 a1 a2 a3 a4 a5 a6 a7 a8 a9 ++ wX4 T a1 S1 ++ wX1 T a2 S2 ++ wX1 T a3 S3 ++ wX0 T a4 z.1 ++ wX5 T a5 z.2.1 ++ wX5 T a6 z.2.2.1 ++ wX5 T a7 z.2.2.2.1 ++ wX5 T a8 z.2.2.2.2 ++ wX3 T a9 S9) C hr dX6_step_52 h rfl
    · refine z_iconst C (-1) dX6_step_19 (by decide) 20 rfl ?_
      exact z_iretW (fun z => wX6 a0 a1 a2 a3 a4 a5 a6 a7 a8 a9 ++ wX4 T a1 S1 ++ wX1 T a2 S2 ++ wX1 T a3 S3 ++ wX0 T a4 z.1 ++ wX5 T a5 z.2.1 ++ wX5 T a6 z.2.2.1 ++ wX5 T a7 z.2.2.2.1 ++ wX5 T a8 z.2.2.2.2 ++ wX3 T a9 S9) C hr dX6_step_20 h rfl

end
