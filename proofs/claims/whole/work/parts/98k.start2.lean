theorem lwI_83 : Cond.methodLink RL 18 yX7_init ∈ wsL_law0 := List.mem_of_getElem? (i := 83) rfl
theorem lwI_84 : Cond.instanceMethod yX7_init ∈ wsL_law0 := List.mem_of_getElem? (i := 84) rfl
/-! the law from its entry, at last -/
set_option maxHeartbeats 4000000 in
set_option maxRecDepth 100000 in
theorem whole_start {p : Program} {e : Env} {s : State} {m : MethodId} {below : List Frame} {meth : Method} {c : Code} (l : Launch) (hflags : l.flags = flags0) {b L : Nat} {xs : Nat → Int32} (hL : L ≤ 3072) (C0 : lw_At p s m meth c b L xs) : W p l e room_1 s m #[Value.ref b] below meth c s.heap [] 0 0 (lw_Z below #[Value.ref b] s) (entryFrame m ([Value.ref b] : List Value).toArray 7) := by
  obtain ⟨hx, hb, hr, hml, hown, htb, hX, hbl, hlocks, hgv⟩ := id C0
  have hl0 : l.stackTraces = false := by unfold Launch.stackTraces; rw [hflags]; decide +kernel
  have hn : ∀ w ∈ lw_nar, w.before #[Value.ref b] s = true := flat_of_before _ hgv
  have hts : ∀ w ∈ wsL_law0, w.before #[Value.ref b] s = true := fun w hw => htb w (wsL_law_in0 w hw)
  obtain ⟨D, T, hK⟩ := lw_zK hts htb
  obtain ⟨adK, adV, hE⟩ := lw_zE htb hn
  obtain ⟨sa, hXw⟩ := lw_zX htb hn
  obtain ⟨M1, N1, N2, g1, g2, g3, g4, hI⟩ := m_new
  have C1 : ∀ k n, k ≤ 601024 → n ≤ 7293034 → zC p room_1 s m #[Value.ref b] meth c cL_law 7 RL wsL_law0 D T 2048 84000 k n := fun k n hk hn => ⟨⟨hx, hb, hml, hown, hts⟩, hK, hlocks, ⟨Nat.le_refl _, Nat.le_refl _⟩, hk, hn⟩
  have CM : zCM p room_1 s m #[Value.ref b] meth c cL_law 7 RL wsL_law0 D T 2048 84000 601024 7293034 := ⟨C1, Nat.le_refl _, Nat.le_refl _⟩
  have hA : ∀ q : Nat, s.heap.size ≤ q → (fun q : Nat => s.heap.size ≤ q) q := fun _ h => h
  have hl := lv_entry ([.ref b]) (n := 7) (Nat.le_of_ble_eq_true rfl)
  rw [lg_entry_eq]
  generalize (lg_sl ([.ref b]) ++ List.replicate (7 - (lg_sl ([.ref b])).length) Slot.unset).toArray = ls at hl ⊢
  have hl : lv_has ls 7 [(0, .ref b)] := hl
  have hP : va_P D vwCl [] s.heap := fun k q h => by simp at h
  have hD : va_D (fun q : Nat => s.heap.size ≤ q) [] := ⟨fun i j p q h => by simp at h, fun k q h => by simp at h⟩
  refine (?_ : zt p l e room_1 s m #[Value.ref b] below meth c 7 (fun q : Nat => s.heap.size ≤ q) D 0 0 (lw_Z below #[Value.ref b] s) [] [(0, .ref b)] 0 []) s.heap [] ls hP va_S.rf hl
  refine z_new CM (F := TX6) (N := 9) (ci := 5) [.null, .null, .null, .null, .null, .null, .null, .null, .null] (Nat.le_of_ble_eq_true rfl) (Nat.le_of_ble_eq_true rfl) inl0X6 tyX6 tyX6_ok (List.mem_of_getElem? (i := 0) rfl) (List.mem_of_getElem? (i := 1) rfl) (List.mem_of_getElem? (i := 2) rfl) rfl (fun j hj => by rcases (show j = 0 ∨ j = 1 ∨ j = 2 ∨ j = 3 ∨ j = 4 ∨ j = 5 ∨ j = 6 ∨ j = 7 ∨ j = 8 by omega) with rfl | rfl | rfl | rfl | rfl | rfl | rfl | rfl | rfl <;> rfl) hD hA dL_law_0 1 9 rfl rfl 3 rfl (fun o1 hN1 => ?_)
  refine z_dup (C1 1 9 (Nat.le_of_ble_eq_true rfl) (Nat.le_of_ble_eq_true rfl)) dL_law_3 rfl 4 rfl ?_
  refine z_callI6 (w := []) CM (fun sz => c_X6_init l D T o1 M1 g1 sz) false gL_law_X6_init rfl ⟨rfl, rfl⟩ (List.mem_of_getElem? (i := 2) rfl) (Or.inl ⟨rfl, (List.mem_of_getElem? (i := 7) rfl)⟩) (List.mem_of_getElem? (i := 8) rfl) rfl dd_X6_init ⟨(Nat.le_of_ble_eq_true rfl), (Nat.le_of_ble_eq_true rfl)⟩ (Nat.le_of_ble_eq_true rfl) (Nat.le_of_ble_eq_true rfl) hN1 hA (Nat.le_of_ble_eq_true rfl) dL_law_4 34 34725 rfl rfl 7 rfl (fun u e1 hD1 => ?_)
  subst e1
  refine z_world (w' := (wX6 (u 0) (u 1) (u 2) (u 3) (u 4) (u 5) (u 6) (u 7) (u 8) (u 9) ++ (wX4 T (u 1) (fun _ _ => 0) ++ (wX1 T (u 2) M1 ++ (wX1 T (u 3) M1 ++ (wX0 T (u 4) (fun _ _ => 0) ++ (wX5 T (u 5) (fun _ _ => 0) ++ (wX5 T (u 6) (fun _ _ => 0) ++ (wX5 T (u 7) (fun _ _ => 0) ++ (wX5 T (u 8) (fun _ _ => 0) ++ wX3 T (u 9) (fun _ _ => 0))))))))))) rfl ?_
  have hD1 : va_D (fun q : Nat => s.heap.size ≤ q) ((wX6 (u 0) (u 1) (u 2) (u 3) (u 4) (u 5) (u 6) (u 7) (u 8) (u 9) ++ (wX4 T (u 1) (fun _ _ => 0) ++ (wX1 T (u 2) M1 ++ (wX1 T (u 3) M1 ++ (wX0 T (u 4) (fun _ _ => 0) ++ (wX5 T (u 5) (fun _ _ => 0) ++ (wX5 T (u 6) (fun _ _ => 0) ++ (wX5 T (u 7) (fun _ _ => 0) ++ (wX5 T (u 8) (fun _ _ => 0) ++ wX3 T (u 9) (fun _ _ => 0))))))))))) := hD1
  refine z_astore_n (C1 34 34725 (Nat.le_of_ble_eq_true rfl) (Nat.le_of_ble_eq_true rfl)) [(0, .ref b), (1, .ref (u 0 99))] dL_law_7 rfl (by decide) [1, 0] rfl 8 rfl ?_
  refine z_new CM (F := TX7) (N := 35) (ci := 6) [.int 0, .int 0, .int 0, .int 0, .int 0, .int 0, .null, .null, .null, .int 0, .null, .null, .int 0, .int 0, .int 0, .int 0, .int 0, .int 0, .int 0, .int 0, .int 0, .int 0, .null, .null, .null, .int 0, .null, .null, .null, .null, .null, .null, .null, .null, .null] (Nat.le_of_ble_eq_true rfl) (Nat.le_of_ble_eq_true rfl) inl0X7 tyX7 tyX7_ok (List.mem_of_getElem? (i := 3) rfl) (List.mem_of_getElem? (i := 4) rfl) (List.mem_of_getElem? (i := 5) rfl) rfl (fun j hj => by rcases (show j = 0 ∨ j = 1 ∨ j = 2 ∨ j = 3 ∨ j = 4 ∨ j = 5 ∨ j = 6 ∨ j = 7 ∨ j = 8 ∨ j = 9 ∨ j = 10 ∨ j = 11 ∨ j = 12 ∨ j = 13 ∨ j = 14 ∨ j = 15 ∨ j = 16 ∨ j = 17 ∨ j = 18 ∨ j = 19 ∨ j = 20 ∨ j = 21 ∨ j = 22 ∨ j = 23 ∨ j = 24 ∨ j = 25 ∨ j = 26 ∨ j = 27 ∨ j = 28 ∨ j = 29 ∨ j = 30 ∨ j = 31 ∨ j = 32 ∨ j = 33 ∨ j = 34 by omega) with rfl | rfl | rfl | rfl | rfl | rfl | rfl | rfl | rfl | rfl | rfl | rfl | rfl | rfl | rfl | rfl | rfl | rfl | rfl | rfl | rfl | rfl | rfl | rfl | rfl | rfl | rfl | rfl | rfl | rfl | rfl | rfl | rfl | rfl | rfl <;> rfl) hD1 hA dL_law_8 35 34760 rfl rfl 11 rfl (fun o2 hN2 => ?_)
  refine z_dup (C1 35 34760 (Nat.le_of_ble_eq_true rfl) (Nat.le_of_ble_eq_true rfl)) dL_law_11 rfl 12 rfl ?_
  refine z_callI CM (fun sz => c_X7_init l D T o2 N1 N2 g2 g3 sz) false gL_law_X7_init rfl ⟨rfl, rfl⟩ (List.mem_of_getElem? (i := 5) rfl) (Or.inl ⟨rfl, lwI_83⟩) lwI_84 rfl dd_X7_init ⟨(Nat.le_of_ble_eq_true rfl), (Nat.le_of_ble_eq_true rfl)⟩ (Nat.le_of_ble_eq_true rfl) (Nat.le_of_ble_eq_true rfl) hN2 hA (Nat.le_of_ble_eq_true rfl) dL_law_12 52 98796 rfl rfl 15 rfl (fun b0 e2 hD2 => ?_)
  subst e2
  refine z_astore_n (C1 52 98796 (Nat.le_of_ble_eq_true rfl) (Nat.le_of_ble_eq_true rfl)) [(0, .ref b), (1, .ref (u 0 99)), (2, .ref (b0 99))] dL_law_15 rfl (by decide) [1, 2, 0] rfl 16 rfl ?_
  refine z_iconst (C1 52 98796 (Nat.le_of_ble_eq_true rfl) (Nat.le_of_ble_eq_true rfl)) 1 dL_law_16 (by decide) 17 rfl ?_
  refine z_newJ CM (Nat.le_of_ble_eq_true rfl) (Nat.le_of_ble_eq_true rfl) (List.mem_of_getElem? (i := 6) rfl) hD2 hA dL_law_17 53 98797 rfl rfl 19 rfl (fun q cJ hKJ hD3 => ?_)
  refine z_astore_n (C1 53 98797 (Nat.le_of_ble_eq_true rfl) (Nat.le_of_ble_eq_true rfl)) [(0, .ref b), (1, .ref (u 0 99)), (2, .ref (b0 99)), (3, .ref q)] dL_law_19 rfl (by decide) [1, 2, 3, 0] rfl 20 rfl ?_
  refine z_iconst (C1 53 98797 (Nat.le_of_ble_eq_true rfl) (Nat.le_of_ble_eq_true rfl)) 0 dL_law_20 (by decide) 21 rfl ?_
  refine z_istore (C1 53 98797 (Nat.le_of_ble_eq_true rfl) (Nat.le_of_ble_eq_true rfl)) [(0, .ref b), (1, .ref (u 0 99)), (2, .ref (b0 99)), (3, .ref q), (4, .int (nI (6 * 0)))] dL_law_21 (by decide) [1, 2, 3, 4, 0] rfl 23 rfl ?_
  refine z_world (w' := (wX6 (u 0) (u 1) (u 2) (u 3) (u 4) (u 5) (u 6) (u 7) (u 8) (u 9) ++ (wX4 T (u 1) (fun _ _ => 0) ++ (wX1 T (u 2) M1 ++ (wX1 T (u 3) M1 ++ (wX0 T (u 4) (fun _ _ => 0) ++ (wX5 T (u 5) (fun _ _ => 0) ++ (wX5 T (u 6) (fun _ _ => 0) ++ (wX5 T (u 7) (fun _ _ => 0) ++ (wX5 T (u 8) (fun _ _ => 0) ++ wX3 T (u 9) (fun _ _ => 0)))))))))) ++ (wX7 T b0 N2 ++ wJ cJ q (fun _ => 0))) (List.append_assoc _ _ _) ?_
  rw [List.append_assoc] at hD3
  exact lw_loop hl0 hr ⟨C1, hX, hbl, hL, hE, hXw, hKJ⟩ 512 0 _ (u 0) (u 1) (u 2) (u 3) (u 4) (u 5) (u 6) (u 7) (u 8) (u 9) b0 (fun _ _ => 0) M1 M1 (fun _ _ => 0) (fun _ _ => 0) (fun _ _ => 0) (fun _ _ => 0) (fun _ _ => 0) (fun _ _ => 0) N2 q (fun _ => 0) 53 98797 (by omega) (by omega) hI hD3 (by decide) (by decide)
