/-! what the law's body knows -/
section LWD
/-- what is known all along the law's body -/
def lwC (p : Program) (s : State) (m : MethodId) (meth : Method) (c : Code) (D : va_G) (T : Nat → ClassId) (adK adV : Nat → Nat) (b L sa : Nat) (xs : Nat → Int32) (cJ : ClassId) : Prop :=
  (∀ k n, k ≤ 601024 → n ≤ 7293034 → zC p room_1 s m #[Value.ref b] meth c cL_law 7 RL wsL_law0 D T 2048 84000 k n) ∧ va_X b L xs s s.heap ∧ b < s.heap.size ∧ L ≤ 3072 ∧ (zE adK adV (fun q : Nat => s.heap.size ≤ q) s s.heap ∧ zR adK s) ∧ zXw sa (fun q : Nat => s.heap.size ≤ q) s s.heap ∧ va_K D vwCl [(cJ, .long)] s
theorem lw_in {L j : Nat} (hL : L ≤ 3072) (hj : 6 * j + 6 ≤ L) (k : Nat) (hk : k < 6) : vp_in (nI (6 * j) + nI k) L := by
  rw [nI_add]; exact vp_in_nI (by omega) (by omega)
/-- what is left behind a case: the loop goes on at 1019 -/
def lwG (p : Program) (l : Launch) (e : Env) (s : State) (m : MethodId) (below : List Frame) (meth : Method) (c : Code) (Q : State → Prop) (D : va_G) (T : Nat → ClassId) (b : Nat) (cJ : ClassId) (j : Nat) : Prop :=
  ∀ (K : Nat → Nat → Nat) (a0 a1 a2 a3 a4 a5 a6 a7 a8 a9 b0 : Nat → Nat) (S1 S2 S3 S4 S5 S6 S7 S8 S9 M : Nat → Nat → Int32) (q : Nat) (f : Nat → Int64) (cells slots : Nat), ivK K S1 S2 S4 S5 S6 S7 S8 M → va_D (fun q : Nat => s.heap.size ≤ q) ((wX6 a0 a1 a2 a3 a4 a5 a6 a7 a8 a9 ++ (wX4 T a1 S1 ++ (wX1 T a2 S2 ++ (wX1 T a3 S3 ++ (wX0 T a4 S4 ++ (wX5 T a5 S5 ++ (wX5 T a6 S6 ++ (wX5 T a7 S7 ++ (wX5 T a8 S8 ++ wX3 T a9 S9))))))))) ++ (wX7 T b0 M ++ wJ cJ q f)) → cells + 5 * tpL S1 ≤ 53 + 106 * (j + 1) → slots + 25 * tpL S1 ≤ 98797 + 600 * (j + 1) → zt p l e room_1 s m #[Value.ref b] below meth c 7 (fun q : Nat => s.heap.size ≤ q) D cells slots Q ((wX6 a0 a1 a2 a3 a4 a5 a6 a7 a8 a9 ++ (wX4 T a1 S1 ++ (wX1 T a2 S2 ++ (wX1 T a3 S3 ++ (wX0 T a4 S4 ++ (wX5 T a5 S5 ++ (wX5 T a6 S6 ++ (wX5 T a7 S7 ++ (wX5 T a8 S8 ++ wX3 T a9 S9))))))))) ++ (wX7 T b0 M ++ wJ cJ q f)) [(0, .ref b), (1, .ref (a0 99)), (2, .ref (b0 99)), (3, .ref q), (4, .int (nI (6 * j)))] 1019 []
end LWD
