/-! THE LIFTED ROWS: a point of a walk is 'zt world locals pc stack': from any heap that holds the world the machine comes to Q. The walk carries 'h : (what is left of the method's function) = some answer'. -/
section ZT
def zst (S : Nat → Nat → Int32) (k j : Nat) (v : Int32) : Nat → Nat → Int32 := fun q => if q = k then upd (S k) j v else S q
def ztys (T : Nat → ClassId) : List (ClassId × FieldType) := [(T 0, .int), (T 1, .boolean), (T 2, .byte)]
def znests : List Cond := [.methodLinkNest RX6 11 yX4_init "StreamTree", .methodLinkNest RX6 28 yX0_init "StreamTree", .methodLinkNest RX6 35 yX5_init "StreamTree", .methodLinkNest RX6 51 yX3_init "StreamTree", .methodLinkNest RX4 117 yX6_isWithin "StreamTree", .methodLinkNest RX4 101 yX6_cellOf "StreamTree", .methodLinkNest RX1 51 yX6_isWithin "StreamTree", .methodLinkNest RX1 69 yX6_cellOf "StreamTree", .methodLinkNest RX0 46 yX6_cellOf "StreamTree", .methodLinkNest RX5 39 yX6_cellOf "StreamTree", .methodLinkNest RX3 19 yX6_cellOf "StreamTree", .methodLinkNest RX2 28 yX6_cellOf "StreamTree"]
def zK (D : va_G) (T : Nat → ClassId) (U : State) : Prop := va_K D vwCl (ztys T) U ∧ (∀ w ∈ znests, va_Nw w U) ∧ U.vm.findClass "[I" = some (T 0) ∧ U.vm.findClass "[Z" = some (T 1) ∧ U.vm.findClass "[B" = some (T 2)
def zlet {α β : Type} (a : α) (f : α → β) : β := f a
def zix {α : Type} (i : Int32) (n : Nat) (f : Nat → Option α) : Option α := if 0 ≤ i.toInt ∧ i.toInt < (n : Int) then f i.toNatClampNeg else none
def zbo {α : Type} (v : Int32) (x : Option α) : Option α := if v = 0 ∨ v = 1 then x else none
def znz {α : Type} (v : Int32) (x : Option α) : Option α := if v = 0 then none else x
def zloop {α β : Type} (body : (α → Option β) → α → Option β) : Nat → α → Option β
  | 0, _ => none
  | n + 1, a => body (zloop body n) a
theorem zloop_ind {α β : Type} {body : (α → Option β) → α → Option β} {P : α → β → Prop} (hb : ∀ (rec : α → Option β), (∀ a b, rec a = some b → P a b) → ∀ a b, body rec a = some b → P a b) : ∀ (n : Nat) (a : α) (b : β), zloop body n a = some b → P a b := by
  intro n
  induction n with
  | zero => intro a b h; cases h
  | succ n ih => intro a b h; exact hb (zloop body n) ih a b h
theorem zix_some {α : Type} {i : Int32} {n : Nat} {f : Nat → Option α} {x : α} (h : zix i n f = some x) : vp_in i n ∧ f i.toNatClampNeg = some x := by
  unfold zix at h
  split at h
  · rename_i hc
    refine ⟨?_, h⟩
    rintro (h1 | h1)
    · have := Int32.lt_iff_toInt_lt.mp h1
      have h0 : (0 : Int32).toInt = 0 := rfl
      omega
    · have h2 : (i.toNatClampNeg : Int) = i.toInt := by
        have := Int32.toNat_toInt i
        omega
      omega
  · cases h
theorem zbo_some {α : Type} {v : Int32} {x : Option α} {y : α} (h : zbo v x = some y) : (v = 0 ∨ v = 1) ∧ x = some y := by
  unfold zbo at h
  split at h
  · rename_i hc; exact ⟨hc, h⟩
  · cases h
theorem znz_some {α : Type} {v : Int32} {x : Option α} {y : α} (h : znz v x = some y) : ¬ v = 0 ∧ x = some y := by
  unfold znz at h
  split at h
  · cases h
  · rename_i hc; exact ⟨hc, h⟩
theorem zb_narrow {v : Int32} (h : v = 0 ∨ v = 1) : narrow .boolean (.int v) = .int v := by rcases h with rfl | rfl <;> rfl
theorem zb_fits {v : Int32} (h : v = 0 ∨ v = 1) : fits .boolean (.int v) = true := by rcases h with rfl | rfl <;> rfl
/-- the cells of a world, by their addresses alone -/
def zA (w : va_W) : Nat → Prop := fun q => ∃ (k : Nat) (e : va_E), w[k]? = some (q, e)
theorem va_D.zaddr {A : Nat → Prop} {w w' : va_W} (h : va_D A w) (ha : w.map Prod.fst = w'.map Prod.fst) : va_D A w' := by
  have key : ∀ (k : Nat) (q : Nat × va_E), w'[k]? = some q → ∃ e, w[k]? = some (q.1, e) := by
    intro k q hq
    have h1 : (w.map Prod.fst)[k]? = some q.1 := by rw [ha, List.getElem?_map, hq]; rfl
    rw [List.getElem?_map] at h1
    cases hw : w[k]? with
    | none => rw [hw] at h1; cases h1
    | some x => rw [hw] at h1; obtain ⟨x1, x2⟩ := x; cases h1; exact ⟨x2, rfl⟩
  refine ⟨fun i j x y hx hy hxy => ?_, fun k q hq => ?_⟩
  · obtain ⟨e1, h1⟩ := key i x hx
    obtain ⟨e2, h2⟩ := key j y hy
    exact h.1 i j _ _ h1 h2 hxy
  · obtain ⟨e1, h1⟩ := key k q hq
    exact h.2 k (q.1, e1) h1
theorem zA.addr {w w' : va_W} (ha : w.map Prod.fst = w'.map Prod.fst) {q : Nat} (h : zA w q) : zA w' q := by
  obtain ⟨k, e, h⟩ := h
  have h1 : (w'.map Prod.fst)[k]? = some q := by rw [← ha, List.getElem?_map, h]; rfl
  rw [List.getElem?_map] at h1
  cases hw : w'[k]? with
  | none => rw [hw] at h1; cases h1
  | some x => rw [hw] at h1; obtain ⟨x1, x2⟩ := x; cases h1; exact ⟨k, x2, hw⟩
theorem va_D.zself {A : Nat → Prop} {w : va_W} (h : va_D A w) : va_D (zA w) w := ⟨h.1, fun k q hq => ⟨k, q.2, hq⟩⟩
end ZT
section ZR
variable {p : Program} {l : Launch} {e : Env} {R : Room} {s : State} {m : MethodId} {args : Array Value} {below : List Frame} {meth : Method} {c : Code} {cells slots : Nat} {Q : State → Prop}
variable {cc : ByteArray} {nL fr lc : Nat} {own : String} {Ts : List Cond} {A : Nat → Prop} {D : va_G} {T : Nat → ClassId}
variable {w : va_W} {lv : List (Nat × Value)} {pc : Nat} {st : List Value}
def zt (p : Program) (l : Launch) (e : Env) (R : Room) (s : State) (m : MethodId) (args : Array Value) (below : List Frame) (meth : Method) (c : Code) (nL : Nat) (A : Nat → Prop) (D : va_G) (cells slots : Nat) (Q : State → Prop) (w : va_W) (lv : List (Nat × Value)) (pc : Nat) (st : List Value) : Prop :=
  ∀ (H : Heap) (locs : List Loc) (ls : Array Slot), va_P D vwCl w H → va_S A s.heap H locs → lv_has ls nL lv → W p l e R s m args below meth c H locs cells slots Q (F0 m pc ls st)
/-- what is the same at every point of a method's walk -/
def zC (p : Program) (R : Room) (s : State) (m : MethodId) (args : Array Value) (meth : Method) (c : Code) (cc : ByteArray) (nL : Nat) (own : String) (Ts : List Cond) (D : va_G) (T : Nat → ClassId) (fr lc cells slots : Nat) : Prop :=
  CallFix p m c cc nL s args Ts own ∧ zK D T s ∧ meth.locks = false ∧ (fr ≤ R.frames ∧ lc ≤ R.locals) ∧ cells ≤ R.cells ∧ slots ≤ R.slots
theorem z_locals {ks : List Nat} {lv' : List (Nat × Value)} (hk : lv_pick lv ks = lv') (K : zt p l e R s m args below meth c nL A D cells slots Q w lv' pc st) : zt p l e R s m args below meth c nL A D cells slots Q w lv pc st :=
  fun H locs ls hP hS hl => K H locs ls hP hS (lv_sub hl ks hk)
theorem z_iload_n (C : zC p R s m args meth c cc nL own Ts D T fr lc cells slots) {k : Fin 4} {i : Nat} {x : Int32} (hd : decode cc pc = .ok (.iload_n k, 1)) (hi : (k : Nat) = i) (q : Nat) (hq : lv[q]? = some (i, .int x)) (n : Nat) (hn : pc + 1 = n) (K : zt p l e R s m args below meth c nL A D cells slots Q w lv n (.int x :: st)) : zt p l e R s m args below meth c nL A D cells slots Q w lv pc st := by
  subst hn; exact fun H locs ls hP hS hl => lv_iload_n C.1.1 C.1.2.1 hd hi (lv_at hl q hq) (K H locs ls hP hS hl)
theorem z_iload (C : zC p R s m args meth c cc nL own Ts D T fr lc cells slots) {i : Nat} {x : Int32} (hd : decode cc pc = .ok (.iload i, 2)) (q : Nat) (hq : lv[q]? = some (i, .int x)) (n : Nat) (hn : pc + 2 = n) (K : zt p l e R s m args below meth c nL A D cells slots Q w lv n (.int x :: st)) : zt p l e R s m args below meth c nL A D cells slots Q w lv pc st := by
  subst hn; exact fun H locs ls hP hS hl => lv_iload C.1.1 C.1.2.1 hd (lv_at hl q hq) (K H locs ls hP hS hl)
theorem z_aload_n (C : zC p R s m args meth c cc nL own Ts D T fr lc cells slots) {k : Fin 4} {i x : Nat} (hd : decode cc pc = .ok (.aload_n k, 1)) (hi : (k : Nat) = i) (q : Nat) (hq : lv[q]? = some (i, .ref x)) (n : Nat) (hn : pc + 1 = n) (K : zt p l e R s m args below meth c nL A D cells slots Q w lv n (.ref x :: st)) : zt p l e R s m args below meth c nL A D cells slots Q w lv pc st := by
  subst hn; exact fun H locs ls hP hS hl => lv_aload_n C.1.1 C.1.2.1 hd hi (lv_at hl q hq) (K H locs ls hP hS hl)
theorem z_aload (C : zC p R s m args meth c cc nL own Ts D T fr lc cells slots) {i x : Nat} (hd : decode cc pc = .ok (.aload i, 2)) (q : Nat) (hq : lv[q]? = some (i, .ref x)) (n : Nat) (hn : pc + 2 = n) (K : zt p l e R s m args below meth c nL A D cells slots Q w lv n (.ref x :: st)) : zt p l e R s m args below meth c nL A D cells slots Q w lv pc st := by
  subst hn; exact fun H locs ls hP hS hl => lv_aload C.1.1 C.1.2.1 hd (lv_at hl q hq) (K H locs ls hP hS hl)
theorem z_iconst (C : zC p R s m args meth c cc nL own Ts D T fr lc cells slots) {z : Int} (v : Int32) (hd : decode cc pc = .ok (.iconst z, 1)) (hv : Int32.ofInt z = v) (n : Nat) (hn : pc + 1 = n) (K : zt p l e R s m args below meth c nL A D cells slots Q w lv n (.int v :: st)) : zt p l e R s m args below meth c nL A D cells slots Q w lv pc st := by
  subst hn; exact fun H locs ls hP hS hl => lv_iconst C.1.1 C.1.2.1 hd hv (K H locs ls hP hS hl)
theorem z_bipush (C : zC p R s m args meth c cc nL own Ts D T fr lc cells slots) {z : Int} (v : Int32) (hd : decode cc pc = .ok (.bipush z, 2)) (hv : (Int8.ofInt z).toInt32 = v) (n : Nat) (hn : pc + 2 = n) (K : zt p l e R s m args below meth c nL A D cells slots Q w lv n (.int v :: st)) : zt p l e R s m args below meth c nL A D cells slots Q w lv pc st := by
  subst hn; exact fun H locs ls hP hS hl => lv_bipush C.1.1 C.1.2.1 hd hv (K H locs ls hP hS hl)
theorem z_sipush (C : zC p R s m args meth c cc nL own Ts D T fr lc cells slots) {z : Int} (v : Int32) (hd : decode cc pc = .ok (.sipush z, 3)) (hv : (Int16.ofInt z).toInt32 = v) (n : Nat) (hn : pc + 3 = n) (K : zt p l e R s m args below meth c nL A D cells slots Q w lv n (.int v :: st)) : zt p l e R s m args below meth c nL A D cells slots Q w lv pc st := by
  subst hn; exact fun H locs ls hP hS hl => lv_sipush C.1.1 C.1.2.1 hd hv (K H locs ls hP hS hl)
theorem z_ldc (C : zC p R s m args meth c cc nL own Ts D T fr lc cells slots) {index : Nat} (v : Int32) (hc : Jvm.Cond.constant own index v ∈ Ts) (hd : decode cc pc = .ok (.ldc index, 2)) (n : Nat) (hn : pc + 2 = n) (K : zt p l e R s m args below meth c nL A D cells slots Q w lv n (.int v :: st)) : zt p l e R s m args below meth c nL A D cells slots Q w lv pc st := by
  subst hn; exact fun H locs ls hP hS hl => lv_ldc C.1.1 C.1.2.1 C.1.2.2.2.1 (C.1.2.2.2.2 _ hc) hd (K H locs ls hP hS hl)
theorem z_ldcw (C : zC p R s m args meth c cc nL own Ts D T fr lc cells slots) {index : Nat} (v : Int32) (hc : Jvm.Cond.constant own index v ∈ Ts) (hd : decode cc pc = .ok (.ldc_w index, 3)) (n : Nat) (hn : pc + 3 = n) (K : zt p l e R s m args below meth c nL A D cells slots Q w lv n (.int v :: st)) : zt p l e R s m args below meth c nL A D cells slots Q w lv pc st := by
  subst hn; exact fun H locs ls hP hS hl => lv_ldcw C.1.1 C.1.2.1 C.1.2.2.2.1 (C.1.2.2.2.2 _ hc) hd (K H locs ls hP hS hl)
theorem z_iadd (C : zC p R s m args meth c cc nL own Ts D T fr lc cells slots) {x y : Int32} (hd : decode cc pc = .ok (.iadd, 1)) (n : Nat) (hn : pc + 1 = n) (K : zt p l e R s m args below meth c nL A D cells slots Q w lv n (.int (x + y) :: st)) : zt p l e R s m args below meth c nL A D cells slots Q w lv pc (.int y :: .int x :: st) := by
  subst hn; exact fun H locs ls hP hS hl => lv_iadd C.1.1 C.1.2.1 hd (K H locs ls hP hS hl)
theorem z_isub (C : zC p R s m args meth c cc nL own Ts D T fr lc cells slots) {x y : Int32} (hd : decode cc pc = .ok (.isub, 1)) (n : Nat) (hn : pc + 1 = n) (K : zt p l e R s m args below meth c nL A D cells slots Q w lv n (.int (x - y) :: st)) : zt p l e R s m args below meth c nL A D cells slots Q w lv pc (.int y :: .int x :: st) := by
  subst hn; exact fun H locs ls hP hS hl => lv_isub C.1.1 C.1.2.1 hd (K H locs ls hP hS hl)
theorem z_imul (C : zC p R s m args meth c cc nL own Ts D T fr lc cells slots) {x y : Int32} (hd : decode cc pc = .ok (.imul, 1)) (n : Nat) (hn : pc + 1 = n) (K : zt p l e R s m args below meth c nL A D cells slots Q w lv n (.int (x * y) :: st)) : zt p l e R s m args below meth c nL A D cells slots Q w lv pc (.int y :: .int x :: st) := by
  subst hn; exact fun H locs ls hP hS hl => lv_imul C.1.1 C.1.2.1 hd (K H locs ls hP hS hl)
theorem z_iand (C : zC p R s m args meth c cc nL own Ts D T fr lc cells slots) {x y : Int32} (hd : decode cc pc = .ok (.iand, 1)) (n : Nat) (hn : pc + 1 = n) (K : zt p l e R s m args below meth c nL A D cells slots Q w lv n (.int (x &&& y) :: st)) : zt p l e R s m args below meth c nL A D cells slots Q w lv pc (.int y :: .int x :: st) := by
  subst hn; exact fun H locs ls hP hS hl => lv_iand C.1.1 C.1.2.1 hd (K H locs ls hP hS hl)
theorem z_ior (C : zC p R s m args meth c cc nL own Ts D T fr lc cells slots) {x y : Int32} (hd : decode cc pc = .ok (.ior, 1)) (n : Nat) (hn : pc + 1 = n) (K : zt p l e R s m args below meth c nL A D cells slots Q w lv n (.int (x ||| y) :: st)) : zt p l e R s m args below meth c nL A D cells slots Q w lv pc (.int y :: .int x :: st) := by
  subst hn; exact fun H locs ls hP hS hl => lv_ior C.1.1 C.1.2.1 hd (K H locs ls hP hS hl)
theorem z_ixor (C : zC p R s m args meth c cc nL own Ts D T fr lc cells slots) {x y : Int32} (hd : decode cc pc = .ok (.ixor, 1)) (n : Nat) (hn : pc + 1 = n) (K : zt p l e R s m args below meth c nL A D cells slots Q w lv n (.int (x ^^^ y) :: st)) : zt p l e R s m args below meth c nL A D cells slots Q w lv pc (.int y :: .int x :: st) := by
  subst hn; exact fun H locs ls hP hS hl => lv_ixor C.1.1 C.1.2.1 hd (K H locs ls hP hS hl)
theorem z_ishl (C : zC p R s m args meth c cc nL own Ts D T fr lc cells slots) {x y : Int32} (hd : decode cc pc = .ok (.ishl, 1)) (n : Nat) (hn : pc + 1 = n) (K : zt p l e R s m args below meth c nL A D cells slots Q w lv n (.int (x <<< (y &&& 31)) :: st)) : zt p l e R s m args below meth c nL A D cells slots Q w lv pc (.int y :: .int x :: st) := by
  subst hn; exact fun H locs ls hP hS hl => lv_ishl C.1.1 C.1.2.1 hd (K H locs ls hP hS hl)
theorem z_ishr (C : zC p R s m args meth c cc nL own Ts D T fr lc cells slots) {x y : Int32} (hd : decode cc pc = .ok (.ishr, 1)) (n : Nat) (hn : pc + 1 = n) (K : zt p l e R s m args below meth c nL A D cells slots Q w lv n (.int (x >>> (y &&& 31)) :: st)) : zt p l e R s m args below meth c nL A D cells slots Q w lv pc (.int y :: .int x :: st) := by
  subst hn; exact fun H locs ls hP hS hl => lv_ishr C.1.1 C.1.2.1 hd (K H locs ls hP hS hl)
theorem z_iushr (C : zC p R s m args meth c cc nL own Ts D T fr lc cells slots) {x y : Int32} (hd : decode cc pc = .ok (.iushr, 1)) (n : Nat) (hn : pc + 1 = n) (K : zt p l e R s m args below meth c nL A D cells slots Q w lv n (.int (x.toUInt32 >>> (y.toUInt32 &&& Int32.toUInt32 31)).toInt32 :: st)) : zt p l e R s m args below meth c nL A D cells slots Q w lv pc (.int y :: .int x :: st) := by
  subst hn; exact fun H locs ls hP hS hl => lv_iushr C.1.1 C.1.2.1 hd rfl (K H locs ls hP hS hl)
theorem z_irem (C : zC p R s m args meth c cc nL own Ts D T fr lc cells slots) {β : Type} {ex : β} {X : Option β} {x y : Int32} (hd : decode cc pc = .ok (.irem, 1)) (n : Nat) (hn : pc + 1 = n) (h : znz y X = some ex) (K : X = some ex → zt p l e R s m args below meth c nL A D cells slots Q w lv n (.int (x - x / y * y) :: st)) : zt p l e R s m args below meth c nL A D cells slots Q w lv pc (.int y :: .int x :: st) := by
  subst hn; exact fun H locs ls hP hS hl => lv_irem C.1.1 C.1.2.1 hd (znz_some h).1 (K (znz_some h).2 H locs ls hP hS hl)
theorem z_ineg (C : zC p R s m args meth c cc nL own Ts D T fr lc cells slots) {x : Int32} (hd : decode cc pc = .ok (.ineg, 1)) (n : Nat) (hn : pc + 1 = n) (K : zt p l e R s m args below meth c nL A D cells slots Q w lv n (.int (-x) :: st)) : zt p l e R s m args below meth c nL A D cells slots Q w lv pc (.int x :: st) := by
  subst hn; exact fun H locs ls hP hS hl => lv_ineg C.1.1 C.1.2.1 hd (K H locs ls hP hS hl)
theorem z_i2b (C : zC p R s m args meth c cc nL own Ts D T fr lc cells slots) {x : Int32} (hd : decode cc pc = .ok (.i2b, 1)) (n : Nat) (hn : pc + 1 = n) (K : zt p l e R s m args below meth c nL A D cells slots Q w lv n (.int x.toInt8.toInt32 :: st)) : zt p l e R s m args below meth c nL A D cells slots Q w lv pc (.int x :: st) := by
  subst hn; exact fun H locs ls hP hS hl => lv_i2b C.1.1 C.1.2.1 hd rfl (K H locs ls hP hS hl)
theorem z_dup (C : zC p R s m args meth c cc nL own Ts D T fr lc cells slots) {va : Value} (hd : decode cc pc = .ok (.dup, 1)) (hva : va.category = 1) (n : Nat) (hn : pc + 1 = n) (K : zt p l e R s m args below meth c nL A D cells slots Q w lv n (va :: va :: st)) : zt p l e R s m args below meth c nL A D cells slots Q w lv pc (va :: st) := by
  subst hn; exact fun H locs ls hP hS hl => lv_dup C.1.1 C.1.2.1 hd hva (K H locs ls hP hS hl)
theorem z_dup2 (C : zC p R s m args meth c cc nL own Ts D T fr lc cells slots) {va vb : Value} (hd : decode cc pc = .ok (.dup2, 1)) (hva : va.category = 1) (hvb : vb.category = 1) (n : Nat) (hn : pc + 1 = n) (K : zt p l e R s m args below meth c nL A D cells slots Q w lv n (va :: vb :: va :: vb :: st)) : zt p l e R s m args below meth c nL A D cells slots Q w lv pc (va :: vb :: st) := by
  subst hn; exact fun H locs ls hP hS hl => lv_dup2_11 C.1.1 C.1.2.1 hd hva hvb (K H locs ls hP hS hl)
theorem z_pop (C : zC p R s m args meth c cc nL own Ts D T fr lc cells slots) {va : Value} (hd : decode cc pc = .ok (.pop, 1)) (hva : va.category = 1) (n : Nat) (hn : pc + 1 = n) (K : zt p l e R s m args below meth c nL A D cells slots Q w lv n st) : zt p l e R s m args below meth c nL A D cells slots Q w lv pc (va :: st) := by
  subst hn; exact fun H locs ls hP hS hl => lv_pop C.1.1 C.1.2.1 hd hva (K H locs ls hP hS hl)
/-- a store to a local: the value gets a name, where the function gives it one -/
theorem z_istore_n (C : zC p R s m args meth c cc nL own Ts D T fr lc cells slots) {k : Fin 4} {i : Nat} {x : Int32} (lv' : List (Nat × Value)) (hd : decode cc pc = .ok (.istore_n k, 1)) (hi : (k : Nat) = i) (hl0 : i < nL) (ks : List Nat) (hk : lv_pick ((i, Value.int x) :: lv.filter (fun q => !(q.1 == i) && !(q.1 + 1 == i && q.2.category == 2))) ks = lv') (n : Nat) (hn : pc + 1 = n) (K : zt p l e R s m args below meth c nL A D cells slots Q w lv' n st) : zt p l e R s m args below meth c nL A D cells slots Q w lv pc (.int x :: st) := by
  subst hn; exact fun H locs ls hP hS hl => lv_istore_n C.1.1 C.1.2.1 hd hi hl hl0 rfl (fun ls2 hl2 => K H locs ls2 hP hS (lv_sub hl2 ks hk))
theorem z_istore (C : zC p R s m args meth c cc nL own Ts D T fr lc cells slots) {i : Nat} {x : Int32} (lv' : List (Nat × Value)) (hd : decode cc pc = .ok (.istore i, 2)) (hl0 : i < nL) (ks : List Nat) (hk : lv_pick ((i, Value.int x) :: lv.filter (fun q => !(q.1 == i) && !(q.1 + 1 == i && q.2.category == 2))) ks = lv') (n : Nat) (hn : pc + 2 = n) (K : zt p l e R s m args below meth c nL A D cells slots Q w lv' n st) : zt p l e R s m args below meth c nL A D cells slots Q w lv pc (.int x :: st) := by
  subst hn; exact fun H locs ls hP hS hl => lv_istore C.1.1 C.1.2.1 hd hl hl0 rfl (fun ls2 hl2 => K H locs ls2 hP hS (lv_sub hl2 ks hk))
theorem z_astore_n (C : zC p R s m args meth c cc nL own Ts D T fr lc cells slots) {k : Fin 4} {i x : Nat} (lv' : List (Nat × Value)) (hd : decode cc pc = .ok (.astore_n k, 1)) (hi : (k : Nat) = i) (hl0 : i < nL) (ks : List Nat) (hk : lv_pick ((i, Value.ref x) :: lv.filter (fun q => !(q.1 == i) && !(q.1 + 1 == i && q.2.category == 2))) ks = lv') (n : Nat) (hn : pc + 1 = n) (K : zt p l e R s m args below meth c nL A D cells slots Q w lv' n st) : zt p l e R s m args below meth c nL A D cells slots Q w lv pc (.ref x :: st) := by
  subst hn; exact fun H locs ls hP hS hl => lv_astore_n C.1.1 C.1.2.1 hd hi hl hl0 rfl (fun ls2 hl2 => K H locs ls2 hP hS (lv_sub hl2 ks hk))
theorem z_astore (C : zC p R s m args meth c cc nL own Ts D T fr lc cells slots) {i x : Nat} (lv' : List (Nat × Value)) (hd : decode cc pc = .ok (.astore i, 2)) (hl0 : i < nL) (ks : List Nat) (hk : lv_pick ((i, Value.ref x) :: lv.filter (fun q => !(q.1 == i) && !(q.1 + 1 == i && q.2.category == 2))) ks = lv') (n : Nat) (hn : pc + 2 = n) (K : zt p l e R s m args below meth c nL A D cells slots Q w lv' n st) : zt p l e R s m args below meth c nL A D cells slots Q w lv pc (.ref x :: st) := by
  subst hn; exact fun H locs ls hP hS hl => lv_astore C.1.1 C.1.2.1 hd hl hl0 rfl (fun ls2 hl2 => K H locs ls2 hP hS (lv_sub hl2 ks hk))
theorem z_iinc (C : zC p R s m args meth c cc nL own Ts D T fr lc cells slots) {i : Nat} {z : Int} {x : Int32} (v : Int32) (lv' : List (Nat × Value)) (hd : decode cc pc = .ok (.iinc i z, 3)) (q : Nat) (hq : lv[q]? = some (i, .int x)) (hv : x + Int32.ofInt z = v) (hl0 : i < nL) (ks : List Nat) (hk : lv_pick ((i, Value.int v) :: lv.filter (fun q => !(q.1 == i) && !(q.1 + 1 == i && q.2.category == 2))) ks = lv') (n : Nat) (hn : pc + 3 = n) (K : zt p l e R s m args below meth c nL A D cells slots Q w lv' n st) : zt p l e R s m args below meth c nL A D cells slots Q w lv pc st := by
  subst hn; exact fun H locs ls hP hS hl => lv_iinc C.1.1 C.1.2.1 hd hl (k := q) hq hv hl0 rfl (fun ls2 hl2 => K H locs ls2 hP hS (lv_sub hl2 ks hk))
theorem z_top {β : Type} {ex : β} {v : Int32} {F : Int32 → Option β} (h : zlet v F = some ex) (K : ∀ x, F x = some ex → zt p l e R s m args below meth c nL A D cells slots Q w lv pc (.int x :: st)) : zt p l e R s m args below meth c nL A D cells slots Q w lv pc (.int v :: st) := K v h
theorem z_goto (C : zC p R s m args meth c cc nL own Ts D T fr lc cells slots) {off : Int} (tgt : Nat) (hd : decode cc pc = .ok (.goto off, 3)) (ht : (pc : Int) + off = (tgt : Int)) (K : zt p l e R s m args below meth c nL A D cells slots Q w lv tgt st) : zt p l e R s m args below meth c nL A D cells slots Q w lv pc st :=
  fun H locs ls hP hS hl => lv_goto C.1.1 C.1.2.1 hd ht (K H locs ls hP hS hl)
section IF
variable {β : Type} {ex : β} {X Y : Option β} {x y : Int32} {off : Int} {n : Nat}
theorem z_pos {P : Prop} [Decidable P] {z : Option β} (hc : P) (h : (if P then X else Y) = z) : X = z := by rw [if_pos hc] at h; exact h
theorem z_neg {P : Prop} [Decidable P] {z : Option β} (hc : ¬ P) (h : (if P then X else Y) = z) : Y = z := by rw [if_neg hc] at h; exact h
theorem z_if_eq (C : zC p R s m args meth c cc nL own Ts D T fr lc cells slots) (tgt : Nat) (hd : decode cc pc = .ok (.ifCond .eq off, 3)) (ht : (pc : Int) + off = (tgt : Int)) (n : Nat) (hn : pc + 3 = n) (h : (if x = 0 then X else Y) = some ex) (K1 : X = some ex → zt p l e R s m args below meth c nL A D cells slots Q w lv tgt st) (K2 : Y = some ex → zt p l e R s m args below meth c nL A D cells slots Q w lv n st) : zt p l e R s m args below meth c nL A D cells slots Q w lv pc (.int x :: st) := by
  subst hn; exact fun H locs ls hP hS hl => lv_if_eq C.1.1 C.1.2.1 hd ht (fun hc => K1 (z_pos hc h) H locs ls hP hS hl) (fun hc => K2 (z_neg hc h) H locs ls hP hS hl)
theorem z_if_ne (C : zC p R s m args meth c cc nL own Ts D T fr lc cells slots) (tgt : Nat) (hd : decode cc pc = .ok (.ifCond .ne off, 3)) (ht : (pc : Int) + off = (tgt : Int)) (n : Nat) (hn : pc + 3 = n) (h : (if x = 0 then Y else X) = some ex) (K1 : X = some ex → zt p l e R s m args below meth c nL A D cells slots Q w lv tgt st) (K2 : Y = some ex → zt p l e R s m args below meth c nL A D cells slots Q w lv n st) : zt p l e R s m args below meth c nL A D cells slots Q w lv pc (.int x :: st) := by
  subst hn; exact fun H locs ls hP hS hl => lv_if_ne C.1.1 C.1.2.1 hd ht (fun hc => K1 (z_neg hc h) H locs ls hP hS hl) (fun hc => K2 (z_pos hc h) H locs ls hP hS hl)
theorem z_if_lt (C : zC p R s m args meth c cc nL own Ts D T fr lc cells slots) (tgt : Nat) (hd : decode cc pc = .ok (.ifCond .lt off, 3)) (ht : (pc : Int) + off = (tgt : Int)) (n : Nat) (hn : pc + 3 = n) (h : (if x < 0 then X else Y) = some ex) (K1 : X = some ex → zt p l e R s m args below meth c nL A D cells slots Q w lv tgt st) (K2 : Y = some ex → zt p l e R s m args below meth c nL A D cells slots Q w lv n st) : zt p l e R s m args below meth c nL A D cells slots Q w lv pc (.int x :: st) := by
  subst hn; exact fun H locs ls hP hS hl => lv_if_lt C.1.1 C.1.2.1 hd ht (fun hc => K1 (z_pos hc h) H locs ls hP hS hl) (fun hc => K2 (z_neg hc h) H locs ls hP hS hl)
theorem z_if_ge (C : zC p R s m args meth c cc nL own Ts D T fr lc cells slots) (tgt : Nat) (hd : decode cc pc = .ok (.ifCond .ge off, 3)) (ht : (pc : Int) + off = (tgt : Int)) (n : Nat) (hn : pc + 3 = n) (h : (if 0 ≤ x then X else Y) = some ex) (K1 : X = some ex → zt p l e R s m args below meth c nL A D cells slots Q w lv tgt st) (K2 : Y = some ex → zt p l e R s m args below meth c nL A D cells slots Q w lv n st) : zt p l e R s m args below meth c nL A D cells slots Q w lv pc (.int x :: st) := by
  subst hn; exact fun H locs ls hP hS hl => lv_if_ge C.1.1 C.1.2.1 hd ht (fun hc => K1 (z_pos hc h) H locs ls hP hS hl) (fun hc => K2 (z_neg hc h) H locs ls hP hS hl)
theorem z_if_gt (C : zC p R s m args meth c cc nL own Ts D T fr lc cells slots) (tgt : Nat) (hd : decode cc pc = .ok (.ifCond .gt off, 3)) (ht : (pc : Int) + off = (tgt : Int)) (n : Nat) (hn : pc + 3 = n) (h : (if 0 < x then X else Y) = some ex) (K1 : X = some ex → zt p l e R s m args below meth c nL A D cells slots Q w lv tgt st) (K2 : Y = some ex → zt p l e R s m args below meth c nL A D cells slots Q w lv n st) : zt p l e R s m args below meth c nL A D cells slots Q w lv pc (.int x :: st) := by
  subst hn; exact fun H locs ls hP hS hl => lv_if_gt C.1.1 C.1.2.1 hd ht (fun hc => K1 (z_pos hc h) H locs ls hP hS hl) (fun hc => K2 (z_neg hc h) H locs ls hP hS hl)
theorem z_if_le (C : zC p R s m args meth c cc nL own Ts D T fr lc cells slots) (tgt : Nat) (hd : decode cc pc = .ok (.ifCond .le off, 3)) (ht : (pc : Int) + off = (tgt : Int)) (n : Nat) (hn : pc + 3 = n) (h : (if x ≤ 0 then X else Y) = some ex) (K1 : X = some ex → zt p l e R s m args below meth c nL A D cells slots Q w lv tgt st) (K2 : Y = some ex → zt p l e R s m args below meth c nL A D cells slots Q w lv n st) : zt p l e R s m args below meth c nL A D cells slots Q w lv pc (.int x :: st) := by
  subst hn; exact fun H locs ls hP hS hl => lv_if_le C.1.1 C.1.2.1 hd ht (fun hc => K1 (z_pos hc h) H locs ls hP hS hl) (fun hc => K2 (z_neg hc h) H locs ls hP hS hl)
theorem z_icmp_eq (C : zC p R s m args meth c cc nL own Ts D T fr lc cells slots) (tgt : Nat) (hd : decode cc pc = .ok (.if_icmp .eq off, 3)) (ht : (pc : Int) + off = (tgt : Int)) (n : Nat) (hn : pc + 3 = n) (h : (if x = y then X else Y) = some ex) (K1 : X = some ex → zt p l e R s m args below meth c nL A D cells slots Q w lv tgt st) (K2 : Y = some ex → zt p l e R s m args below meth c nL A D cells slots Q w lv n st) : zt p l e R s m args below meth c nL A D cells slots Q w lv pc (.int y :: .int x :: st) := by
  subst hn; exact fun H locs ls hP hS hl => lv_icmp_eq C.1.1 C.1.2.1 hd ht (fun hc => K1 (z_pos hc h) H locs ls hP hS hl) (fun hc => K2 (z_neg hc h) H locs ls hP hS hl)
theorem z_icmp_ne (C : zC p R s m args meth c cc nL own Ts D T fr lc cells slots) (tgt : Nat) (hd : decode cc pc = .ok (.if_icmp .ne off, 3)) (ht : (pc : Int) + off = (tgt : Int)) (n : Nat) (hn : pc + 3 = n) (h : (if x = y then Y else X) = some ex) (K1 : X = some ex → zt p l e R s m args below meth c nL A D cells slots Q w lv tgt st) (K2 : Y = some ex → zt p l e R s m args below meth c nL A D cells slots Q w lv n st) : zt p l e R s m args below meth c nL A D cells slots Q w lv pc (.int y :: .int x :: st) := by
  subst hn; exact fun H locs ls hP hS hl => lv_icmp_ne C.1.1 C.1.2.1 hd ht (fun hc => K1 (z_neg hc h) H locs ls hP hS hl) (fun hc => K2 (z_pos hc h) H locs ls hP hS hl)
theorem z_icmp_lt (C : zC p R s m args meth c cc nL own Ts D T fr lc cells slots) (tgt : Nat) (hd : decode cc pc = .ok (.if_icmp .lt off, 3)) (ht : (pc : Int) + off = (tgt : Int)) (n : Nat) (hn : pc + 3 = n) (h : (if x < y then X else Y) = some ex) (K1 : X = some ex → zt p l e R s m args below meth c nL A D cells slots Q w lv tgt st) (K2 : Y = some ex → zt p l e R s m args below meth c nL A D cells slots Q w lv n st) : zt p l e R s m args below meth c nL A D cells slots Q w lv pc (.int y :: .int x :: st) := by
  subst hn; exact fun H locs ls hP hS hl => lv_icmp_lt C.1.1 C.1.2.1 hd ht (fun hc => K1 (z_pos hc h) H locs ls hP hS hl) (fun hc => K2 (z_neg hc h) H locs ls hP hS hl)
theorem z_icmp_ge (C : zC p R s m args meth c cc nL own Ts D T fr lc cells slots) (tgt : Nat) (hd : decode cc pc = .ok (.if_icmp .ge off, 3)) (ht : (pc : Int) + off = (tgt : Int)) (n : Nat) (hn : pc + 3 = n) (h : (if y ≤ x then X else Y) = some ex) (K1 : X = some ex → zt p l e R s m args below meth c nL A D cells slots Q w lv tgt st) (K2 : Y = some ex → zt p l e R s m args below meth c nL A D cells slots Q w lv n st) : zt p l e R s m args below meth c nL A D cells slots Q w lv pc (.int y :: .int x :: st) := by
  subst hn; exact fun H locs ls hP hS hl => lv_icmp_ge C.1.1 C.1.2.1 hd ht (fun hc => K1 (z_pos hc h) H locs ls hP hS hl) (fun hc => K2 (z_neg hc h) H locs ls hP hS hl)
theorem z_icmp_gt (C : zC p R s m args meth c cc nL own Ts D T fr lc cells slots) (tgt : Nat) (hd : decode cc pc = .ok (.if_icmp .gt off, 3)) (ht : (pc : Int) + off = (tgt : Int)) (n : Nat) (hn : pc + 3 = n) (h : (if y < x then X else Y) = some ex) (K1 : X = some ex → zt p l e R s m args below meth c nL A D cells slots Q w lv tgt st) (K2 : Y = some ex → zt p l e R s m args below meth c nL A D cells slots Q w lv n st) : zt p l e R s m args below meth c nL A D cells slots Q w lv pc (.int y :: .int x :: st) := by
  subst hn; exact fun H locs ls hP hS hl => lv_icmp_gt C.1.1 C.1.2.1 hd ht (fun hc => K1 (z_pos hc h) H locs ls hP hS hl) (fun hc => K2 (z_neg hc h) H locs ls hP hS hl)
theorem z_icmp_le (C : zC p R s m args meth c cc nL own Ts D T fr lc cells slots) (tgt : Nat) (hd : decode cc pc = .ok (.if_icmp .le off, 3)) (ht : (pc : Int) + off = (tgt : Int)) (n : Nat) (hn : pc + 3 = n) (h : (if x ≤ y then X else Y) = some ex) (K1 : X = some ex → zt p l e R s m args below meth c nL A D cells slots Q w lv tgt st) (K2 : Y = some ex → zt p l e R s m args below meth c nL A D cells slots Q w lv n st) : zt p l e R s m args below meth c nL A D cells slots Q w lv pc (.int y :: .int x :: st) := by
  subst hn; exact fun H locs ls hP hS hl => lv_icmp_le C.1.1 C.1.2.1 hd ht (fun hc => K1 (z_pos hc h) H locs ls hP hS hl) (fun hc => K2 (z_neg hc h) H locs ls hP hS hl)
end IF
end ZR
