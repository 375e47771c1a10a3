/-! PURE WORLDS. A heap is a function from addresses to cells (HP); every cell that the law's run makes lies at eB E or above; what lies below is never written. PW: from here the method comes to its end. PM: a method's contract. -/
abbrev PE : Type := (Nat × vp_A) ⊕ (Nat × List Value)
abbrev HP : Type := Nat → Option PE
abbrev EV : Type := Launch × Nat × va_G × (Nat → ClassId) × (Nat → Nat)
abbrev eL (E : EV) : Launch := E.1
abbrev eB (E : EV) : Nat := E.2.1
abbrev eD (E : EV) : va_G := E.2.2.1
abbrev eK (E : EV) : Nat → ClassId := E.2.2.2.1
abbrev eX (E : EV) : Nat → Nat := E.2.2.2.2
abbrev vwCl : List vw_C := [(RX0, TX0, 2), (RX1, TX1, 2), (RX2, TX2, 4), (RX3, TX3, 2), (RX4, TX4, 5), (RX5, TX5, 4), (RX6, TX6, 2), (RX7, TX7, 12), (RX8, TX8, 24)]
def cvE (cK : Nat → ClassId) : PE → va_E
  | .inl a => .inl (cK a.1, a.2)
  | .inr o => .inr o
def pws (E : EV) (h : HP) (n : Nat) : va_W := (List.range (n - eB E)).map fun i => (eB E + i, cvE (eK E) ((h (eB E + i)).getD (.inr (0, []))))
abbrev pty (E : EV) : List (ClassId × FieldType) := [(eK E 0, .int), (eK E 1, .long), (eK E 2, .boolean), (eK E 3, .object RX3)]
abbrev pA (E : EV) : Nat → Prop := fun q => eB E ≤ q
def pR (E : EV) (h : HP) (n : Nat) (H : Heap) : Prop := H.size = n ∧ eB E ≤ n ∧ (∀ a, (∃ e, h a = some e) ↔ eB E ≤ a ∧ a < n) ∧ va_P (eD E) vwCl (pws E h n) H
def isNest : Cond → Bool
  | .methodLinkNest _ _ _ _ => true
  | .fieldLinkNest _ _ _ _ _ _ => true
  | _ => false
def tbl : List Cond := lw_tbl.filter goodWord
def nst : List Cond := lw_tbl.filter isNest
def fAT : Nat → Int32 := fun j => ([12, 1, 0, 50, 80] : List Int32).getD j 0
def fLE : Nat → Int32 := fun j => ([2, 0, 0, 0, 0] : List Int32).getD j 0
def fMO : Nat → Int32 := fun j => ([12, 6, 99, 99, 99] : List Int32).getD j 0
def kLen : List Nat := [4, 3, 4, 4, 5]
def kByt : List (List Int32) := [[104, 111, 108, 100], [102, 97, 114], [119, 101, 97, 107], [116, 97, 107, 101], [115, 116, 97, 110, 100]]
/-- what the tables say, of any state that is as warm -/
def pK (E : EV) (U : State) : Prop := va_K (eD E) vwCl (pty E) U ∧ (∀ w ∈ nst, va_Nw w U) ∧ va_AO RX3 U ∧ va_Nw (.castable "[I" "java/lang/Cloneable") U ∧ vk_R RX1 76 "hold" (eX E 10) U ∧ vk_R RX1 78 "far" (eX E 11) U ∧ vk_R RX1 80 "weak" (eX E 12) U ∧ vk_R RX1 82 "take" (eX E 13) U ∧ vk_R RX1 84 "stand" (eX E 14) U
/-- what lies below eB E and is read -/
def pF (E : EV) (U : State) (H : Heap) : Prop :=
  (va_Z RX7 "AT_FIRST" "[I" (.ref (eX E 0)) (pA E) U H ∧ va_X (eX E 0) 5 fAT U H ∧ ¬ pA E (eX E 0)) ∧
  (va_Z RX7 "LEAST" "[I" (.ref (eX E 1)) (pA E) U H ∧ va_X (eX E 1) 5 fLE U H ∧ ¬ pA E (eX E 1)) ∧
  (va_Z RX7 "MOST" "[I" (.ref (eX E 2)) (pA E) U H ∧ va_X (eX E 2) 5 fMO U H ∧ ¬ pA E (eX E 2)) ∧
  (va_Z RJ0 "COMPACT_STRINGS" "Z" (.int 1) (pA E) U H ∧ va_Zq RJ3 "SIOOBE_FORMATTER" "Ljava/util/function/BiFunction;" (pA E) U H) ∧ vk_S 5 kLen kByt (fun i => eX E (10 + i)) (fun i => eX E (20 + i)) (pA E) U H ∧ eB E ≤ H.size
theorem va_X_lt {b L : Nat} {xs : Nat → Int32} {U : State} {H : Heap} (h : va_X b L xs U H) : b < H.size := by
  obtain ⟨scr, h1, -⟩ := h
  exact (Array.getElem?_eq_some_iff.mp h1).1
theorem pF.kept {E : EV} {U : State} {H H1 : Heap} (h : pF E U H) (hz : H.size ≤ H1.size) (hq : ∀ a : Nat, a < H.size → ¬ pA E a → H1[a]? = H[a]?) : pF E U H1 := by
  obtain ⟨⟨a1, a2, a3⟩, ⟨b1, b2, b3⟩, ⟨c1, c2, c3⟩, ⟨d, dq⟩, k, z⟩ := h
  exact ⟨⟨a1.kept hq, a2.kept (hq _ (va_X_lt a2) a3), a3⟩, ⟨b1.kept hq, b2.kept (hq _ (va_X_lt b2) b3), b3⟩, ⟨c1.kept hq, c2.kept (hq _ (va_X_lt c2) c3), c3⟩, ⟨d.kept hq, dq.kept hq⟩, k.kept hq, Nat.le_trans z hz⟩
theorem pF.moved {E : EV} {u U : State} {H : Heap} (hvm : u.vm.Alike U.vm) (h : pF E u H) : pF E U H := by
  obtain ⟨⟨a1, a2, a3⟩, ⟨b1, b2, b3⟩, ⟨c1, c2, c3⟩, ⟨d, dq⟩, k, z⟩ := h
  exact ⟨⟨va_Z.moved hvm a1, a2.moved hvm, a3⟩, ⟨va_Z.moved hvm b1, b2.moved hvm, b3⟩, ⟨va_Z.moved hvm c1, c2.moved hvm, c3⟩, ⟨va_Z.moved hvm d, va_Zq.moved hvm dq⟩, vk_S.moved hvm k, z⟩
theorem nst_warm {w : Cond} (hw : w ∈ nst) {s U : State} (hW : s.WarmedH U.vm) (h : va_Nw w s) : va_Nw w U := by
  have h2 := (List.mem_filter.mp hw).2
  cases w <;> first | exact va_Nw.warmM hW h | exact va_Nw.warmF hW h | (simp [isNest] at h2)
theorem pK.warm {E : EV} {s U : State} (hW : s.WarmedH U.vm) (h : pK E s) : pK E U := by
  obtain ⟨a, b, c, d, e1, e2, e3, e4, e5⟩ := h
  exact ⟨va_K.moved hW.alike a, fun w hw => nst_warm hw hW (b w hw), va_AO.moved hW.alike c, va_Nw.warmC hW d, e1.warm hW, e2.warm hW, e3.warm hW, e4.warm hW, e5.warm hW⟩
theorem pK.same {E : EV} {s U : State} (hv : s.vm = U.vm) (h : pK E s) : pK E U := by
  obtain ⟨a, b, c, d, e1, e2, e3, e4, e5⟩ := h
  have hal : s.vm.Alike U.vm := hv ▸ Vm.Alike.refl s.vm
  refine ⟨va_K.moved hal a, fun w hw => ?_, va_AO.moved hal c, va_Nw.same rfl hv d, e1.same hv.symm, e2.same hv.symm, e3.same hv.symm, e4.same hv.symm, e5.same hv.symm⟩
  have h2 := (List.mem_filter.mp hw).2
  cases w <;> first | exact va_Nw.same rfl hv (b _ hw) | (simp [isNest] at h2)
-- ---- methods
abbrev MR : Type := MethodName × ByteArray × Nat × Option FieldType × Nat × Nat
abbrev mY (M : MR) : MethodName := M.1
abbrev mC (M : MR) : ByteArray := M.2.1
abbrev mL (M : MR) : Nat := M.2.2.1
abbrev mT (M : MR) : Option FieldType := M.2.2.2.1
abbrev mFr (M : MR) : Nat := M.2.2.2.2.1
abbrev mLo (M : MR) : Nat := M.2.2.2.2.2
def mW (M : MR) : List Cond := .code (mY M) (mC M) (mL M) (mT M) :: tbl
def pPc (E : EV) (h : HP) (n : Nat) : State → Prop := fun U => pK E U ∧ pF E U U.heap ∧ pR E h n U.heap
def pQc (E : EV) (n' : Nat) (Q : Option Value → HP → Prop) : Array Value → State → Outcome → State → Prop := fun _ st o t => (∃ (v : Option Value) (h' : HP), o = .returned v ∧ Q v h' ∧ pR E h' n' t.heap) ∧ va_F (pA E) st t
def PM (E : EV) (M : MR) (args : List Value) (h : HP) (n n' ms : Nat) (Q : Option Value → HP → Prop) : Prop := n ≤ n' → Met (eL E) (mY M) (mW M) ({ frames := mFr M, cells := n' - n, slots := ms, locals := mLo M }) (va_Pc args (pPc E h n)) (pQc E n' Q) (n' - n) ms (pA E)
def pL (lsA : Array Slot) (nL : Nat) (ls : List Value) : Prop := lsA.size = nL ∧ lv_wf lsA ∧ ∀ (i : Nat) (v : Value), ls[i]? = some v → v ≠ .null → lsA[i]? = some (.val v)
def pCX (E : EV) (M : MR) (p : Program) (s : State) (m : MethodId) (args : Array Value) (meth : Method) (c : Code) : Prop :=
  p.tables.exec = Jvm.exec ∧ c.code = mC M ∧ meth.sig.returnType = mT M ∧ c.maxLocals = mL M ∧ s.vm.findClass (mY M).cls = some m.cls ∧ meth.locks = false ∧ meth.name = (mY M).name ∧ (∀ w ∈ tbl, w.before args s = true) ∧ pK E s ∧ pF E s s.heap
abbrev MX : Type := EV × MR × (Array Value → State → Prop) × (List Frame → Array Value → State → Nat → Nat → State → Prop) × Nat
def PW (K : MX) (pc : Nat) (ls st : List Value) (h : HP) (n ms : Nat) : Prop :=
  ∀ (p : Program) (e : Env) (s : State) (m : MethodId) (args : Array Value) (below : List Frame) (meth : Method) (c : Code), pCX K.1 K.2.1 p s m args meth c → K.2.2.1 args s →
  ∀ (R : Room), R.frames = mFr K.2.1 → R.locals = mLo K.2.1 → ∀ (H : Heap) (locs : List Loc) (lsA : Array Slot) (cells slots : Nat), va_S (pA K.1) s.heap H locs → pR K.1 h n H → pL lsA (mL K.2.1) ls → (n = s.heap.size + cells ∧ n ≤ K.2.2.2.2 ∧ cells + (K.2.2.2.2 - n) = R.cells ∧ slots + ms = R.slots) →
  W p (eL K.1) e R s m args below meth c H locs cells slots (K.2.2.2.1 below args s R.cells R.slots) (F0 m pc lsA st)
section PWR
variable {K : MX} {pc : Nat} {ls st : List Value} {h : HP} {n ms : Nat}

theorem pw_iadd {x y : Int32} (d : decode (mC K.2.1) pc = .ok (.iadd, 1)) (k : PW K (pc + 1) ls (.int (x + y) :: st) h n ms) : PW K pc ls (.int y :: .int x :: st) h n ms := by
  intro p e s m args below meth c X Y R r1 r2 H locs lsA cells slots hS hR hL hn
  exact lv_iadd X.1 X.2.1 d (k p e s m args below meth c X Y R r1 r2 H locs lsA cells slots hS hR hL hn)
theorem pw_isub {x y : Int32} (d : decode (mC K.2.1) pc = .ok (.isub, 1)) (k : PW K (pc + 1) ls (.int (x - y) :: st) h n ms) : PW K pc ls (.int y :: .int x :: st) h n ms := by
  intro p e s m args below meth c X Y R r1 r2 H locs lsA cells slots hS hR hL hn
  exact lv_isub X.1 X.2.1 d (k p e s m args below meth c X Y R r1 r2 H locs lsA cells slots hS hR hL hn)
theorem pw_imul {x y : Int32} (d : decode (mC K.2.1) pc = .ok (.imul, 1)) (k : PW K (pc + 1) ls (.int (x * y) :: st) h n ms) : PW K pc ls (.int y :: .int x :: st) h n ms := by
  intro p e s m args below meth c X Y R r1 r2 H locs lsA cells slots hS hR hL hn
  exact lv_imul X.1 X.2.1 d (k p e s m args below meth c X Y R r1 r2 H locs lsA cells slots hS hR hL hn)
theorem pw_iand {x y : Int32} (d : decode (mC K.2.1) pc = .ok (.iand, 1)) (k : PW K (pc + 1) ls (.int (x &&& y) :: st) h n ms) : PW K pc ls (.int y :: .int x :: st) h n ms := by
  intro p e s m args below meth c X Y R r1 r2 H locs lsA cells slots hS hR hL hn
  exact lv_iand X.1 X.2.1 d (k p e s m args below meth c X Y R r1 r2 H locs lsA cells slots hS hR hL hn)
theorem pw_ior {x y : Int32} (d : decode (mC K.2.1) pc = .ok (.ior, 1)) (k : PW K (pc + 1) ls (.int (x ||| y) :: st) h n ms) : PW K pc ls (.int y :: .int x :: st) h n ms := by
  intro p e s m args below meth c X Y R r1 r2 H locs lsA cells slots hS hR hL hn
  exact lv_ior X.1 X.2.1 d (k p e s m args below meth c X Y R r1 r2 H locs lsA cells slots hS hR hL hn)
theorem pw_ixor {x y : Int32} (d : decode (mC K.2.1) pc = .ok (.ixor, 1)) (k : PW K (pc + 1) ls (.int (x ^^^ y) :: st) h n ms) : PW K pc ls (.int y :: .int x :: st) h n ms := by
  intro p e s m args below meth c X Y R r1 r2 H locs lsA cells slots hS hR hL hn
  exact lv_ixor X.1 X.2.1 d (k p e s m args below meth c X Y R r1 r2 H locs lsA cells slots hS hR hL hn)
theorem pw_ishl {x y : Int32} (d : decode (mC K.2.1) pc = .ok (.ishl, 1)) (k : PW K (pc + 1) ls (.int (x <<< (y &&& 31)) :: st) h n ms) : PW K pc ls (.int y :: .int x :: st) h n ms := by
  intro p e s m args below meth c X Y R r1 r2 H locs lsA cells slots hS hR hL hn
  exact lv_ishl X.1 X.2.1 d (k p e s m args below meth c X Y R r1 r2 H locs lsA cells slots hS hR hL hn)
theorem pw_ishr {x y : Int32} (d : decode (mC K.2.1) pc = .ok (.ishr, 1)) (k : PW K (pc + 1) ls (.int (x >>> (y &&& 31)) :: st) h n ms) : PW K pc ls (.int y :: .int x :: st) h n ms := by
  intro p e s m args below meth c X Y R r1 r2 H locs lsA cells slots hS hR hL hn
  exact lv_ishr X.1 X.2.1 d (k p e s m args below meth c X Y R r1 r2 H locs lsA cells slots hS hR hL hn)
theorem pw_idiv {x y : Int32} (d : decode (mC K.2.1) pc = .ok (.idiv, 1)) (hne : ¬ y = 0) (k : PW K (pc + 1) ls (.int (x / y) :: st) h n ms) : PW K pc ls (.int y :: .int x :: st) h n ms := by
  intro p e s m args below meth c X Y R r1 r2 H locs lsA cells slots hS hR hL hn
  exact lv_idiv X.1 X.2.1 d hne (k p e s m args below meth c X Y R r1 r2 H locs lsA cells slots hS hR hL hn)
theorem pw_iushr {x y : Int32} (d : decode (mC K.2.1) pc = .ok (.iushr, 1)) (k : PW K (pc + 1) ls (.int ((x.toUInt32 >>> (y.toUInt32 &&& Int32.toUInt32 31)).toInt32) :: st) h n ms) : PW K pc ls (.int y :: .int x :: st) h n ms := by
  intro p e s m args below meth c X Y R r1 r2 H locs lsA cells slots hS hR hL hn
  exact lv_iushr X.1 X.2.1 d rfl (k p e s m args below meth c X Y R r1 r2 H locs lsA cells slots hS hR hL hn)
theorem pw_ladd {x y : Int64} (d : decode (mC K.2.1) pc = .ok (.ladd, 1)) (k : PW K (pc + 1) ls (.long (x + y) :: st) h n ms) : PW K pc ls (.long y :: .long x :: st) h n ms := by
  intro p e s m args below meth c X Y R r1 r2 H locs lsA cells slots hS hR hL hn
  exact lv_ladd X.1 X.2.1 d (k p e s m args below meth c X Y R r1 r2 H locs lsA cells slots hS hR hL hn)
theorem pw_lmul {x y : Int64} (d : decode (mC K.2.1) pc = .ok (.lmul, 1)) (k : PW K (pc + 1) ls (.long (x * y) :: st) h n ms) : PW K pc ls (.long y :: .long x :: st) h n ms := by
  intro p e s m args below meth c X Y R r1 r2 H locs lsA cells slots hS hR hL hn
  exact lv_lmul X.1 X.2.1 d (k p e s m args below meth c X Y R r1 r2 H locs lsA cells slots hS hR hL hn)
theorem pw_land {x y : Int64} (d : decode (mC K.2.1) pc = .ok (.land, 1)) (k : PW K (pc + 1) ls (.long (x &&& y) :: st) h n ms) : PW K pc ls (.long y :: .long x :: st) h n ms := by
  intro p e s m args below meth c X Y R r1 r2 H locs lsA cells slots hS hR hL hn
  exact lv_land X.1 X.2.1 d (k p e s m args below meth c X Y R r1 r2 H locs lsA cells slots hS hR hL hn)
theorem pw_lor {x y : Int64} (d : decode (mC K.2.1) pc = .ok (.lor, 1)) (k : PW K (pc + 1) ls (.long (x ||| y) :: st) h n ms) : PW K pc ls (.long y :: .long x :: st) h n ms := by
  intro p e s m args below meth c X Y R r1 r2 H locs lsA cells slots hS hR hL hn
  exact lv_lor X.1 X.2.1 d (k p e s m args below meth c X Y R r1 r2 H locs lsA cells slots hS hR hL hn)
theorem pw_lushr {x : Int64} {y : Int32} (d : decode (mC K.2.1) pc = .ok (.lushr, 1)) (k : PW K (pc + 1) ls (.long ((x.toUInt64 >>> (y.toInt64.toUInt64 &&& Int64.toUInt64 63)).toInt64) :: st) h n ms) : PW K pc ls (.int y :: .long x :: st) h n ms := by
  intro p e s m args below meth c X Y R r1 r2 H locs lsA cells slots hS hR hL hn
  exact lv_lushr X.1 X.2.1 d rfl (k p e s m args below meth c X Y R r1 r2 H locs lsA cells slots hS hR hL hn)
theorem pw_lshl {x : Int64} {y : Int32} (d : decode (mC K.2.1) pc = .ok (.lshl, 1)) (k : PW K (pc + 1) ls (.long (x <<< (y.toInt64 &&& 63)) :: st) h n ms) : PW K pc ls (.int y :: .long x :: st) h n ms := by
  intro p e s m args below meth c X Y R r1 r2 H locs lsA cells slots hS hR hL hn
  exact lv_lshl X.1 X.2.1 d rfl (k p e s m args below meth c X Y R r1 r2 H locs lsA cells slots hS hR hL hn)
theorem pw_lshr {x : Int64} {y : Int32} (d : decode (mC K.2.1) pc = .ok (.lshr, 1)) (k : PW K (pc + 1) ls (.long (x >>> (y.toInt64 &&& 63)) :: st) h n ms) : PW K pc ls (.int y :: .long x :: st) h n ms := by
  intro p e s m args below meth c X Y R r1 r2 H locs lsA cells slots hS hR hL hn
  exact lv_lshr X.1 X.2.1 d rfl (k p e s m args below meth c X Y R r1 r2 H locs lsA cells slots hS hR hL hn)
theorem pw_i2l {x : Int32} (d : decode (mC K.2.1) pc = .ok (.i2l, 1)) (k : PW K (pc + 1) ls (.long x.toInt64 :: st) h n ms) : PW K pc ls (.int x :: st) h n ms := by
  intro p e s m args below meth c X Y R r1 r2 H locs lsA cells slots hS hR hL hn
  exact lv_i2l X.1 X.2.1 d rfl (k p e s m args below meth c X Y R r1 r2 H locs lsA cells slots hS hR hL hn)
theorem pw_l2i {x : Int64} (d : decode (mC K.2.1) pc = .ok (.l2i, 1)) (k : PW K (pc + 1) ls (.int x.toInt32 :: st) h n ms) : PW K pc ls (.long x :: st) h n ms := by
  intro p e s m args below meth c X Y R r1 r2 H locs lsA cells slots hS hR hL hn
  exact lv_l2i X.1 X.2.1 d rfl (k p e s m args below meth c X Y R r1 r2 H locs lsA cells slots hS hR hL hn)
theorem pw_i2c {x : Int32} (d : decode (mC K.2.1) pc = .ok (.i2c, 1)) (k : PW K (pc + 1) ls (.int (x.toUInt32 % 65536).toInt32 :: st) h n ms) : PW K pc ls (.int x :: st) h n ms := by
  intro p e s m args below meth c X Y R r1 r2 H locs lsA cells slots hS hR hL hn
  exact lv_i2c X.1 X.2.1 d rfl (k p e s m args below meth c X Y R r1 r2 H locs lsA cells slots hS hR hL hn)
theorem pw_lcmp {x y : Int64} (d : decode (mC K.2.1) pc = .ok (.lcmp, 1)) (k : PW K (pc + 1) ls (.int (lg_cmp x y) :: st) h n ms) : PW K pc ls (.long y :: .long x :: st) h n ms := by
  intro p e s m args below meth c X Y R r1 r2 H locs lsA cells slots hS hR hL hn
  exact W.lcmp X.1 X.2.1 d (k p e s m args below meth c X Y R r1 r2 H locs lsA cells slots hS hR hL hn)
theorem pw_iconst {i : Int} (v : Int32) (d : decode (mC K.2.1) pc = .ok (.iconst i, 1)) (hv : Int32.ofInt i = v) (k : PW K (pc + 1) ls (.int v :: st) h n ms) : PW K pc ls (st) h n ms := by
  intro p e s m args below meth c X Y R r1 r2 H locs lsA cells slots hS hR hL hn
  exact lv_iconst X.1 X.2.1 d hv (k p e s m args below meth c X Y R r1 r2 H locs lsA cells slots hS hR hL hn)
theorem pw_bipush {i : Int} (v : Int32) (d : decode (mC K.2.1) pc = .ok (.bipush i, 2)) (hv : (Int8.ofInt i).toInt32 = v) (k : PW K (pc + 2) ls (.int v :: st) h n ms) : PW K pc ls (st) h n ms := by
  intro p e s m args below meth c X Y R r1 r2 H locs lsA cells slots hS hR hL hn
  exact lv_bipush X.1 X.2.1 d hv (k p e s m args below meth c X Y R r1 r2 H locs lsA cells slots hS hR hL hn)
theorem pw_sipush {i : Int} (v : Int32) (d : decode (mC K.2.1) pc = .ok (.sipush i, 3)) (hv : (Int16.ofInt i).toInt32 = v) (k : PW K (pc + 3) ls (.int v :: st) h n ms) : PW K pc ls (st) h n ms := by
  intro p e s m args below meth c X Y R r1 r2 H locs lsA cells slots hS hR hL hn
  exact lv_sipush X.1 X.2.1 d hv (k p e s m args below meth c X Y R r1 r2 H locs lsA cells slots hS hR hL hn)
theorem pw_lconst {i : Fin 2} (v : Int64) (d : decode (mC K.2.1) pc = .ok (.lconst i, 1)) (hv : Int64.ofNat (i : Nat) = v) (k : PW K (pc + 1) ls (.long v :: st) h n ms) : PW K pc ls (st) h n ms := by
  intro p e s m args below meth c X Y R r1 r2 H locs lsA cells slots hS hR hL hn
  exact lv_lconst X.1 X.2.1 d hv (k p e s m args below meth c X Y R r1 r2 H locs lsA cells slots hS hR hL hn)
theorem pw_dup {v : Value} (d : decode (mC K.2.1) pc = .ok (.dup, 1)) (hv : v.category = 1) (k : PW K (pc + 1) ls (v :: v :: st) h n ms) : PW K pc ls (v :: st) h n ms := by
  intro p e s m args below meth c X Y R r1 r2 H locs lsA cells slots hS hR hL hn
  exact lv_dup X.1 X.2.1 d hv (k p e s m args below meth c X Y R r1 r2 H locs lsA cells slots hS hR hL hn)
theorem pw_pop {v : Value} (d : decode (mC K.2.1) pc = .ok (.pop, 1)) (hv : v.category = 1) (k : PW K (pc + 1) ls (st) h n ms) : PW K pc ls (v :: st) h n ms := by
  intro p e s m args below meth c X Y R r1 r2 H locs lsA cells slots hS hR hL hn
  exact lv_pop X.1 X.2.1 d hv (k p e s m args below meth c X Y R r1 r2 H locs lsA cells slots hS hR hL hn)
theorem pw_dup2 {v u : Value} (d : decode (mC K.2.1) pc = .ok (.dup2, 1)) (hv : v.category = 1) (hu : u.category = 1) (k : PW K (pc + 1) ls (v :: u :: v :: u :: st) h n ms) : PW K pc ls (v :: u :: st) h n ms := by
  intro p e s m args below meth c X Y R r1 r2 H locs lsA cells slots hS hR hL hn
  exact lv_dup2_11 X.1 X.2.1 d hv hu (k p e s m args below meth c X Y R r1 r2 H locs lsA cells slots hS hR hL hn)
theorem pw_iload_n {i : Fin 4} {x : Int32} (d : decode (mC K.2.1) pc = .ok (.iload_n i, 1)) (hl : ls[(i : Nat)]? = some (.int x)) (k : PW K (pc + 1) ls (.int x :: st) h n ms) : PW K pc ls (st) h n ms := by
  intro p e s m args below meth c X Y R r1 r2 H locs lsA cells slots hS hR hL hn
  exact lv_iload_n X.1 X.2.1 d rfl (hL.2.2 _ _ hl (fun q => by cases q)) (k p e s m args below meth c X Y R r1 r2 H locs lsA cells slots hS hR hL hn)
theorem pw_iload {i : Nat} {x : Int32} (d : decode (mC K.2.1) pc = .ok (.iload i, 2)) (hl : ls[i]? = some (.int x)) (k : PW K (pc + 2) ls (.int x :: st) h n ms) : PW K pc ls (st) h n ms := by
  intro p e s m args below meth c X Y R r1 r2 H locs lsA cells slots hS hR hL hn
  exact lv_iload X.1 X.2.1 d (hL.2.2 _ _ hl (fun q => by cases q)) (k p e s m args below meth c X Y R r1 r2 H locs lsA cells slots hS hR hL hn)
theorem pw_lload_n {i : Fin 4} {x : Int64} (d : decode (mC K.2.1) pc = .ok (.lload_n i, 1)) (hl : ls[(i : Nat)]? = some (.long x)) (k : PW K (pc + 1) ls (.long x :: st) h n ms) : PW K pc ls (st) h n ms := by
  intro p e s m args below meth c X Y R r1 r2 H locs lsA cells slots hS hR hL hn
  exact lv_lload_n X.1 X.2.1 d rfl (hL.2.2 _ _ hl (fun q => by cases q)) (k p e s m args below meth c X Y R r1 r2 H locs lsA cells slots hS hR hL hn)
theorem pw_lload {i : Nat} {x : Int64} (d : decode (mC K.2.1) pc = .ok (.lload i, 2)) (hl : ls[i]? = some (.long x)) (k : PW K (pc + 2) ls (.long x :: st) h n ms) : PW K pc ls (st) h n ms := by
  intro p e s m args below meth c X Y R r1 r2 H locs lsA cells slots hS hR hL hn
  exact lv_lload X.1 X.2.1 d (hL.2.2 _ _ hl (fun q => by cases q)) (k p e s m args below meth c X Y R r1 r2 H locs lsA cells slots hS hR hL hn)
theorem pw_aload_n {i : Fin 4} {x : Nat} (d : decode (mC K.2.1) pc = .ok (.aload_n i, 1)) (hl : ls[(i : Nat)]? = some (.ref x)) (k : PW K (pc + 1) ls (.ref x :: st) h n ms) : PW K pc ls (st) h n ms := by
  intro p e s m args below meth c X Y R r1 r2 H locs lsA cells slots hS hR hL hn
  exact lv_aload_n X.1 X.2.1 d rfl (hL.2.2 _ _ hl (fun q => by cases q)) (k p e s m args below meth c X Y R r1 r2 H locs lsA cells slots hS hR hL hn)
theorem pw_aload {i : Nat} {x : Nat} (d : decode (mC K.2.1) pc = .ok (.aload i, 2)) (hl : ls[i]? = some (.ref x)) (k : PW K (pc + 2) ls (.ref x :: st) h n ms) : PW K pc ls (st) h n ms := by
  intro p e s m args below meth c X Y R r1 r2 H locs lsA cells slots hS hR hL hn
  exact lv_aload X.1 X.2.1 d (hL.2.2 _ _ hl (fun q => by cases q)) (k p e s m args below meth c X Y R r1 r2 H locs lsA cells slots hS hR hL hn)
theorem pw_ldc {i : Nat} (v : Int32) (d : decode (mC K.2.1) pc = .ok (.ldc i, 2)) (hc : Cond.constant (mY K.2.1).cls i v ∈ tbl) (k : PW K (pc + 2) ls (.int v :: st) h n ms) : PW K pc ls (st) h n ms := by
  intro p e s m args below meth c X Y R r1 r2 H locs lsA cells slots hS hR hL hn
  exact lv_ldc X.1 X.2.1 X.2.2.2.2.1 (X.2.2.2.2.2.2.2.1 _ hc) d (k p e s m args below meth c X Y R r1 r2 H locs lsA cells slots hS hR hL hn)
theorem pw_ldcw {i : Nat} (v : Int32) (d : decode (mC K.2.1) pc = .ok (.ldc_w i, 3)) (hc : Cond.constant (mY K.2.1).cls i v ∈ tbl) (k : PW K (pc + 3) ls (.int v :: st) h n ms) : PW K pc ls (st) h n ms := by
  intro p e s m args below meth c X Y R r1 r2 H locs lsA cells slots hS hR hL hn
  exact lv_ldcw X.1 X.2.1 X.2.2.2.2.1 (X.2.2.2.2.2.2.2.1 _ hc) d (k p e s m args below meth c X Y R r1 r2 H locs lsA cells slots hS hR hL hn)
theorem pw_ldc2 {i : Nat} (v : Int64) (d : decode (mC K.2.1) pc = .ok (.ldc2_w i, 3)) (hc : Cond.constantLong (mY K.2.1).cls i v ∈ tbl) (k : PW K (pc + 3) ls (.long v :: st) h n ms) : PW K pc ls (st) h n ms := by
  intro p e s m args below meth c X Y R r1 r2 H locs lsA cells slots hS hR hL hn
  exact lv_ldc2 X.1 X.2.1 X.2.2.2.2.1 (X.2.2.2.2.2.2.2.1 _ hc) d (k p e s m args below meth c X Y R r1 r2 H locs lsA cells slots hS hR hL hn)
theorem pw_if_eq {x : Int32} {off : Int} (tgt : Nat) (d : decode (mC K.2.1) pc = .ok (.ifCond .eq off, 3)) (ht : (pc : Int) + off = (tgt : Int)) (kt : x = 0 → PW K tgt ls st h n ms) (kf : ¬ (x = 0) → PW K (pc + 3) ls st h n ms) : PW K pc ls (.int x :: st) h n ms := by
  intro p e s m args below meth c X Y R r1 r2 H locs lsA cells slots hS hR hL hn
  refine lv_if_eq X.1 X.2.1 d ht (fun q => kt q p e s m args below meth c X Y R r1 r2 H locs lsA cells slots hS hR hL hn) (fun q => kf q p e s m args below meth c X Y R r1 r2 H locs lsA cells slots hS hR hL hn)
theorem pw_icmp_eq {x y : Int32} {off : Int} (tgt : Nat) (d : decode (mC K.2.1) pc = .ok (.if_icmp .eq off, 3)) (ht : (pc : Int) + off = (tgt : Int)) (kt : x = y → PW K tgt ls st h n ms) (kf : ¬ (x = y) → PW K (pc + 3) ls st h n ms) : PW K pc ls (.int y :: .int x :: st) h n ms := by
  intro p e s m args below meth c X Y R r1 r2 H locs lsA cells slots hS hR hL hn
  refine lv_icmp_eq X.1 X.2.1 d ht (fun q => kt q p e s m args below meth c X Y R r1 r2 H locs lsA cells slots hS hR hL hn) (fun q => kf q p e s m args below meth c X Y R r1 r2 H locs lsA cells slots hS hR hL hn)
theorem pw_if_ne {x : Int32} {off : Int} (tgt : Nat) (d : decode (mC K.2.1) pc = .ok (.ifCond .ne off, 3)) (ht : (pc : Int) + off = (tgt : Int)) (kt : x ≠ 0 → PW K tgt ls st h n ms) (kf : x = 0 → PW K (pc + 3) ls st h n ms) : PW K pc ls (.int x :: st) h n ms := by
  intro p e s m args below meth c X Y R r1 r2 H locs lsA cells slots hS hR hL hn
  refine lv_if_ne X.1 X.2.1 d ht (fun q => kt (by simpa using q) p e s m args below meth c X Y R r1 r2 H locs lsA cells slots hS hR hL hn) (fun q => kf (by simpa using q) p e s m args below meth c X Y R r1 r2 H locs lsA cells slots hS hR hL hn)
theorem pw_icmp_ne {x y : Int32} {off : Int} (tgt : Nat) (d : decode (mC K.2.1) pc = .ok (.if_icmp .ne off, 3)) (ht : (pc : Int) + off = (tgt : Int)) (kt : x ≠ y → PW K tgt ls st h n ms) (kf : x = y → PW K (pc + 3) ls st h n ms) : PW K pc ls (.int y :: .int x :: st) h n ms := by
  intro p e s m args below meth c X Y R r1 r2 H locs lsA cells slots hS hR hL hn
  refine lv_icmp_ne X.1 X.2.1 d ht (fun q => kt (by simpa using q) p e s m args below meth c X Y R r1 r2 H locs lsA cells slots hS hR hL hn) (fun q => kf (by simpa using q) p e s m args below meth c X Y R r1 r2 H locs lsA cells slots hS hR hL hn)
theorem pw_if_lt {x : Int32} {off : Int} (tgt : Nat) (d : decode (mC K.2.1) pc = .ok (.ifCond .lt off, 3)) (ht : (pc : Int) + off = (tgt : Int)) (kt : x < 0 → PW K tgt ls st h n ms) (kf : ¬ (x < 0) → PW K (pc + 3) ls st h n ms) : PW K pc ls (.int x :: st) h n ms := by
  intro p e s m args below meth c X Y R r1 r2 H locs lsA cells slots hS hR hL hn
  refine lv_if_lt X.1 X.2.1 d ht (fun q => kt q p e s m args below meth c X Y R r1 r2 H locs lsA cells slots hS hR hL hn) (fun q => kf q p e s m args below meth c X Y R r1 r2 H locs lsA cells slots hS hR hL hn)
theorem pw_icmp_lt {x y : Int32} {off : Int} (tgt : Nat) (d : decode (mC K.2.1) pc = .ok (.if_icmp .lt off, 3)) (ht : (pc : Int) + off = (tgt : Int)) (kt : x < y → PW K tgt ls st h n ms) (kf : ¬ (x < y) → PW K (pc + 3) ls st h n ms) : PW K pc ls (.int y :: .int x :: st) h n ms := by
  intro p e s m args below meth c X Y R r1 r2 H locs lsA cells slots hS hR hL hn
  refine lv_icmp_lt X.1 X.2.1 d ht (fun q => kt q p e s m args below meth c X Y R r1 r2 H locs lsA cells slots hS hR hL hn) (fun q => kf q p e s m args below meth c X Y R r1 r2 H locs lsA cells slots hS hR hL hn)
theorem pw_if_ge {x : Int32} {off : Int} (tgt : Nat) (d : decode (mC K.2.1) pc = .ok (.ifCond .ge off, 3)) (ht : (pc : Int) + off = (tgt : Int)) (kt : 0 ≤ x → PW K tgt ls st h n ms) (kf : ¬ (0 ≤ x) → PW K (pc + 3) ls st h n ms) : PW K pc ls (.int x :: st) h n ms := by
  intro p e s m args below meth c X Y R r1 r2 H locs lsA cells slots hS hR hL hn
  refine lv_if_ge X.1 X.2.1 d ht (fun q => kt q p e s m args below meth c X Y R r1 r2 H locs lsA cells slots hS hR hL hn) (fun q => kf q p e s m args below meth c X Y R r1 r2 H locs lsA cells slots hS hR hL hn)
theorem pw_icmp_ge {x y : Int32} {off : Int} (tgt : Nat) (d : decode (mC K.2.1) pc = .ok (.if_icmp .ge off, 3)) (ht : (pc : Int) + off = (tgt : Int)) (kt : y ≤ x → PW K tgt ls st h n ms) (kf : ¬ (y ≤ x) → PW K (pc + 3) ls st h n ms) : PW K pc ls (.int y :: .int x :: st) h n ms := by
  intro p e s m args below meth c X Y R r1 r2 H locs lsA cells slots hS hR hL hn
  refine lv_icmp_ge X.1 X.2.1 d ht (fun q => kt q p e s m args below meth c X Y R r1 r2 H locs lsA cells slots hS hR hL hn) (fun q => kf q p e s m args below meth c X Y R r1 r2 H locs lsA cells slots hS hR hL hn)
theorem pw_if_gt {x : Int32} {off : Int} (tgt : Nat) (d : decode (mC K.2.1) pc = .ok (.ifCond .gt off, 3)) (ht : (pc : Int) + off = (tgt : Int)) (kt : 0 < x → PW K tgt ls st h n ms) (kf : ¬ (0 < x) → PW K (pc + 3) ls st h n ms) : PW K pc ls (.int x :: st) h n ms := by
  intro p e s m args below meth c X Y R r1 r2 H locs lsA cells slots hS hR hL hn
  refine lv_if_gt X.1 X.2.1 d ht (fun q => kt q p e s m args below meth c X Y R r1 r2 H locs lsA cells slots hS hR hL hn) (fun q => kf q p e s m args below meth c X Y R r1 r2 H locs lsA cells slots hS hR hL hn)
theorem pw_icmp_gt {x y : Int32} {off : Int} (tgt : Nat) (d : decode (mC K.2.1) pc = .ok (.if_icmp .gt off, 3)) (ht : (pc : Int) + off = (tgt : Int)) (kt : y < x → PW K tgt ls st h n ms) (kf : ¬ (y < x) → PW K (pc + 3) ls st h n ms) : PW K pc ls (.int y :: .int x :: st) h n ms := by
  intro p e s m args below meth c X Y R r1 r2 H locs lsA cells slots hS hR hL hn
  refine lv_icmp_gt X.1 X.2.1 d ht (fun q => kt q p e s m args below meth c X Y R r1 r2 H locs lsA cells slots hS hR hL hn) (fun q => kf q p e s m args below meth c X Y R r1 r2 H locs lsA cells slots hS hR hL hn)
theorem pw_if_le {x : Int32} {off : Int} (tgt : Nat) (d : decode (mC K.2.1) pc = .ok (.ifCond .le off, 3)) (ht : (pc : Int) + off = (tgt : Int)) (kt : x ≤ 0 → PW K tgt ls st h n ms) (kf : ¬ (x ≤ 0) → PW K (pc + 3) ls st h n ms) : PW K pc ls (.int x :: st) h n ms := by
  intro p e s m args below meth c X Y R r1 r2 H locs lsA cells slots hS hR hL hn
  refine lv_if_le X.1 X.2.1 d ht (fun q => kt q p e s m args below meth c X Y R r1 r2 H locs lsA cells slots hS hR hL hn) (fun q => kf q p e s m args below meth c X Y R r1 r2 H locs lsA cells slots hS hR hL hn)
theorem pw_icmp_le {x y : Int32} {off : Int} (tgt : Nat) (d : decode (mC K.2.1) pc = .ok (.if_icmp .le off, 3)) (ht : (pc : Int) + off = (tgt : Int)) (kt : x ≤ y → PW K tgt ls st h n ms) (kf : ¬ (x ≤ y) → PW K (pc + 3) ls st h n ms) : PW K pc ls (.int y :: .int x :: st) h n ms := by
  intro p e s m args below meth c X Y R r1 r2 H locs lsA cells slots hS hR hL hn
  refine lv_icmp_le X.1 X.2.1 d ht (fun q => kt q p e s m args below meth c X Y R r1 r2 H locs lsA cells slots hS hR hL hn) (fun q => kf q p e s m args below meth c X Y R r1 r2 H locs lsA cells slots hS hR hL hn)
theorem pw_goto {off : Int} (tgt : Nat) (d : decode (mC K.2.1) pc = .ok (.goto off, 3)) (ht : (pc : Int) + off = (tgt : Int)) (k : PW K tgt ls st h n ms) : PW K pc ls st h n ms := by
  intro p e s m args below meth c X Y R r1 r2 H locs lsA cells slots hS hR hL hn
  exact lv_goto X.1 X.2.1 d ht (k p e s m args below meth c X Y R r1 r2 H locs lsA cells slots hS hR hL hn)
theorem pw_tabOut {x : Int32} {dflt lo hi : Int} {offs : Array Int} {len : Nat} (tgt : Nat) (d : decode (mC K.2.1) pc = .ok (.tableswitch dflt lo hi offs, len)) (hx : x.toInt < lo ∨ hi < x.toInt) (ht : (pc : Int) + dflt = (tgt : Int)) (k : PW K tgt ls st h n ms) : PW K pc ls (.int x :: st) h n ms := by
  intro p e s m args below meth c X Y R r1 r2 H locs lsA cells slots hS hR hL hn
  exact lv_tableOut X.1 X.2.1 d hx ht (k p e s m args below meth c X Y R r1 r2 H locs lsA cells slots hS hR hL hn)
theorem pw_tabIn {x : Int32} {dflt lo hi : Int} {offs : Array Int} {len : Nat} {off : Int} (tgt : Nat) (d : decode (mC K.2.1) pc = .ok (.tableswitch dflt lo hi offs, len)) (h1 : ¬ x.toInt < lo) (h2 : ¬ hi < x.toInt) (ho : offs[(x.toInt - lo).toNat]? = some off) (ht : (pc : Int) + off = (tgt : Int)) (k : PW K tgt ls st h n ms) : PW K pc ls (.int x :: st) h n ms := by
  intro p e s m args below meth c X Y R r1 r2 H locs lsA cells slots hS hR hL hn
  exact lv_tableIn X.1 X.2.1 d h1 h2 ho ht (k p e s m args below meth c X Y R r1 r2 H locs lsA cells slots hS hR hL hn)
theorem pw_topi {x : Int32} (y : Int32) (e : x = y) (k : PW K pc ls (.int y :: st) h n ms) : PW K pc ls (.int x :: st) h n ms := e ▸ k
theorem pw_topl {x : Int64} (y : Int64) (e : x = y) (k : PW K pc ls (.long y :: st) h n ms) : PW K pc ls (.long x :: st) h n ms := e ▸ k
theorem pw_heap {h2 : HP} (e : h = h2) (k : PW K pc ls st h2 n ms) : PW K pc ls st h n ms := e ▸ k
theorem pw_ls {l2 : List Value} (e : ls = l2) (k : PW K pc l2 st h n ms) : PW K pc ls st h n ms := e ▸ k
end PWR
