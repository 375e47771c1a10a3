theorem pws_get {E : EV} {h : HP} {n a : Nat} {e : PE} (ha : h a = some e) (h1 : eB E ≤ a) (h2 : a < n) : (pws E h n)[a - eB E]? = some (a, cvE (eK E) e) := by
  have h3 : a - eB E < n - eB E := by omega
  have h4 : eB E + (a - eB E) = a := by omega
  simp [pws, h3, h4, ha]
theorem pR.at {E : EV} {h : HP} {n a : Nat} {e : PE} {H : Heap} (hR : pR E h n H) (ha : h a = some e) : (pws E h n)[a - eB E]? = some (a, cvE (eK E) e) := by
  obtain ⟨h1, h2⟩ := (hR.2.2.1 a).mp ⟨e, ha⟩
  exact pws_get ha h1 h2
theorem pws_set {E : EV} {h : HP} {n a : Nat} {e : PE} (h1 : eB E ≤ a) (h2 : a < n) : (pws E h n).set (a - eB E) (a, cvE (eK E) e) = pws E (va_up h a (some e)) n := by
  apply List.ext_getElem?
  intro i
  by_cases hi : i = a - eB E
  · subst hi
    have h3 : a - eB E < n - eB E := by omega
    have h4 : eB E + (a - eB E) = a := by omega
    rw [List.getElem?_set_self (by simp [pws]; omega)]
    simp [pws, h3, h4, va_up]
  · rw [List.getElem?_set_ne (Ne.symm hi)]
    by_cases h3 : i < n - eB E
    · have h4 : eB E + i ≠ a := by omega
      simp [pws, h3, h4, va_up]
    · have h5 : ¬ i < n - eB E := h3
      simp [pws, h5]
theorem pws_push {E : EV} {h : HP} {n : Nat} {e : PE} (h1 : eB E ≤ n) : pws E h n ++ [(n, cvE (eK E) e)] = pws E (va_up h n (some e)) (n + 1) := by
  have h2 : n + 1 - eB E = (n - eB E) + 1 := by omega
  have h3 : eB E + (n - eB E) = n := by omega
  simp only [pws, h2, List.range_succ, List.map_append, List.map_cons, List.map_nil, h3]
  congr 1
  · apply List.map_congr_left
    intro i hi
    have hi2 := List.mem_range.mp hi
    have h4 : eB E + i ≠ n := by omega
    simp [va_up, h4]
  · simp [va_up]
theorem pws_D {E : EV} {h : HP} {n : Nat} : va_D (pA E) (pws E h n) := by
  refine ⟨fun i j p q hi hj e => ?_, fun k q hk => ?_⟩
  · simp only [pws, List.getElem?_map, Option.map_eq_some_iff] at hi hj
    obtain ⟨i', hi1, rfl⟩ := hi
    obtain ⟨j', hj1, rfl⟩ := hj
    obtain ⟨hi2, hi3⟩ := List.getElem?_eq_some_iff.mp hi1
    obtain ⟨hj2, hj3⟩ := List.getElem?_eq_some_iff.mp hj1
    simp at hi3 hj3 e
    omega
  · simp only [pws, List.getElem?_map, Option.map_eq_some_iff] at hk
    obtain ⟨i', hi1, rfl⟩ := hk
    show eB E ≤ eB E + i'
    omega
/-- the heap's size, out of the count of cells -/
theorem W.sized {p : Program} {l : Launch} {e : Env} {R : Room} {s : State} {m : MethodId} {args : Array Value} {below : List Frame} {meth : Method} {c : Code} {H : Heap} {locs : List Loc} {cells slots : Nat} {Q : State → Prop} {g : JFrame} (k : H.size ≤ s.heap.size + cells → W p l e R s m args below meth c H locs cells slots Q g) : W p l e R s m args below meth c H locs cells slots Q g := by
  intro T hT X
  have h := X.heapSize
  rw [hT] at h
  exact k h T hT X
theorem pR.mk {E : EV} {h : HP} {n : Nat} {A : Nat → Prop} {H0 H : Heap} {locs : List Loc} (hP : va_P (eD E) vwCl (pws E h n) H) (hS : va_S A H0 H locs) (hb : eB E ≤ H0.size) (hu : H.size ≤ n) (hbn : eB E ≤ n) (hdom : ∀ a, (∃ e, h a = some e) ↔ eB E ≤ a ∧ a < n) : pR E h n H := by
  refine ⟨?_, hbn, hdom, hP⟩
  by_cases hc : n = eB E
  · have := hS.1
    omega
  · obtain ⟨e, he⟩ := (hdom (n - 1)).mpr ⟨by omega, by omega⟩
    have h1 := (hP _ _ (pws_get he (by omega) (by omega))).lt
    have h2 : n - 1 < H.size := h1
    omega
theorem dom_up {E : EV} {h : HP} {n a : Nat} {e0 e : PE} (hd : ∀ a, (∃ e, h a = some e) ↔ eB E ≤ a ∧ a < n) (ha : h a = some e0) : ∀ b, (∃ e', va_up h a (some e) b = some e') ↔ eB E ≤ b ∧ b < n := by
  intro b
  by_cases hb : b = a
  · subst hb
    have := (hd b).mp ⟨e0, ha⟩
    simp [va_up, this]
  · simp only [va_up, hb, if_false]
    exact hd b
theorem dom_new {E : EV} {h : HP} {n : Nat} {e : PE} (hbn : eB E ≤ n) (hd : ∀ a, (∃ e, h a = some e) ↔ eB E ≤ a ∧ a < n) : ∀ b, (∃ e', va_up h n (some e) b = some e') ↔ eB E ≤ b ∧ b < n + 1 := by
  intro b
  by_cases hb : b = n
  · subst hb
    simp [va_up]
    omega
  · simp only [va_up, hb, if_false]
    rw [hd b]
    omega
-- ---- locals
def isNl : Value → Bool
  | .null => true
  | _ => false
def lvO (ls : List Value) : List (Nat × Value) := (ls.zipIdx.filter (fun q => !isNl q.1)).map (fun q => (q.2, q.1))
theorem isNl_iff (v : Value) : isNl v = true ↔ v = .null := by cases v <;> simp [isNl]
theorem lvO_mem {ls : List Value} {i : Nat} {v : Value} : (i, v) ∈ lvO ls ↔ ls[i]? = some v ∧ v ≠ .null := by
  simp only [lvO, List.mem_map, List.mem_filter]
  constructor
  · rintro ⟨⟨a, b⟩, ⟨h1, h2⟩, h3⟩
    simp only [Prod.mk.injEq] at h3
    obtain ⟨rfl, rfl⟩ := h3
    refine ⟨List.mem_zipIdx_iff_getElem?.mp h1, fun q => ?_⟩
    subst q
    simp [isNl] at h2
  · rintro ⟨h1, h2⟩
    refine ⟨(v, i), ⟨List.mem_zipIdx_iff_getElem?.mpr h1, ?_⟩, rfl⟩
    cases v <;> simp_all [isNl]
theorem pL.has {lsA : Array Slot} {nL : Nat} {ls : List Value} (h : pL lsA nL ls) : lv_has lsA nL (lvO ls) := ⟨h.1, h.2.1, fun q hq => by
  obtain ⟨i, v⟩ := q
  obtain ⟨h1, h2⟩ := lvO_mem.mp hq
  exact h.2.2 i v h1 h2⟩
theorem pL.set1 {lsA : Array Slot} {nL : Nat} {ls : List Value} {i : Nat} {v : Value} (hp : ∀ j w, j + 1 = i → ls[j]? = some w → w.category = 1) (h : lv_has lsA nL ((i, v) :: (lvO ls).filter (fun q => !(q.1 == i) && !(q.1 + 1 == i && q.2.category == 2)))) : pL lsA nL (ls.set i v) := by
  refine ⟨h.1, h.2.1, fun j w hj hw => ?_⟩
  by_cases hji : j = i
  · subst hji
    have hl : j < ls.length := by
      have := (List.getElem?_eq_some_iff.mp hj).1
      simpa using this
    rw [List.getElem?_set_self hl] at hj
    cases hj
    exact h.2.2 (j, v) List.mem_cons_self
  · rw [List.getElem?_set_ne (Ne.symm hji)] at hj
    refine h.2.2 (j, w) (List.mem_cons_of_mem _ (List.mem_filter.mpr ⟨lvO_mem.mpr ⟨hj, hw⟩, ?_⟩))
    by_cases hc : j + 1 = i
    · have := hp j w hc hj
      simp [hji, this]
    · simp [hji, hc]
theorem pL.set2 {lsA : Array Slot} {nL : Nat} {ls : List Value} {i : Nat} {v : Value} (hp : ∀ j w, j + 1 = i → ls[j]? = some w → w.category = 1) (h : lv_has lsA nL ((i, v) :: (lvO ls).filter (fun q => !(q.1 == i) && (!(q.1 == i + 1) && !(q.1 + 1 == i && q.2.category == 2))))) : pL lsA nL ((ls.set i v).set (i + 1) .null) := by
  refine ⟨h.1, h.2.1, fun j w hj hw => ?_⟩
  by_cases hj1 : j = i + 1
  · subst hj1
    rw [List.getElem?_set] at hj
    split at hj
    · split at hj
      · cases hj; exact absurd rfl hw
      · cases hj
    · rename_i hx; exact absurd rfl hx
  · rw [List.getElem?_set_ne (Ne.symm hj1)] at hj
    by_cases hji : j = i
    · subst hji
      have hl : j < ls.length := by
        have := (List.getElem?_eq_some_iff.mp hj).1
        simpa using this
      rw [List.getElem?_set_self hl] at hj
      cases hj
      exact h.2.2 (j, v) List.mem_cons_self
    · rw [List.getElem?_set_ne (Ne.symm hji)] at hj
      refine h.2.2 (j, w) (List.mem_cons_of_mem _ (List.mem_filter.mpr ⟨lvO_mem.mpr ⟨hj, hw⟩, ?_⟩))
      by_cases hc : j + 1 = i
      · have := hp j w hc hj
        simp [hji, hj1, this]
      · simp [hji, hj1, hc]
theorem hp_of {ls : List Value} {i : Nat} {a : Value} (h : ls[i]? = some a) (hc : a.category = 1) : ∀ j w, j + 1 = i + 1 → ls[j]? = some w → w.category = 1 := by
  intro j w e1 e2
  obtain rfl : j = i := by omega
  cases h.symm.trans e2
  exact hc
section PWH
variable {K : MX} {pc : Nat} {ls st : List Value} {h : HP} {n ms : Nat}

theorem pw_istore_n_g {i : Fin 4} {x : Int32} (d : decode (mC K.2.1) pc = .ok (.istore_n i, 1)) (hi : (i : Nat) < mL K.2.1) (hp : ∀ j w, j + 1 = (i : Nat) → ls[j]? = some w → w.category = 1) (k : PW K (pc + 1) (ls.set (i : Nat) (.int x)) st h n ms) : PW K pc ls (.int x :: st) h n ms := by
  intro p e s m args below meth c X Y R r1 r2 H locs lsA cells slots hS hR hL hn
  exact lv_istore_n X.1 X.2.1 d rfl hL.has hi rfl (fun lsA hL2 => k p e s m args below meth c X Y R r1 r2 H locs lsA cells slots hS hR (pL.set1 hp hL2) hn)
theorem pw_istore_g {i : Nat} {x : Int32} (d : decode (mC K.2.1) pc = .ok (.istore i, 2)) (hi : i < mL K.2.1) (hp : ∀ j w, j + 1 = i → ls[j]? = some w → w.category = 1) (k : PW K (pc + 2) (ls.set i (.int x)) st h n ms) : PW K pc ls (.int x :: st) h n ms := by
  intro p e s m args below meth c X Y R r1 r2 H locs lsA cells slots hS hR hL hn
  exact lv_istore X.1 X.2.1 d hL.has hi rfl (fun lsA hL2 => k p e s m args below meth c X Y R r1 r2 H locs lsA cells slots hS hR (pL.set1 hp hL2) hn)
theorem pw_astore_n_g {i : Fin 4} {x : Nat} (d : decode (mC K.2.1) pc = .ok (.astore_n i, 1)) (hi : (i : Nat) < mL K.2.1) (hp : ∀ j w, j + 1 = (i : Nat) → ls[j]? = some w → w.category = 1) (k : PW K (pc + 1) (ls.set (i : Nat) (.ref x)) st h n ms) : PW K pc ls (.ref x :: st) h n ms := by
  intro p e s m args below meth c X Y R r1 r2 H locs lsA cells slots hS hR hL hn
  exact lv_astore_n X.1 X.2.1 d rfl hL.has hi rfl (fun lsA hL2 => k p e s m args below meth c X Y R r1 r2 H locs lsA cells slots hS hR (pL.set1 hp hL2) hn)
theorem pw_astore_g {i : Nat} {x : Nat} (d : decode (mC K.2.1) pc = .ok (.astore i, 2)) (hi : i < mL K.2.1) (hp : ∀ j w, j + 1 = i → ls[j]? = some w → w.category = 1) (k : PW K (pc + 2) (ls.set i (.ref x)) st h n ms) : PW K pc ls (.ref x :: st) h n ms := by
  intro p e s m args below meth c X Y R r1 r2 H locs lsA cells slots hS hR hL hn
  exact lv_astore X.1 X.2.1 d hL.has hi rfl (fun lsA hL2 => k p e s m args below meth c X Y R r1 r2 H locs lsA cells slots hS hR (pL.set1 hp hL2) hn)
theorem pw_lstore_n_g {i : Fin 4} {x : Int64} (d : decode (mC K.2.1) pc = .ok (.lstore_n i, 1)) (hi : (i : Nat) + 1 < mL K.2.1) (hp : ∀ j w, j + 1 = (i : Nat) → ls[j]? = some w → w.category = 1) (k : PW K (pc + 1) ((ls.set i (.long x)).set (i + 1) .null) st h n ms) : PW K pc ls (.long x :: st) h n ms := by
  intro p e s m args below meth c X Y R r1 r2 H locs lsA cells slots hS hR hL hn
  exact lv_lstore_n X.1 X.2.1 d rfl hL.has hi rfl (fun lsA hL2 => k p e s m args below meth c X Y R r1 r2 H locs lsA cells slots hS hR (pL.set2 hp hL2) hn)
theorem pw_iinc_g {i : Nat} {z : Int} {x : Int32} (v : Int32) (d : decode (mC K.2.1) pc = .ok (.iinc i z, 3)) (hi : i < mL K.2.1) (hx : ls[i]? = some (.int x)) (hv : x + Int32.ofInt z = v) (hp : ∀ j w, j + 1 = i → ls[j]? = some w → w.category = 1) (k : PW K (pc + 3) (ls.set i (.int v)) st h n ms) : PW K pc ls st h n ms := by
  intro p e s m args below meth c X Y R r1 r2 H locs lsA cells slots hS hR hL hn
  obtain ⟨q, hq⟩ := List.getElem?_of_mem (lvO_mem.mpr ⟨hx, fun q => by cases q⟩)
  exact lv_iinc X.1 X.2.1 d hL.has (k := q) hq hv hi rfl (fun lsA hL2 => k p e s m args below meth c X Y R r1 r2 H locs lsA cells slots hS hR (pL.set1 hp hL2) hn)
theorem pw_ist0 {a0 : Value} {r : List Value} {x : Int32} (d : decode (mC K.2.1) pc = .ok (.istore_n 0, 1)) (hi : 0 < mL K.2.1) (k : PW K (pc + 1) (.int x :: r) st h n ms) : PW K pc (a0 :: r) (.int x :: st) h n ms := pw_istore_n_g (ls := a0 :: r) d hi (fun j w e1 e2 => absurd e1 (Nat.succ_ne_zero j)) k
theorem pw_ast0 {a0 : Value} {r : List Value} {x : Nat} (d : decode (mC K.2.1) pc = .ok (.astore_n 0, 1)) (hi : 0 < mL K.2.1) (k : PW K (pc + 1) (.ref x :: r) st h n ms) : PW K pc (a0 :: r) (.ref x :: st) h n ms := pw_astore_n_g (ls := a0 :: r) d hi (fun j w e1 e2 => absurd e1 (Nat.succ_ne_zero j)) k
theorem pw_iinc0 {r : List Value} {x : Int32} {z : Int} (v : Int32) (d : decode (mC K.2.1) pc = .ok (.iinc 0 z, 3)) (hi : 0 < mL K.2.1) (hv : x + Int32.ofInt z = v) (k : PW K (pc + 3) (.int v :: r) st h n ms) : PW K pc (.int x :: r) st h n ms := pw_iinc_g (ls := .int x :: r) v d hi rfl hv (fun j w e1 e2 => absurd e1 (Nat.succ_ne_zero j)) k
theorem pw_ist1 {a0 a1 : Value} {r : List Value} {x : Int32} (d : decode (mC K.2.1) pc = .ok (.istore_n 1, 1)) (hi : 1 < mL K.2.1) (hp : a0.category = 1) (k : PW K (pc + 1) (a0 :: .int x :: r) st h n ms) : PW K pc (a0 :: a1 :: r) (.int x :: st) h n ms := pw_istore_n_g (ls := a0 :: a1 :: r) d hi (hp_of (i := 0) rfl hp) k
theorem pw_ast1 {a0 a1 : Value} {r : List Value} {x : Nat} (d : decode (mC K.2.1) pc = .ok (.astore_n 1, 1)) (hi : 1 < mL K.2.1) (hp : a0.category = 1) (k : PW K (pc + 1) (a0 :: .ref x :: r) st h n ms) : PW K pc (a0 :: a1 :: r) (.ref x :: st) h n ms := pw_astore_n_g (ls := a0 :: a1 :: r) d hi (hp_of (i := 0) rfl hp) k
theorem pw_iinc1 {a0 : Value} {r : List Value} {x : Int32} {z : Int} (v : Int32) (d : decode (mC K.2.1) pc = .ok (.iinc 1 z, 3)) (hi : 1 < mL K.2.1) (hp : a0.category = 1) (hv : x + Int32.ofInt z = v) (k : PW K (pc + 3) (a0 :: .int v :: r) st h n ms) : PW K pc (a0 :: .int x :: r) st h n ms := pw_iinc_g (ls := a0 :: .int x :: r) v d hi rfl hv (hp_of (i := 0) rfl hp) k
theorem pw_ist2 {a0 a1 a2 : Value} {r : List Value} {x : Int32} (d : decode (mC K.2.1) pc = .ok (.istore_n 2, 1)) (hi : 2 < mL K.2.1) (hp : a1.category = 1) (k : PW K (pc + 1) (a0 :: a1 :: .int x :: r) st h n ms) : PW K pc (a0 :: a1 :: a2 :: r) (.int x :: st) h n ms := pw_istore_n_g (ls := a0 :: a1 :: a2 :: r) d hi (hp_of (i := 1) rfl hp) k
theorem pw_ast2 {a0 a1 a2 : Value} {r : List Value} {x : Nat} (d : decode (mC K.2.1) pc = .ok (.astore_n 2, 1)) (hi : 2 < mL K.2.1) (hp : a1.category = 1) (k : PW K (pc + 1) (a0 :: a1 :: .ref x :: r) st h n ms) : PW K pc (a0 :: a1 :: a2 :: r) (.ref x :: st) h n ms := pw_astore_n_g (ls := a0 :: a1 :: a2 :: r) d hi (hp_of (i := 1) rfl hp) k
theorem pw_iinc2 {a0 a1 : Value} {r : List Value} {x : Int32} {z : Int} (v : Int32) (d : decode (mC K.2.1) pc = .ok (.iinc 2 z, 3)) (hi : 2 < mL K.2.1) (hp : a1.category = 1) (hv : x + Int32.ofInt z = v) (k : PW K (pc + 3) (a0 :: a1 :: .int v :: r) st h n ms) : PW K pc (a0 :: a1 :: .int x :: r) st h n ms := pw_iinc_g (ls := a0 :: a1 :: .int x :: r) v d hi rfl hv (hp_of (i := 1) rfl hp) k
theorem pw_ist3 {a0 a1 a2 a3 : Value} {r : List Value} {x : Int32} (d : decode (mC K.2.1) pc = .ok (.istore_n 3, 1)) (hi : 3 < mL K.2.1) (hp : a2.category = 1) (k : PW K (pc + 1) (a0 :: a1 :: a2 :: .int x :: r) st h n ms) : PW K pc (a0 :: a1 :: a2 :: a3 :: r) (.int x :: st) h n ms := pw_istore_n_g (ls := a0 :: a1 :: a2 :: a3 :: r) d hi (hp_of (i := 2) rfl hp) k
theorem pw_ast3 {a0 a1 a2 a3 : Value} {r : List Value} {x : Nat} (d : decode (mC K.2.1) pc = .ok (.astore_n 3, 1)) (hi : 3 < mL K.2.1) (hp : a2.category = 1) (k : PW K (pc + 1) (a0 :: a1 :: a2 :: .ref x :: r) st h n ms) : PW K pc (a0 :: a1 :: a2 :: a3 :: r) (.ref x :: st) h n ms := pw_astore_n_g (ls := a0 :: a1 :: a2 :: a3 :: r) d hi (hp_of (i := 2) rfl hp) k
theorem pw_iinc3 {a0 a1 a2 : Value} {r : List Value} {x : Int32} {z : Int} (v : Int32) (d : decode (mC K.2.1) pc = .ok (.iinc 3 z, 3)) (hi : 3 < mL K.2.1) (hp : a2.category = 1) (hv : x + Int32.ofInt z = v) (k : PW K (pc + 3) (a0 :: a1 :: a2 :: .int v :: r) st h n ms) : PW K pc (a0 :: a1 :: a2 :: .int x :: r) st h n ms := pw_iinc_g (ls := a0 :: a1 :: a2 :: .int x :: r) v d hi rfl hv (hp_of (i := 2) rfl hp) k
theorem pw_ist4 {a0 a1 a2 a3 a4 : Value} {r : List Value} {x : Int32} (d : decode (mC K.2.1) pc = .ok (.istore 4, 2)) (hi : 4 < mL K.2.1) (hp : a3.category = 1) (k : PW K (pc + 2) (a0 :: a1 :: a2 :: a3 :: .int x :: r) st h n ms) : PW K pc (a0 :: a1 :: a2 :: a3 :: a4 :: r) (.int x :: st) h n ms := pw_istore_g (ls := a0 :: a1 :: a2 :: a3 :: a4 :: r) d hi (hp_of (i := 3) rfl hp) k
theorem pw_ast4 {a0 a1 a2 a3 a4 : Value} {r : List Value} {x : Nat} (d : decode (mC K.2.1) pc = .ok (.astore 4, 2)) (hi : 4 < mL K.2.1) (hp : a3.category = 1) (k : PW K (pc + 2) (a0 :: a1 :: a2 :: a3 :: .ref x :: r) st h n ms) : PW K pc (a0 :: a1 :: a2 :: a3 :: a4 :: r) (.ref x :: st) h n ms := pw_astore_g (ls := a0 :: a1 :: a2 :: a3 :: a4 :: r) d hi (hp_of (i := 3) rfl hp) k
theorem pw_iinc4 {a0 a1 a2 a3 : Value} {r : List Value} {x : Int32} {z : Int} (v : Int32) (d : decode (mC K.2.1) pc = .ok (.iinc 4 z, 3)) (hi : 4 < mL K.2.1) (hp : a3.category = 1) (hv : x + Int32.ofInt z = v) (k : PW K (pc + 3) (a0 :: a1 :: a2 :: a3 :: .int v :: r) st h n ms) : PW K pc (a0 :: a1 :: a2 :: a3 :: .int x :: r) st h n ms := pw_iinc_g (ls := a0 :: a1 :: a2 :: a3 :: .int x :: r) v d hi rfl hv (hp_of (i := 3) rfl hp) k
theorem pw_ist5 {a0 a1 a2 a3 a4 a5 : Value} {r : List Value} {x : Int32} (d : decode (mC K.2.1) pc = .ok (.istore 5, 2)) (hi : 5 < mL K.2.1) (hp : a4.category = 1) (k : PW K (pc + 2) (a0 :: a1 :: a2 :: a3 :: a4 :: .int x :: r) st h n ms) : PW K pc (a0 :: a1 :: a2 :: a3 :: a4 :: a5 :: r) (.int x :: st) h n ms := pw_istore_g (ls := a0 :: a1 :: a2 :: a3 :: a4 :: a5 :: r) d hi (hp_of (i := 4) rfl hp) k
theorem pw_ast5 {a0 a1 a2 a3 a4 a5 : Value} {r : List Value} {x : Nat} (d : decode (mC K.2.1) pc = .ok (.astore 5, 2)) (hi : 5 < mL K.2.1) (hp : a4.category = 1) (k : PW K (pc + 2) (a0 :: a1 :: a2 :: a3 :: a4 :: .ref x :: r) st h n ms) : PW K pc (a0 :: a1 :: a2 :: a3 :: a4 :: a5 :: r) (.ref x :: st) h n ms := pw_astore_g (ls := a0 :: a1 :: a2 :: a3 :: a4 :: a5 :: r) d hi (hp_of (i := 4) rfl hp) k
theorem pw_iinc5 {a0 a1 a2 a3 a4 : Value} {r : List Value} {x : Int32} {z : Int} (v : Int32) (d : decode (mC K.2.1) pc = .ok (.iinc 5 z, 3)) (hi : 5 < mL K.2.1) (hp : a4.category = 1) (hv : x + Int32.ofInt z = v) (k : PW K (pc + 3) (a0 :: a1 :: a2 :: a3 :: a4 :: .int v :: r) st h n ms) : PW K pc (a0 :: a1 :: a2 :: a3 :: a4 :: .int x :: r) st h n ms := pw_iinc_g (ls := a0 :: a1 :: a2 :: a3 :: a4 :: .int x :: r) v d hi rfl hv (hp_of (i := 4) rfl hp) k
theorem pw_ist6 {a0 a1 a2 a3 a4 a5 a6 : Value} {r : List Value} {x : Int32} (d : decode (mC K.2.1) pc = .ok (.istore 6, 2)) (hi : 6 < mL K.2.1) (hp : a5.category = 1) (k : PW K (pc + 2) (a0 :: a1 :: a2 :: a3 :: a4 :: a5 :: .int x :: r) st h n ms) : PW K pc (a0 :: a1 :: a2 :: a3 :: a4 :: a5 :: a6 :: r) (.int x :: st) h n ms := pw_istore_g (ls := a0 :: a1 :: a2 :: a3 :: a4 :: a5 :: a6 :: r) d hi (hp_of (i := 5) rfl hp) k
theorem pw_ast6 {a0 a1 a2 a3 a4 a5 a6 : Value} {r : List Value} {x : Nat} (d : decode (mC K.2.1) pc = .ok (.astore 6, 2)) (hi : 6 < mL K.2.1) (hp : a5.category = 1) (k : PW K (pc + 2) (a0 :: a1 :: a2 :: a3 :: a4 :: a5 :: .ref x :: r) st h n ms) : PW K pc (a0 :: a1 :: a2 :: a3 :: a4 :: a5 :: a6 :: r) (.ref x :: st) h n ms := pw_astore_g (ls := a0 :: a1 :: a2 :: a3 :: a4 :: a5 :: a6 :: r) d hi (hp_of (i := 5) rfl hp) k
theorem pw_iinc6 {a0 a1 a2 a3 a4 a5 : Value} {r : List Value} {x : Int32} {z : Int} (v : Int32) (d : decode (mC K.2.1) pc = .ok (.iinc 6 z, 3)) (hi : 6 < mL K.2.1) (hp : a5.category = 1) (hv : x + Int32.ofInt z = v) (k : PW K (pc + 3) (a0 :: a1 :: a2 :: a3 :: a4 :: a5 :: .int v :: r) st h n ms) : PW K pc (a0 :: a1 :: a2 :: a3 :: a4 :: a5 :: .int x :: r) st h n ms := pw_iinc_g (ls := a0 :: a1 :: a2 :: a3 :: a4 :: a5 :: .int x :: r) v d hi rfl hv (hp_of (i := 5) rfl hp) k
theorem pw_ist7 {a0 a1 a2 a3 a4 a5 a6 a7 : Value} {r : List Value} {x : Int32} (d : decode (mC K.2.1) pc = .ok (.istore 7, 2)) (hi : 7 < mL K.2.1) (hp : a6.category = 1) (k : PW K (pc + 2) (a0 :: a1 :: a2 :: a3 :: a4 :: a5 :: a6 :: .int x :: r) st h n ms) : PW K pc (a0 :: a1 :: a2 :: a3 :: a4 :: a5 :: a6 :: a7 :: r) (.int x :: st) h n ms := pw_istore_g (ls := a0 :: a1 :: a2 :: a3 :: a4 :: a5 :: a6 :: a7 :: r) d hi (hp_of (i := 6) rfl hp) k
theorem pw_ast7 {a0 a1 a2 a3 a4 a5 a6 a7 : Value} {r : List Value} {x : Nat} (d : decode (mC K.2.1) pc = .ok (.astore 7, 2)) (hi : 7 < mL K.2.1) (hp : a6.category = 1) (k : PW K (pc + 2) (a0 :: a1 :: a2 :: a3 :: a4 :: a5 :: a6 :: .ref x :: r) st h n ms) : PW K pc (a0 :: a1 :: a2 :: a3 :: a4 :: a5 :: a6 :: a7 :: r) (.ref x :: st) h n ms := pw_astore_g (ls := a0 :: a1 :: a2 :: a3 :: a4 :: a5 :: a6 :: a7 :: r) d hi (hp_of (i := 6) rfl hp) k
theorem pw_iinc7 {a0 a1 a2 a3 a4 a5 a6 : Value} {r : List Value} {x : Int32} {z : Int} (v : Int32) (d : decode (mC K.2.1) pc = .ok (.iinc 7 z, 3)) (hi : 7 < mL K.2.1) (hp : a6.category = 1) (hv : x + Int32.ofInt z = v) (k : PW K (pc + 3) (a0 :: a1 :: a2 :: a3 :: a4 :: a5 :: a6 :: .int v :: r) st h n ms) : PW K pc (a0 :: a1 :: a2 :: a3 :: a4 :: a5 :: a6 :: .int x :: r) st h n ms := pw_iinc_g (ls := a0 :: a1 :: a2 :: a3 :: a4 :: a5 :: a6 :: .int x :: r) v d hi rfl hv (hp_of (i := 6) rfl hp) k
theorem pw_ist8 {a0 a1 a2 a3 a4 a5 a6 a7 a8 : Value} {r : List Value} {x : Int32} (d : decode (mC K.2.1) pc = .ok (.istore 8, 2)) (hi : 8 < mL K.2.1) (hp : a7.category = 1) (k : PW K (pc + 2) (a0 :: a1 :: a2 :: a3 :: a4 :: a5 :: a6 :: a7 :: .int x :: r) st h n ms) : PW K pc (a0 :: a1 :: a2 :: a3 :: a4 :: a5 :: a6 :: a7 :: a8 :: r) (.int x :: st) h n ms := pw_istore_g (ls := a0 :: a1 :: a2 :: a3 :: a4 :: a5 :: a6 :: a7 :: a8 :: r) d hi (hp_of (i := 7) rfl hp) k
theorem pw_ast8 {a0 a1 a2 a3 a4 a5 a6 a7 a8 : Value} {r : List Value} {x : Nat} (d : decode (mC K.2.1) pc = .ok (.astore 8, 2)) (hi : 8 < mL K.2.1) (hp : a7.category = 1) (k : PW K (pc + 2) (a0 :: a1 :: a2 :: a3 :: a4 :: a5 :: a6 :: a7 :: .ref x :: r) st h n ms) : PW K pc (a0 :: a1 :: a2 :: a3 :: a4 :: a5 :: a6 :: a7 :: a8 :: r) (.ref x :: st) h n ms := pw_astore_g (ls := a0 :: a1 :: a2 :: a3 :: a4 :: a5 :: a6 :: a7 :: a8 :: r) d hi (hp_of (i := 7) rfl hp) k
theorem pw_iinc8 {a0 a1 a2 a3 a4 a5 a6 a7 : Value} {r : List Value} {x : Int32} {z : Int} (v : Int32) (d : decode (mC K.2.1) pc = .ok (.iinc 8 z, 3)) (hi : 8 < mL K.2.1) (hp : a7.category = 1) (hv : x + Int32.ofInt z = v) (k : PW K (pc + 3) (a0 :: a1 :: a2 :: a3 :: a4 :: a5 :: a6 :: a7 :: .int v :: r) st h n ms) : PW K pc (a0 :: a1 :: a2 :: a3 :: a4 :: a5 :: a6 :: a7 :: .int x :: r) st h n ms := pw_iinc_g (ls := a0 :: a1 :: a2 :: a3 :: a4 :: a5 :: a6 :: a7 :: .int x :: r) v d hi rfl hv (hp_of (i := 7) rfl hp) k
theorem pw_ist9 {a0 a1 a2 a3 a4 a5 a6 a7 a8 a9 : Value} {r : List Value} {x : Int32} (d : decode (mC K.2.1) pc = .ok (.istore 9, 2)) (hi : 9 < mL K.2.1) (hp : a8.category = 1) (k : PW K (pc + 2) (a0 :: a1 :: a2 :: a3 :: a4 :: a5 :: a6 :: a7 :: a8 :: .int x :: r) st h n ms) : PW K pc (a0 :: a1 :: a2 :: a3 :: a4 :: a5 :: a6 :: a7 :: a8 :: a9 :: r) (.int x :: st) h n ms := pw_istore_g (ls := a0 :: a1 :: a2 :: a3 :: a4 :: a5 :: a6 :: a7 :: a8 :: a9 :: r) d hi (hp_of (i := 8) rfl hp) k
theorem pw_ast9 {a0 a1 a2 a3 a4 a5 a6 a7 a8 a9 : Value} {r : List Value} {x : Nat} (d : decode (mC K.2.1) pc = .ok (.astore 9, 2)) (hi : 9 < mL K.2.1) (hp : a8.category = 1) (k : PW K (pc + 2) (a0 :: a1 :: a2 :: a3 :: a4 :: a5 :: a6 :: a7 :: a8 :: .ref x :: r) st h n ms) : PW K pc (a0 :: a1 :: a2 :: a3 :: a4 :: a5 :: a6 :: a7 :: a8 :: a9 :: r) (.ref x :: st) h n ms := pw_astore_g (ls := a0 :: a1 :: a2 :: a3 :: a4 :: a5 :: a6 :: a7 :: a8 :: a9 :: r) d hi (hp_of (i := 8) rfl hp) k
theorem pw_iinc9 {a0 a1 a2 a3 a4 a5 a6 a7 a8 : Value} {r : List Value} {x : Int32} {z : Int} (v : Int32) (d : decode (mC K.2.1) pc = .ok (.iinc 9 z, 3)) (hi : 9 < mL K.2.1) (hp : a8.category = 1) (hv : x + Int32.ofInt z = v) (k : PW K (pc + 3) (a0 :: a1 :: a2 :: a3 :: a4 :: a5 :: a6 :: a7 :: a8 :: .int v :: r) st h n ms) : PW K pc (a0 :: a1 :: a2 :: a3 :: a4 :: a5 :: a6 :: a7 :: a8 :: .int x :: r) st h n ms := pw_iinc_g (ls := a0 :: a1 :: a2 :: a3 :: a4 :: a5 :: a6 :: a7 :: a8 :: .int x :: r) v d hi rfl hv (hp_of (i := 8) rfl hp) k
theorem pw_ist10 {a0 a1 a2 a3 a4 a5 a6 a7 a8 a9 a10 : Value} {r : List Value} {x : Int32} (d : decode (mC K.2.1) pc = .ok (.istore 10, 2)) (hi : 10 < mL K.2.1) (hp : a9.category = 1) (k : PW K (pc + 2) (a0 :: a1 :: a2 :: a3 :: a4 :: a5 :: a6 :: a7 :: a8 :: a9 :: .int x :: r) st h n ms) : PW K pc (a0 :: a1 :: a2 :: a3 :: a4 :: a5 :: a6 :: a7 :: a8 :: a9 :: a10 :: r) (.int x :: st) h n ms := pw_istore_g (ls := a0 :: a1 :: a2 :: a3 :: a4 :: a5 :: a6 :: a7 :: a8 :: a9 :: a10 :: r) d hi (hp_of (i := 9) rfl hp) k
theorem pw_ast10 {a0 a1 a2 a3 a4 a5 a6 a7 a8 a9 a10 : Value} {r : List Value} {x : Nat} (d : decode (mC K.2.1) pc = .ok (.astore 10, 2)) (hi : 10 < mL K.2.1) (hp : a9.category = 1) (k : PW K (pc + 2) (a0 :: a1 :: a2 :: a3 :: a4 :: a5 :: a6 :: a7 :: a8 :: a9 :: .ref x :: r) st h n ms) : PW K pc (a0 :: a1 :: a2 :: a3 :: a4 :: a5 :: a6 :: a7 :: a8 :: a9 :: a10 :: r) (.ref x :: st) h n ms := pw_astore_g (ls := a0 :: a1 :: a2 :: a3 :: a4 :: a5 :: a6 :: a7 :: a8 :: a9 :: a10 :: r) d hi (hp_of (i := 9) rfl hp) k
theorem pw_iinc10 {a0 a1 a2 a3 a4 a5 a6 a7 a8 a9 : Value} {r : List Value} {x : Int32} {z : Int} (v : Int32) (d : decode (mC K.2.1) pc = .ok (.iinc 10 z, 3)) (hi : 10 < mL K.2.1) (hp : a9.category = 1) (hv : x + Int32.ofInt z = v) (k : PW K (pc + 3) (a0 :: a1 :: a2 :: a3 :: a4 :: a5 :: a6 :: a7 :: a8 :: a9 :: .int v :: r) st h n ms) : PW K pc (a0 :: a1 :: a2 :: a3 :: a4 :: a5 :: a6 :: a7 :: a8 :: a9 :: .int x :: r) st h n ms := pw_iinc_g (ls := a0 :: a1 :: a2 :: a3 :: a4 :: a5 :: a6 :: a7 :: a8 :: a9 :: .int x :: r) v d hi rfl hv (hp_of (i := 9) rfl hp) k
theorem pw_ist11 {a0 a1 a2 a3 a4 a5 a6 a7 a8 a9 a10 a11 : Value} {r : List Value} {x : Int32} (d : decode (mC K.2.1) pc = .ok (.istore 11, 2)) (hi : 11 < mL K.2.1) (hp : a10.category = 1) (k : PW K (pc + 2) (a0 :: a1 :: a2 :: a3 :: a4 :: a5 :: a6 :: a7 :: a8 :: a9 :: a10 :: .int x :: r) st h n ms) : PW K pc (a0 :: a1 :: a2 :: a3 :: a4 :: a5 :: a6 :: a7 :: a8 :: a9 :: a10 :: a11 :: r) (.int x :: st) h n ms := pw_istore_g (ls := a0 :: a1 :: a2 :: a3 :: a4 :: a5 :: a6 :: a7 :: a8 :: a9 :: a10 :: a11 :: r) d hi (hp_of (i := 10) rfl hp) k
theorem pw_ast11 {a0 a1 a2 a3 a4 a5 a6 a7 a8 a9 a10 a11 : Value} {r : List Value} {x : Nat} (d : decode (mC K.2.1) pc = .ok (.astore 11, 2)) (hi : 11 < mL K.2.1) (hp : a10.category = 1) (k : PW K (pc + 2) (a0 :: a1 :: a2 :: a3 :: a4 :: a5 :: a6 :: a7 :: a8 :: a9 :: a10 :: .ref x :: r) st h n ms) : PW K pc (a0 :: a1 :: a2 :: a3 :: a4 :: a5 :: a6 :: a7 :: a8 :: a9 :: a10 :: a11 :: r) (.ref x :: st) h n ms := pw_astore_g (ls := a0 :: a1 :: a2 :: a3 :: a4 :: a5 :: a6 :: a7 :: a8 :: a9 :: a10 :: a11 :: r) d hi (hp_of (i := 10) rfl hp) k
theorem pw_iinc11 {a0 a1 a2 a3 a4 a5 a6 a7 a8 a9 a10 : Value} {r : List Value} {x : Int32} {z : Int} (v : Int32) (d : decode (mC K.2.1) pc = .ok (.iinc 11 z, 3)) (hi : 11 < mL K.2.1) (hp : a10.category = 1) (hv : x + Int32.ofInt z = v) (k : PW K (pc + 3) (a0 :: a1 :: a2 :: a3 :: a4 :: a5 :: a6 :: a7 :: a8 :: a9 :: a10 :: .int v :: r) st h n ms) : PW K pc (a0 :: a1 :: a2 :: a3 :: a4 :: a5 :: a6 :: a7 :: a8 :: a9 :: a10 :: .int x :: r) st h n ms := pw_iinc_g (ls := a0 :: a1 :: a2 :: a3 :: a4 :: a5 :: a6 :: a7 :: a8 :: a9 :: a10 :: .int x :: r) v d hi rfl hv (hp_of (i := 10) rfl hp) k
theorem pw_ist12 {a0 a1 a2 a3 a4 a5 a6 a7 a8 a9 a10 a11 a12 : Value} {r : List Value} {x : Int32} (d : decode (mC K.2.1) pc = .ok (.istore 12, 2)) (hi : 12 < mL K.2.1) (hp : a11.category = 1) (k : PW K (pc + 2) (a0 :: a1 :: a2 :: a3 :: a4 :: a5 :: a6 :: a7 :: a8 :: a9 :: a10 :: a11 :: .int x :: r) st h n ms) : PW K pc (a0 :: a1 :: a2 :: a3 :: a4 :: a5 :: a6 :: a7 :: a8 :: a9 :: a10 :: a11 :: a12 :: r) (.int x :: st) h n ms := pw_istore_g (ls := a0 :: a1 :: a2 :: a3 :: a4 :: a5 :: a6 :: a7 :: a8 :: a9 :: a10 :: a11 :: a12 :: r) d hi (hp_of (i := 11) rfl hp) k
theorem pw_ast12 {a0 a1 a2 a3 a4 a5 a6 a7 a8 a9 a10 a11 a12 : Value} {r : List Value} {x : Nat} (d : decode (mC K.2.1) pc = .ok (.astore 12, 2)) (hi : 12 < mL K.2.1) (hp : a11.category = 1) (k : PW K (pc + 2) (a0 :: a1 :: a2 :: a3 :: a4 :: a5 :: a6 :: a7 :: a8 :: a9 :: a10 :: a11 :: .ref x :: r) st h n ms) : PW K pc (a0 :: a1 :: a2 :: a3 :: a4 :: a5 :: a6 :: a7 :: a8 :: a9 :: a10 :: a11 :: a12 :: r) (.ref x :: st) h n ms := pw_astore_g (ls := a0 :: a1 :: a2 :: a3 :: a4 :: a5 :: a6 :: a7 :: a8 :: a9 :: a10 :: a11 :: a12 :: r) d hi (hp_of (i := 11) rfl hp) k
theorem pw_iinc12 {a0 a1 a2 a3 a4 a5 a6 a7 a8 a9 a10 a11 : Value} {r : List Value} {x : Int32} {z : Int} (v : Int32) (d : decode (mC K.2.1) pc = .ok (.iinc 12 z, 3)) (hi : 12 < mL K.2.1) (hp : a11.category = 1) (hv : x + Int32.ofInt z = v) (k : PW K (pc + 3) (a0 :: a1 :: a2 :: a3 :: a4 :: a5 :: a6 :: a7 :: a8 :: a9 :: a10 :: a11 :: .int v :: r) st h n ms) : PW K pc (a0 :: a1 :: a2 :: a3 :: a4 :: a5 :: a6 :: a7 :: a8 :: a9 :: a10 :: a11 :: .int x :: r) st h n ms := pw_iinc_g (ls := a0 :: a1 :: a2 :: a3 :: a4 :: a5 :: a6 :: a7 :: a8 :: a9 :: a10 :: a11 :: .int x :: r) v d hi rfl hv (hp_of (i := 11) rfl hp) k
theorem pw_lst2 {a0 a1 a2 a3 : Value} {r : List Value} {x : Int64} (d : decode (mC K.2.1) pc = .ok (.lstore_n 2, 1)) (hi : 3 < mL K.2.1) (hp : a1.category = 1) (k : PW K (pc + 1) (a0 :: a1 :: .long x :: .null :: r) st h n ms) : PW K pc (a0 :: a1 :: a2 :: a3 :: r) (.long x :: st) h n ms := pw_lstore_n_g (ls := a0 :: a1 :: a2 :: a3 :: r) d hi (hp_of (i := 1) rfl hp) k
end PWH
