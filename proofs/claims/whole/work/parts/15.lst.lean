/-! lists of names, and the arrays that hold them -/
/-- g holds L from place o on -/
def holdsL (g : Nat → Int32) (o : Nat) (L : List Int32) : Prop := ∀ k, k < L.length → g (o + k) = L.getD k 0
def rowL (h : HP) (a b cap : Nat) (L : List Int32) : Prop := ∃ g, rowAt h a b cap g L.length ∧ holdsL g 0 L
theorem holdsL.at {g : Nat → Int32} {L : List Int32} (h : holdsL g 0 L) {k : Nat} (hk : k < L.length) : g k = L.getD k 0 := by
  have := h k hk
  simpa using this
def ixL (x : Int32) : List Int32 → Option Nat
  | [] => none
  | a :: l => if a = x then some 0 else (ixL x l).map (· + 1)
theorem ixL_lt {x : Int32} : ∀ {L : List Int32} {p : Nat}, ixL x L = some p → p < L.length ∧ L.getD p 0 = x
  | [], p, h => by simp [ixL] at h
  | a :: l, p, h => by
    unfold ixL at h
    split at h
    · cases h; simp_all
    · cases hi : ixL x l with
      | none => simp [hi] at h
      | some q =>
        simp [hi] at h
        subst h
        have := ixL_lt hi
        simp; exact ⟨this.1, by simpa using this.2⟩
theorem ixL_none {x : Int32} : ∀ {L : List Int32}, ixL x L = none ↔ x ∉ L
  | [] => by simp [ixL]
  | a :: l => by
    have ih := ixL_none (x := x) (L := l)
    unfold ixL
    by_cases h : a = x
    · simp [h]
    · simp [h, ih, Ne.symm h]
/-- an index as the program says it -/
def oI : Option Nat → Int32
  | some p => nI p
  | none => -9
theorem oI_none {o : Option Nat} (h : ∀ p, o = some p → p < 1000) : oI o = -9 ↔ o = none := by
  cases o with
  | none => simp [oI]
  | some p =>
    have hp := h p rfl
    simp only [oI, reduceCtorEq, iff_false]
    intro e
    have := congrArg Int32.toInt e
    rw [nI_toInt (by omega)] at this
    have e9 : (-9 : Int32).toInt = -9 := by decide
    omega
theorem plcF_L {x : Int32} {g : Nat → Int32} : ∀ (L : List Int32) (k : Nat), holdsL g k L → plcF g x k L.length = oI ((ixL x L).map (k + ·))
  | [], k, _ => by simp [plcF, ixL, oI]
  | a :: l, k, h => by
    have h0 : g k = a := by have := h 0 (by simp); simpa using this
    have h1 : holdsL g (k + 1) l := by
      intro j hj
      have := h (j + 1) (by simp; omega)
      rw [show k + 1 + j = k + (j + 1) by omega]
      simpa using this
    simp only [List.length_cons, plcF, h0, ixL]
    by_cases hx : a = x
    · simp [hx, oI]
    · rw [if_neg hx, if_neg hx, plcF_L l (k + 1) h1]
      cases ixL x l with
      | none => simp [oI]
      | some p => simp only [oI, Option.map]; congr 1; omega
theorem plc_L {x : Int32} {g : Nat → Int32} {L : List Int32} (h : holdsL g 0 L) : plc g L.length x = oI (ixL x L) := by
  rw [plc, plcF_L L 0 h]
  cases ixL x L <;> simp [oI]
def insL (L : List Int32) (p : Nat) (x : Int32) : List Int32 := L.take p ++ x :: L.drop p
def remL (L : List Int32) (p : Nat) : List Int32 := L.take p ++ L.drop (p + 1)
def swpL (L : List Int32) (p : Nat) : List Int32 := (L.set p (L.getD (p - 1) 0)).set (p - 1) (L.getD p 0)
theorem insL_len {L : List Int32} {p : Nat} {x : Int32} : (insL L p x).length = L.length + 1 := by simp [insL]; omega
theorem remL_len {L : List Int32} {p : Nat} (hp : p < L.length) : (remL L p).length = L.length - 1 := by simp [remL]; omega
theorem swpL_len {L : List Int32} {p : Nat} : (swpL L p).length = L.length := by simp [swpL]
theorem getD_take {L : List Int32} {p k : Nat} (h : k < p) : (L.take p).getD k 0 = L.getD k 0 := by
  simp [List.getD, List.getElem?_take, h]
theorem getD_drop {L : List Int32} {p k : Nat} : (L.drop p).getD k 0 = L.getD (p + k) 0 := by
  simp [List.getD, List.getElem?_drop]
theorem insL_at {L : List Int32} {p k : Nat} {x : Int32} (hp : p ≤ L.length) : (insL L p x).getD k 0 = if k < p then L.getD k 0 else if k = p then x else L.getD (k - 1) 0 := by
  have hl : (L.take p).length = p := by simp; omega
  unfold insL
  by_cases h1 : k < p
  · rw [if_pos h1, List.getD_eq_getElem?_getD, List.getElem?_append_left (by omega), ← List.getD_eq_getElem?_getD, getD_take h1]
  · rw [if_neg h1, List.getD_eq_getElem?_getD, List.getElem?_append_right (by omega), hl]
    by_cases h2 : k = p
    · subst h2; simp
    · rw [if_neg h2]
      obtain ⟨j, rfl⟩ : ∃ j, k = p + 1 + j := ⟨k - p - 1, by omega⟩
      rw [show p + 1 + j - p = j + 1 by omega, show p + 1 + j - 1 = p + j by omega, List.getElem?_cons_succ, List.getElem?_drop, List.getD_eq_getElem?_getD]
theorem remL_at {L : List Int32} {p k : Nat} (hp : p < L.length) : (remL L p).getD k 0 = if k < p then L.getD k 0 else L.getD (k + 1) 0 := by
  have hl : (L.take p).length = p := by simp; omega
  unfold remL
  by_cases h1 : k < p
  · rw [if_pos h1, List.getD_eq_getElem?_getD, List.getElem?_append_left (by omega), ← List.getD_eq_getElem?_getD, getD_take h1]
  · rw [if_neg h1, List.getD_eq_getElem?_getD, List.getElem?_append_right (by omega), hl, List.getElem?_drop, List.getD_eq_getElem?_getD]
    congr 2; omega
theorem swpL_at {L : List Int32} {p k : Nat} (hp : p < L.length) (h1 : 1 ≤ p) : (swpL L p).getD k 0 = if k = p then L.getD (p - 1) 0 else if k = p - 1 then L.getD p 0 else L.getD k 0 := by
  unfold swpL
  simp only [List.getD_eq_getElem?_getD, List.getElem?_set, List.length_set]
  by_cases h2 : k = p
  · subst h2
    have : ¬ k - 1 = k := by omega
    simp [this, hp]
  · by_cases h3 : k = p - 1
    · subst h3
      have : p - 1 < L.length := by omega
      simp [this]; omega
    · rw [if_neg (Ne.symm h3), if_neg (Ne.symm h2), if_neg h2, if_neg h3]
theorem holdsL_of {g : Nat → Int32} {L : List Int32} (h : ∀ k, k < L.length → g k = L.getD k 0) : holdsL g 0 L := by
  intro k hk
  rw [Nat.zero_add]
  exact h k hk
theorem holds_ins {g g' : Nat → Int32} {L : List Int32} {p : Nat} {x : Int32} (h : holdsL g 0 L) (hp : p ≤ L.length) (hg : ∀ k, k < L.length + 1 → g' k = insF g p x k) : holdsL g' 0 (insL L p x) := by
  apply holdsL_of
  intro k hk
  rw [insL_len] at hk
  rw [hg k hk, insL_at hp, insF]
  by_cases h1 : k < p
  · rw [if_pos h1, if_pos h1, h.at (by omega)]
  · by_cases h2 : k = p
    · rw [if_neg h1, if_neg h1, if_pos h2, if_pos h2]
    · rw [if_neg h1, if_neg h1, if_neg h2, if_neg h2, h.at (by omega)]
theorem holds_rem {g g' : Nat → Int32} {L : List Int32} {p : Nat} (h : holdsL g 0 L) (hp : p < L.length) (hg : ∀ k, k < L.length - 1 → g' k = remF g p k) : holdsL g' 0 (remL L p) := by
  apply holdsL_of
  intro k hk
  rw [remL_len hp] at hk
  rw [hg k hk, remL_at hp, remF]
  by_cases h1 : k < p
  · rw [if_pos h1, if_pos h1, h.at (by omega)]
  · rw [if_neg h1, if_neg h1, h.at (by omega)]
theorem holds_swp {g g' : Nat → Int32} {L : List Int32} {p : Nat} (h : holdsL g 0 L) (hp : p < L.length) (h1 : 1 ≤ p) (hg : ∀ k, k < L.length → g' k = swpF g p k) : holdsL g' 0 (swpL L p) := by
  apply holdsL_of
  intro k hk
  rw [swpL_len] at hk
  rw [hg k hk, swpL_at hp h1, swpF]
  by_cases h2 : k = p
  · rw [if_pos h2, if_pos h2, h.at (by omega)]
  · by_cases h3 : k = p - 1
    · rw [if_neg h2, if_neg h2, if_pos h3, if_pos h3, h.at hp]
    · rw [if_neg h2, if_neg h2, if_neg h3, if_neg h3, h.at hk]
/-! what saying does -/
def bit1 (x : Int32) : Int32 := nI 1 <<< (x &&& 31)
abbrev SLs : Type := List Int32 × Int32
def tkStep (far : Nat) (T chief : Int32) (st cl : Nat → Int32) (k : Nat) (s : SLs) : SLs :=
  if cl k = -9 ∨ cl k = chief ∨ ¬ T ≤ st k ∨ ixL (cl k) s.1 ≠ none then s else (insL s.1 (min far s.1.length) (cl k), s.2 ||| bit1 (cl k))
def tkS (far : Nat) (T chief : Int32) (st cl : Nat → Int32) (L : List Int32) : Nat → SLs
  | 0 => (L, nI 0)
  | k + 1 => tkStep far T chief st cl k (tkS far T chief st cl L k)
def mvStep (far : Nat) (S : Int32) (st cl : Nat → Int32) (k : Nat) (s : SLs) : SLs :=
  if cl k = -9 ∨ ¬ S ≤ st k then s else match ixL (cl k) s.1 with
    | some p => if far < p then (swpL s.1 p, s.2 ||| bit1 (cl k)) else s
    | none => s
def mvS (far : Nat) (S : Int32) (st cl : Nat → Int32) (L : List Int32) : Nat → SLs
  | 0 => (L, nI 0)
  | k + 1 => mvStep far S st cl k (mvS far S st cl L k)
def weakB (st cl : Nat → Int32) (w x : Int32) : Bool := !strB st cl x w 6 && decide (0 < cntE cl x 6)
def dropL (s : SLs) (p : Nat) : SLs := (remL s.1 p, s.2 ||| bit1 (s.1.getD p 0))
def dwF (far : Nat) (w : Int32) (st cl : Nat → Int32) : Nat → SLs → SLs
  | 0, s => s
  | m + 1, s => dwF far w st cl m (if weakB st cl w (s.1.getD (far + m) 0) then dropL s (far + m) else s)
def lhF (st cl : Nat → Int32) (L : List Int32) : Nat → Nat → Nat → Nat
  | _, 0, b => b
  | k, m + 1, b => lhF st cl L (k + 1) m (if hldF st cl (L.getD k 0) 6 < hldF st cl (L.getD b 0) 6 then k else b)
def lh (far : Nat) (st cl : Nat → Int32) (L : List Int32) : Nat := lhF st cl L (far + 1) (L.length - 1 - (far + 1)) far
def dbF (far hold : Nat) (st cl : Nat → Int32) : Nat → SLs → SLs
  | 0, s => s
  | m + 1, s => if hold < s.1.length ∧ far + 1 < s.1.length then dbF far hold st cl m (dropL s (lh far st cl s.1)) else s
/-- a list said: the law's numbers lw, the chief (-9: none): the list, taken, moved, dropped -/
def sayS (lw st cl : Nat → Int32) (L : List Int32) (chief : Int32) : List Int32 × Int32 × Int32 × Int32 :=
  let far := (lw 1).toInt.toNat
  let hold := (lw 0).toInt.toNat
  let t := tkS far (lw 3) chief st cl L 6
  let m := mvS far (lw 4) st cl t.1 6
  let w := dwF far (lw 2) st cl (m.1.length - far) (m.1, nI 0)
  let L4 := if chief = -9 then w.1 else w.1 ++ [chief]
  let b := dbF far hold st cl L4.length (L4, w.2)
  (b.1, t.2, m.2, b.2)
theorem tkS_len (far : Nat) (T chief : Int32) (st cl : Nat → Int32) (L : List Int32) : ∀ k, (tkS far T chief st cl L k).1.length ≤ L.length + k
  | 0 => Nat.le_refl _
  | k + 1 => by
    have := tkS_len far T chief st cl L k
    unfold tkS tkStep
    split
    · omega
    · simp only [insL_len]; omega
theorem mvS_len (far : Nat) (S : Int32) (st cl : Nat → Int32) (L : List Int32) : ∀ k, (mvS far S st cl L k).1.length = L.length
  | 0 => rfl
  | k + 1 => by
    have := mvS_len far S st cl L k
    unfold mvS mvStep
    split
    · exact this
    · split
      · split
        · simp only [swpL_len]; exact this
        · exact this
      · exact this
theorem lhF_lt {st cl : Nat → Int32} {L : List Int32} : ∀ m k b, k + m < L.length → b < L.length → lhF st cl L k m b < L.length ∧ (b < k → lhF st cl L k m b < k + m + 1)
  | 0, k, b, h1, h2 => by simp [lhF]; omega
  | m + 1, k, b, h1, h2 => by
    unfold lhF
    have a1 := lhF_lt (st := st) (cl := cl) (L := L) m (k + 1) (if hldF st cl (L.getD k 0) 6 < hldF st cl (L.getD b 0) 6 then k else b) (by omega) (by split <;> omega)
    refine ⟨a1.1, fun hb => ?_⟩
    have := a1.2 (by split <;> omega)
    omega
theorem lh_lt {far : Nat} {st cl : Nat → Int32} {L : List Int32} (h : far + 1 < L.length) : lh far st cl L < L.length := (lhF_lt _ _ _ (by omega) (by omega)).1
theorem dwF_len (far : Nat) (w : Int32) (st cl : Nat → Int32) : ∀ m s, far + m ≤ s.1.length → (dwF far w st cl m s).1.length ≤ s.1.length
  | 0, s, _ => Nat.le_refl _
  | m + 1, s, h => by
    unfold dwF
    split
    · have := dwF_len far w st cl m (dropL s (far + m)) (by simp only [dropL]; rw [remL_len (by omega)]; omega)
      simp only [dropL] at this ⊢
      rw [remL_len (by omega)] at this
      omega
    · exact dwF_len far w st cl m s (by omega)
