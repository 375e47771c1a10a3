/-! the law's text -/
abbrev blP : Int32 → Bool := fun c => decide (c = nI 32)
abbrev skB (g : Nat → Int32) (sz k : Nat) : Nat := aft blP g k (sz - k)
abbrev alL (g : Nat → Int32) (sz k : Nat) : Nat := aft (rg 97 122) g k (sz - k)
abbrev adD (g : Nat → Int32) (sz k : Nat) : Nat := aft (rg 48 57) g k (sz - k)
theorem aft_in (p : Int32 → Bool) (g : Nat → Int32) : ∀ m k j, k ≤ j → j < aft p g k m → p (g j) = true
  | 0, k, j, h1, h2 => by rw [aft] at h2; omega
  | m + 1, k, j, h1, h2 => by
    rw [aft] at h2
    split at h2
    · rename_i e
      by_cases ej : j = k
      · subst ej; exact e
      · exact aft_in p g m (k + 1) j (by omega) h2
    · omega
theorem aft_end (p : Int32 → Bool) (g : Nat → Int32) : ∀ m k, aft p g k m < k + m → p (g (aft p g k m)) = false
  | 0, k, h => by rw [aft] at h; omega
  | m + 1, k, h => by
    rw [aft] at h ⊢
    split at h
    · rename_i e
      rw [if_pos e]
      exact aft_end p g m (k + 1) (by omega)
    · rename_i e
      rw [if_neg e]
      simpa using e
theorem aft_congr {p : Int32 → Bool} {g g' : Nat → Int32} : ∀ m k, (∀ j, k ≤ j → j < k + m → g j = g' j) → aft p g k m = aft p g' k m
  | 0, k, _ => rfl
  | m + 1, k, h => by
    rw [aft, aft, h k (by omega) (by omega), aft_congr m (k + 1) (fun j h1 h2 => h j (by omega) (by omega))]
def kBy (i k : Nat) : Int32 := (kByt.getD i []).getD k 0
def kLe (i : Nat) : Nat := kLen.getD i 0
/-- the word i stands at p -/
def wB (g : Nat → Int32) (sz p i : Nat) : Bool := decide (alL g sz p - p = kLe i ∧ ∀ k, k < kLe i → byA g sz (p + k) = kBy i k)
def itF (g : Nat → Int32) (sz p : Nat) : Nat → Nat → Int32
  | 0, _ => -9
  | m + 1, i => if wB g sz p i then nI i else itF g sz p m (i + 1)
abbrev itI (g : Nat → Int32) (sz p : Nat) : Int32 := itF g sz p 5 0
/-- what the reference makes of letters -/
def addL (x : Int64) (c : Int32) : Int64 := if c = 0 then x else 256 * x + c.toInt64
def wvL (g : Nat → Int32) (p : Nat) : Nat → Int64
  | 0 => 0
  | j + 1 => if j < 6 then addL (wvL g p j) (g (p + j)) else wvL g p j
def wvN (x : Nat → Nat) : Nat → Nat
  | 0 => 0
  | j + 1 => if j < 6 then 256 * wvN x j + x j else wvN x j
def kNum : List Nat := [1752132708, 6709618, 2003132779, 1952541541, 495873781348]
def woI (v : Int64) : Int32 := if v = oL 1752132708 then nI 0 else if v = oL 6709618 then nI 1 else if v = oL 2003132779 then nI 2 else if v = oL 1952541541 then nI 3 else if v = oL 495873781348 then nI 4 else -9
theorem oL_inj {a b : Nat} (ha : a < 2 ^ 63) (hb : b < 2 ^ 63) : oL a = oL b ↔ a = b := by
  constructor
  · intro e
    have := congrArg (fun z : Int64 => z.toBitVec.toNat) e
    have h2 : ∀ c : Nat, c < 2 ^ 63 → (oL c).toBitVec.toNat = c := fun c hc => by
      show (BitVec.ofNat 64 c).toNat = c
      rw [BitVec.toNat_ofNat, Nat.mod_eq_of_lt (by omega)]
    simp only [h2 a ha, h2 b hb] at this
    exact this
  · intro e; rw [e]
theorem nI_long {x : Nat} (hx : x < 2147483648) : (nI x).toInt64 = oL x := by
  apply Int64.toInt_inj.mp
  rw [Int32.toInt_toInt64, nI_toInt hx]
  show (x : Int) = (Int64.ofNat x).toInt
  rw [Int64.toInt_ofNat_of_lt (by omega)]
theorem wvL_N {g : Nat → Int32} {p n : Nat} {x : Nat → Nat} (hx : ∀ k, k < n → 97 ≤ x k ∧ x k ≤ 122 ∧ g (p + k) = nI (x k)) : ∀ j, j ≤ n → wvL g p j = oL (wvN x j)
  | 0, _ => rfl
  | j + 1, hj => by
    have ih := wvL_N hx j (by omega)
    rw [wvL, wvN]
    split
    · obtain ⟨h1, h2, h3⟩ := hx j (by omega)
      rw [addL, h3, if_neg (fun q => by have := (nI_eq (b := 0) (by omega) (by omega)).mp q; omega), nI_long (by omega), ih]
      rw [show (256 : Int64) = oL 256 from rfl, ← oL_add]
      congr 1
      exact (Int64.ofNat_mul 256 (wvN x j)).symm
    · exact ih
theorem wvN_6 (x : Nat → Nat) : ∀ d, wvN x (6 + d) = wvN x 6
  | 0 => rfl
  | d + 1 => by
    rw [show 6 + (d + 1) = (6 + d) + 1 by omega, wvN, if_neg (by omega), wvN_6 x d]
theorem wv_1 (x : Nat → Nat) : wvN x 1 = x 0 := by simp [wvN]
theorem wv_2 (x : Nat → Nat) : wvN x 2 = 256 * x 0 + x 1 := by rw [wvN, if_pos (by omega), wv_1]
theorem wv_3 (x : Nat → Nat) : wvN x 3 = 256 * (256 * x 0 + x 1) + x 2 := by rw [wvN, if_pos (by omega), wv_2]
theorem wv_4 (x : Nat → Nat) : wvN x 4 = 256 * (256 * (256 * x 0 + x 1) + x 2) + x 3 := by rw [wvN, if_pos (by omega), wv_3]
theorem wv_5 (x : Nat → Nat) : wvN x 5 = 256 * (256 * (256 * (256 * x 0 + x 1) + x 2) + x 3) + x 4 := by rw [wvN, if_pos (by omega), wv_4]
theorem wv_6 (x : Nat → Nat) : wvN x 6 = 256 * (256 * (256 * (256 * (256 * x 0 + x 1) + x 2) + x 3) + x 4) + x 5 := by rw [wvN, if_pos (by omega), wv_5]
theorem wv_eq {x : Nat → Nat} {n : Nat} (hx : ∀ k, k < n → 97 ≤ x k ∧ x k ≤ 122) :
    (wvN x n = 1752132708 ↔ n = 4 ∧ x 0 = 104 ∧ x 1 = 111 ∧ x 2 = 108 ∧ x 3 = 100) ∧ (wvN x n = 6709618 ↔ n = 3 ∧ x 0 = 102 ∧ x 1 = 97 ∧ x 2 = 114) ∧ (wvN x n = 2003132779 ↔ n = 4 ∧ x 0 = 119 ∧ x 1 = 101 ∧ x 2 = 97 ∧ x 3 = 107) ∧ (wvN x n = 1952541541 ↔ n = 4 ∧ x 0 = 116 ∧ x 1 = 97 ∧ x 2 = 107 ∧ x 3 = 101) ∧ (wvN x n = 495873781348 ↔ n = 5 ∧ x 0 = 115 ∧ x 1 = 116 ∧ x 2 = 97 ∧ x 3 = 110 ∧ x 4 = 100) ∧ wvN x n < 2 ^ 63 := by
  by_cases h6 : 6 ≤ n
  · obtain ⟨d, rfl⟩ : ∃ d, n = 6 + d := ⟨n - 6, by omega⟩
    have := hx 0 (by omega)
    have := hx 1 (by omega)
    have := hx 2 (by omega)
    have := hx 3 (by omega)
    have := hx 4 (by omega)
    have := hx 5 (by omega)
    rw [wvN_6, wv_6]
    omega
  · have h : n = 0 ∨ n = 1 ∨ n = 2 ∨ n = 3 ∨ n = 4 ∨ n = 5 := by omega
    rcases h with rfl | rfl | rfl | rfl | rfl | rfl
    · rw [show wvN x 0 = 0 from rfl]; omega
    · have := hx 0 (by omega)
      rw [wv_1]; omega
    · have := hx 0 (by omega)
      have := hx 1 (by omega)
      rw [wv_2]; omega
    · have := hx 0 (by omega)
      have := hx 1 (by omega)
      have := hx 2 (by omega)
      rw [wv_3]; omega
    · have := hx 0 (by omega)
      have := hx 1 (by omega)
      have := hx 2 (by omega)
      have := hx 3 (by omega)
      rw [wv_4]; omega
    · have := hx 0 (by omega)
      have := hx 1 (by omega)
      have := hx 2 (by omega)
      have := hx 3 (by omega)
      have := hx 4 (by omega)
      rw [wv_5]; omega
theorem ball4 {P : Nat → Prop} : (∀ k, k < 4 → P k) ↔ P 0 ∧ P 1 ∧ P 2 ∧ P 3 := by
  constructor
  · intro h; exact ⟨h 0 (by omega), h 1 (by omega), h 2 (by omega), h 3 (by omega)⟩
  · rintro ⟨h0, h1, h2, h3⟩ k hk
    have h : k = 0 ∨ k = 1 ∨ k = 2 ∨ k = 3 := by omega
    rcases h with rfl | rfl | rfl | rfl <;> assumption
theorem ball3 {P : Nat → Prop} : (∀ k, k < 3 → P k) ↔ P 0 ∧ P 1 ∧ P 2 := by
  constructor
  · intro h; exact ⟨h 0 (by omega), h 1 (by omega), h 2 (by omega)⟩
  · rintro ⟨h0, h1, h2⟩ k hk
    have h : k = 0 ∨ k = 1 ∨ k = 2 := by omega
    rcases h with rfl | rfl | rfl <;> assumption
theorem ball5 {P : Nat → Prop} : (∀ k, k < 5 → P k) ↔ P 0 ∧ P 1 ∧ P 2 ∧ P 3 ∧ P 4 := by
  constructor
  · intro h; exact ⟨h 0 (by omega), h 1 (by omega), h 2 (by omega), h 3 (by omega), h 4 (by omega)⟩
  · rintro ⟨h0, h1, h2, h3, h4⟩ k hk
    have h : k = 0 ∨ k = 1 ∨ k = 2 ∨ k = 3 ∨ k = 4 := by omega
    rcases h with rfl | rfl | rfl | rfl | rfl <;> assumption
theorem wo_it {g : Nat → Int32} {sz p : Nat} (hp : p ≤ sz) : woI (wvL g p (alL g sz p - p)) = itI g sz p := by
  have hle : p ≤ alL g sz p ∧ alL g sz p ≤ p + (sz - p) := aft_le (rg 97 122) g (sz - p) p
  obtain ⟨n, hn⟩ : ∃ n, n = alL g sz p - p := ⟨_, rfl⟩
  have hin : ∀ k, k < n → rg 97 122 (g (p + k)) = true := fun k hk => aft_in (rg 97 122) g (sz - p) p (p + k) (by omega) (show p + k < alL g sz p by omega)
  obtain ⟨x, hx⟩ : ∃ x : Nat → Nat, ∀ k, k < n → 97 ≤ x k ∧ x k ≤ 122 ∧ g (p + k) = nI (x k) := by
    refine ⟨fun k => (g (p + k)).toInt.toNat, fun k hk => ?_⟩
    have h1 := rg_t (hin k hk)
    show 97 ≤ (g (p + k)).toInt.toNat ∧ (g (p + k)).toInt.toNat ≤ 122 ∧ g (p + k) = nI (g (p + k)).toInt.toNat
    refine ⟨by omega, by omega, ?_⟩
    rw [i32_eq, nI_toInt (by omega)]; omega
  have hb : ∀ k, k < n → byA g sz (p + k) = nI (x k) := fun k hk => by rw [byA, if_pos (by omega), (hx k hk).2.2]
  obtain ⟨e0, e1, e2, e3, e4, elt⟩ := wv_eq (x := x) (n := n) (fun k hk => ⟨(hx k hk).1, (hx k hk).2.1⟩)
  have eqn : ∀ k v, k < n → v < 2147483648 → (byA g sz (p + k) = nI v ↔ x k = v) := fun k v hk hv => by
    rw [hb k hk, nI_eq (by have := (hx k hk).2.1; omega) hv]
  have w0 : wB g sz p 0 = true ↔ wvN x n = 1752132708 := by
    unfold wB
    rw [decide_eq_true_iff, ← hn, e0, show kLe 0 = 4 from rfl, ball4]
    refine and_congr_right (fun h => ?_)
    exact and_congr (eqn 0 104 (by omega) (by omega)) (and_congr (eqn 1 111 (by omega) (by omega)) (and_congr (eqn 2 108 (by omega) (by omega)) (eqn 3 100 (by omega) (by omega))))
  have w1 : wB g sz p 1 = true ↔ wvN x n = 6709618 := by
    unfold wB
    rw [decide_eq_true_iff, ← hn, e1, show kLe 1 = 3 from rfl, ball3]
    refine and_congr_right (fun h => ?_)
    exact and_congr (eqn 0 102 (by omega) (by omega)) (and_congr (eqn 1 97 (by omega) (by omega)) (eqn 2 114 (by omega) (by omega)))
  have w2 : wB g sz p 2 = true ↔ wvN x n = 2003132779 := by
    unfold wB
    rw [decide_eq_true_iff, ← hn, e2, show kLe 2 = 4 from rfl, ball4]
    refine and_congr_right (fun h => ?_)
    exact and_congr (eqn 0 119 (by omega) (by omega)) (and_congr (eqn 1 101 (by omega) (by omega)) (and_congr (eqn 2 97 (by omega) (by omega)) (eqn 3 107 (by omega) (by omega))))
  have w3 : wB g sz p 3 = true ↔ wvN x n = 1952541541 := by
    unfold wB
    rw [decide_eq_true_iff, ← hn, e3, show kLe 3 = 4 from rfl, ball4]
    refine and_congr_right (fun h => ?_)
    exact and_congr (eqn 0 116 (by omega) (by omega)) (and_congr (eqn 1 97 (by omega) (by omega)) (and_congr (eqn 2 107 (by omega) (by omega)) (eqn 3 101 (by omega) (by omega))))
  have w4 : wB g sz p 4 = true ↔ wvN x n = 495873781348 := by
    unfold wB
    rw [decide_eq_true_iff, ← hn, e4, show kLe 4 = 5 from rfl, ball5]
    refine and_congr_right (fun h => ?_)
    exact and_congr (eqn 0 115 (by omega) (by omega)) (and_congr (eqn 1 116 (by omega) (by omega)) (and_congr (eqn 2 97 (by omega) (by omega)) (and_congr (eqn 3 110 (by omega) (by omega)) (eqn 4 100 (by omega) (by omega)))))
  rw [← hn, wvL_N hx n (Nat.le_refl _), woI]
  simp only [oL_inj elt (show 1752132708 < 2 ^ 63 by decide), oL_inj elt (show 6709618 < 2 ^ 63 by decide), oL_inj elt (show 2003132779 < 2 ^ 63 by decide), oL_inj elt (show 1952541541 < 2 ^ 63 by decide), oL_inj elt (show 495873781348 < 2 ^ 63 by decide), ← w0, ← w1, ← w2, ← w3, ← w4]
  simp only [itI, itF]
theorem it_rng {g : Nat → Int32} {sz p : Nat} : ∀ m i, itF g sz p m i = -9 ∨ ∃ j, i ≤ j ∧ j < i + m ∧ itF g sz p m i = nI j
  | 0, _ => Or.inl rfl
  | m + 1, i => by
    rw [itF]
    split
    · exact Or.inr ⟨i, by omega, by omega, rfl⟩
    · rcases it_rng (g := g) (sz := sz) (p := p) m (i + 1) with h | ⟨j, h1, h2, h3⟩
      · exact Or.inl h
      · exact Or.inr ⟨j, by omega, by omega, h3⟩
theorem it_no {g : Nat → Int32} {sz p : Nat} (h : alL g sz p = p) : itI g sz p = -9 := by
  have w : ∀ i, i < 5 → wB g sz p i = false := fun i hi => by
    unfold wB
    rw [decide_eq_false_iff_not, h, Nat.sub_self]
    rintro ⟨q, -⟩
    have : ∀ i : Fin 5, kLe i.1 ≠ 0 := by decide
    exact this ⟨i, hi⟩ q.symm
  simp only [itI, itF, w 0 (by omega), w 1 (by omega), w 2 (by omega), w 3 (by omega), w 4 (by omega)]
  rfl
/-- what the reference makes of digits -/
def dgI (g : Nat → Int32) (p : Nat) : Nat → Int32
  | 0 => nI 0
  | j + 1 => if nI 99 < dgI g p j then dgI g p j else nI 10 * dgI g p j + g (p + j) - nI 48
def tkN (g : Nat → Int32) (sz p : Nat) : Nat :=
  if sz ≤ p then 0 else if rg 97 122 (g p) then (if itI g sz p = -9 then 4 else 1) else if rg 48 57 (g p) then (if nI 99 < dgI g p (adD g sz p - p) ∨ (g p = nI 48 ∧ 1 < adD g sz p - p) then 4 else 2) else if g p = nI 59 then 3 else 4
def tkV (g : Nat → Int32) (sz p : Nat) (vl : Int32) : Int32 := if sz ≤ p then vl else if rg 97 122 (g p) then itI g sz p else if rg 48 57 (g p) then dgI g p (adD g sz p - p) else vl
def tkX (g : Nat → Int32) (sz p : Nat) : Nat := if sz ≤ p then p else if rg 97 122 (g p) then alL g sz p else if rg 48 57 (g p) then adD g sz p else p + 1
theorem aft_1 {p : Int32 → Bool} {g : Nat → Int32} {sz k : Nat} (hk : k < sz) (h : p (g k) = true) : k < aft p g k (sz - k) := by
  obtain ⟨m, hm⟩ : ∃ m, sz - k = m + 1 := ⟨sz - k - 1, by omega⟩
  have := (aft_le p g m (k + 1)).1
  rw [hm, aft, if_pos h]; omega
theorem aft_0 {p : Int32 → Bool} {g : Nat → Int32} {sz k : Nat} (h : k < sz → p (g k) = false) : aft p g k (sz - k) = k := by
  cases hm : sz - k with
  | zero => rfl
  | succ m => rw [aft, h (by omega)]; rfl
theorem tk_1 {g : Nat → Int32} {sz p : Nat} (hp : p < sz) : (tkN g sz p = 1 ↔ itI g sz p ≠ -9) ∧ (tkN g sz p = 1 → tkX g sz p = alL g sz p ∧ ∀ vl, tkV g sz p vl = itI g sz p) := by
  unfold tkN tkX tkV
  simp only [if_neg (show ¬ sz ≤ p by omega)]
  by_cases hl : rg 97 122 (g p) = true
  · simp only [hl, if_true]
    by_cases e : itI g sz p = -9
    · simp [e]
    · simp [e]
  · have hl' : rg 97 122 (g p) = false := by simpa using hl
    have hno : itI g sz p = -9 := it_no (aft_0 (fun _ => hl'))
    simp only [hl', hno, ne_eq, not_true_eq_false, iff_false]
    have : ∀ P Q : Prop, [Decidable P] → [Decidable Q] → (if rg 48 57 (g p) = true then (if P then 4 else 2) else if Q then 3 else 4) ≠ 1 := by
      intro P Q _ _
      split
      · split <;> omega
      · split <;> omega
    have h1 := this (nI 99 < dgI g p (adD g sz p - p) ∨ (g p = nI 48 ∧ 1 < adD g sz p - p)) (g p = nI 59)
    exact ⟨fun q => h1 q, fun q => absurd q h1⟩
theorem tk_0 {g : Nat → Int32} {sz p : Nat} : tkN g sz p = 0 ↔ sz ≤ p := by
  unfold tkN
  by_cases h : sz ≤ p
  · simp [h]
  · simp only [if_neg h]
    refine ⟨fun q => ?_, fun q => absurd q h⟩
    exfalso
    split at q
    · split at q <;> omega
    · split at q
      · split at q <;> omega
      · split at q <;> omega
theorem tk_3 {g : Nat → Int32} {sz p : Nat} : (tkN g sz p = 3 ↔ byA g sz p = nI 59) ∧ (tkN g sz p = 3 → p < sz ∧ tkX g sz p = p + 1) := by
  unfold tkN tkX byA
  by_cases h : sz ≤ p
  · simp only [if_pos h, if_neg (show ¬ p < sz by omega)]
    exact ⟨⟨fun q => (by omega), fun q => absurd q (by decide)⟩, fun q => by omega⟩
  · simp only [if_neg h, if_pos (show p < sz by omega)]
    by_cases hl : rg 97 122 (g p) = true
    · have h1 := rg_t hl
      have hne : g p ≠ nI 59 := fun q => by rw [q, nI_toInt (by omega)] at h1; omega
      simp only [hl, if_true]
      refine ⟨⟨fun q => ?_, fun q => absurd q hne⟩, fun q => ?_⟩ <;> (split at q <;> omega)
    · have hl' : rg 97 122 (g p) = false := by simpa using hl
      by_cases hd : rg 48 57 (g p) = true
      · have h1 := rg_t hd
        have hne : g p ≠ nI 59 := fun q => by rw [q, nI_toInt (by omega)] at h1; omega
        simp only [hl', hd, if_true]
        refine ⟨⟨fun q => ?_, fun q => absurd q hne⟩, fun q => ?_⟩ <;> (simp only [Bool.false_eq_true, if_false] at q; split at q <;> omega)
      · have hd' : rg 48 57 (g p) = false := by simpa using hd
        simp only [hl', hd', Bool.false_eq_true, if_false]
        by_cases e : g p = nI 59
        · simp [e]; omega
        · simp [e]
/-! numbers -/
theorem dg_big {g : Nat → Int32} {p : Nat} : ∀ d n, nI 99 < dgI g p n → dgI g p (n + d) = dgI g p n
  | 0, _, _ => rfl
  | d + 1, n, h => by
    rw [show n + (d + 1) = (n + d) + 1 by omega, dgI, dg_big d n h, if_pos h]
theorem dg_1 (g : Nat → Int32) (p : Nat) : dgI g p 1 = g p - nI 48 := by
  have e : ¬ nI 99 < nI 0 := by decide
  rw [dgI, dgI, if_neg e, show nI 10 * nI 0 = 0 by decide, Int32.zero_add, Nat.add_zero]
theorem dig_x {c : Int32} (h : rg 48 57 c = true) : ∃ x, x ≤ 9 ∧ c = nI (48 + x) := by
  have := rg_t h
  refine ⟨(c.toInt - 48).toNat, by omega, ?_⟩
  rw [i32_eq, nI_toInt (by omega)]; omega
theorem tk_2 {g : Nat → Int32} {sz p : Nat} : (tkN g sz p = 2 → numS g sz p = tkV g sz p (nI 0) ∧ (∀ vl, tkV g sz p vl = tkV g sz p (nI 0)) ∧ tkX g sz p = adD g sz p ∧ p < sz) ∧ (tkN g sz p ≠ 2 → numS g sz p = -9) := by
  by_cases h : sz ≤ p
  · have e0 : tkN g sz p = 0 := tk_0.mpr h
    have e1 : aft (rg 48 57) g p (sz - p) = p := aft_0 (fun q => by omega)
    refine ⟨fun q => by omega, fun _ => ?_⟩
    unfold numS
    rw [e1, Nat.sub_self, if_neg (by omega), if_neg (by omega)]
  · have hp : p < sz := by omega
    by_cases hd : rg 48 57 (g p) = true
    · have hd2 := rg_t hd
      have hl' : rg 97 122 (g p) = false := rg_no (by omega)
      have h1 : p < adD g sz p := aft_1 hp hd
      have hle : p ≤ adD g sz p ∧ adD g sz p ≤ p + (sz - p) := aft_le (rg 48 57) g (sz - p) p
      obtain ⟨n, hn⟩ : ∃ n, n = adD g sz p - p := ⟨_, rfl⟩
      have hin : ∀ k, k < n → rg 48 57 (g (p + k)) = true := fun k hk => aft_in (rg 48 57) g (sz - p) p (p + k) (by omega) (show p + k < adD g sz p by omega)
      obtain ⟨x0, hx0, ex0⟩ := dig_x hd
      have hb0 : byA g sz p = g p := by rw [byA, if_pos hp]
      have e48 : nI (48 + x0) = nI 48 ↔ x0 = 0 := by rw [nI_eq (by omega) (by omega)]; omega
      have d1 : dgI g p 1 = nI x0 := by rw [dg_1, ex0, pk_sub (by omega), show 48 + x0 - 48 = x0 by omega]
      unfold tkN tkV tkX numS
      simp only [if_neg h, hl', hd, if_true, Bool.false_eq_true, if_false, ← hn, hb0]
      have hn1 : 1 ≤ n := by omega
      have lt99 : ∀ y : Nat, y < 2147483648 → (nI 99 < nI y ↔ 99 < y) := fun y hy => by rw [i32_lt, nI_toInt (by omega), nI_toInt hy]; omega
      by_cases n1 : n = 1
      · subst n1
        rw [d1, if_neg (show ¬ (nI 99 < nI x0 ∨ (g p = nI 48 ∧ 1 < 1)) from fun q => q.elim (fun q => by have := (lt99 _ (by omega)).mp q; omega) (fun q => by omega))]
        refine ⟨fun _ => ⟨?_, fun _ => trivial, trivial, hp⟩, fun q => absurd rfl q⟩
        rw [if_pos rfl, ex0, pk_sub (by omega), show 48 + x0 - 48 = x0 by omega]
      · obtain ⟨x1, hx1, ex1⟩ := dig_x (hin 1 (by omega))
        have hb1 : byA g sz (p + 1) = g (p + 1) := by rw [byA, if_pos (by omega)]
        have d2 : dgI g p 2 = nI (10 * x0 + x1) := by
          rw [dgI, d1, if_neg (fun q => by have := (lt99 _ (by omega)).mp q; omega), ex1, pk_mul, nI_add, pk_sub (by omega)]
          congr 1; omega
        rw [if_neg n1]
        by_cases n2 : n = 2
        · subst n2
          have gz : g p = nI 48 ↔ x0 = 0 := by rw [ex0, e48]
          rw [d2, hb1]
          by_cases z : x0 = 0
          · rw [if_pos (show nI 99 < nI (10 * x0 + x1) ∨ (g p = nI 48 ∧ 1 < 2) from Or.inr ⟨gz.mpr z, by omega⟩), if_neg (show ¬ (2 = 2 ∧ g p ≠ nI 48) from fun q => q.2 (gz.mpr z))]
            exact ⟨fun q => by omega, fun _ => rfl⟩
          · rw [if_neg (show ¬ (nI 99 < nI (10 * x0 + x1) ∨ (g p = nI 48 ∧ 1 < 2)) from fun q => q.elim (fun q => by have := (lt99 _ (by omega)).mp q; omega) (fun q => z (gz.mp q.1))), if_pos (show 2 = 2 ∧ g p ≠ nI 48 from ⟨rfl, fun q => z (gz.mp q)⟩)]
            refine ⟨fun _ => ⟨?_, fun _ => trivial, trivial, hp⟩, fun q => absurd rfl q⟩
            rw [ex0, ex1, pk_sub (by omega), pk_mul, nI_add, pk_sub (by omega)]
            congr 1; omega
        · rw [if_neg (show ¬ (n = 2 ∧ g p ≠ nI 48) from fun q => n2 q.1)]
          refine ⟨fun q => ?_, fun _ => rfl⟩
          exfalso
          by_cases z : x0 = 0
          · rw [if_pos (Or.inr ⟨by rw [ex0, e48]; exact z, by omega⟩)] at q; omega
          · obtain ⟨x2, hx2, ex2⟩ := dig_x (hin 2 (by omega))
            have d3 : dgI g p 3 = nI (10 * (10 * x0 + x1) + x2) := by
              rw [dgI, d2, if_neg (fun q => by have := (lt99 _ (by omega)).mp q; omega), ex2, pk_mul, nI_add, pk_sub (by omega)]
              congr 1; omega
            have big : nI 99 < dgI g p n := by
              have h3 : nI 99 < dgI g p 3 := by rw [d3, lt99 _ (by omega)]; omega
              have := dg_big (n - 3) 3 h3
              rw [show 3 + (n - 3) = n by omega] at this
              rw [this]; exact h3
            rw [if_pos (Or.inl big)] at q; omega
    · have hd' : rg 48 57 (g p) = false := by simpa using hd
      have e1 : aft (rg 48 57) g p (sz - p) = p := aft_0 (fun _ => hd')
      have e2 : numS g sz p = -9 := by
        unfold numS
        rw [e1, Nat.sub_self, if_neg (by omega), if_neg (by omega)]
      refine ⟨fun q => ?_, fun _ => e2⟩
      exfalso
      unfold tkN at q
      simp only [if_neg h, hd', Bool.false_eq_true, if_false] at q
      split at q
      · split at q <;> omega
      · split at q <;> omega
