/-! spans of years: two neighbours at a time, or all places at once -/
abbrev dz (R : RecS) (i j : Nat) : Int := (dtA R i j).toInt
def ez (R : RecS) (lo hi i k j : Nat) : Int := if j ≤ k then dz R i j + (((k - j) * lo : Nat) : Int) else dz R i j - (((j - k) * hi : Nat) : Int)
theorem i32_addN {a : Int32} {p : Nat} (ha : 0 ≤ a.toInt ∧ a.toInt ≤ 100000) (hp : p ≤ 100000) : (a + nI p).toInt = a.toInt + p := by
  rw [Int32.toInt_add, nI_toInt (by omega)]
  rw [Int.bmod_eq_of_le] <;> omega
theorem i32_subN {a : Int32} {p : Nat} (ha : 0 ≤ a.toInt ∧ a.toInt ≤ 100000) (hp : p ≤ 100000) : (a - nI p).toInt = a.toInt - p := by
  rw [Int32.toInt_sub, nI_toInt (by omega)]
  rw [Int.bmod_eq_of_le] <;> omega
theorem ez_32 {R : RecS} (hw : wfR R) {lo hi i k j : Nat} (hi4 : i < 4) (hj : j < (R.1 i).length) (hd : dtA R i j ≠ -9) (hl : lo ≤ 60) (hh : hi ≤ 60) (hk : k < 100) : (dtA R i j + (nI k - nI j) * (if j ≤ k then nI lo else nI hi)).toInt = ez R lo hi i k j ∧ -100000 ≤ ez R lo hi i k j ∧ ez R lo hi i k j ≤ 100000 := by
  have dj := rg_t ((dtA_rng hw hi4 hj).resolve_left hd)
  have hlen := (hw.1 i hi4).1
  unfold ez dz
  split
  · rename_i h
    have b : (k - j) * lo ≤ 100 * 60 := Nat.mul_le_mul (by omega) hl
    rw [pk_sub h, pk_mul, i32_addN (by omega) (by omega)]
    refine ⟨rfl, by omega, by omega⟩
  · rename_i h
    have b : (j - k) * hi ≤ 100 * 60 := Nat.mul_le_mul (by omega) hh
    have e : nI k - nI j = -(nI (j - k)) := by rw [← pk_sub (show k ≤ j by omega), Int32.neg_sub]
    rw [e, Int32.neg_mul, pk_mul, ← Int32.sub_eq_add_neg, i32_subN (by omega) (by omega)]
    refine ⟨rfl, by omega, by omega⟩
def dtd (R : RecS) (i j : Nat) : Prop := j < (R.1 i).length ∧ dtA R i j ≠ -9
theorem ear_spec {R : RecS} (hw : wfR R) {lo hi i k : Nat} (hi4 : i < 4) (hl : lo ≤ 60) (hh : hi ≤ 60) (hk : k < 100) : ∀ n, n ≤ (R.1 i).length → (∀ j, j < n → dtA R i j ≠ -9 → ez R lo hi i k j ≤ (earF R (nI lo) (nI hi) i k n).toInt) ∧ ((earF R (nI lo) (nI hi) i k n = -1000000 ∧ ∀ j, j < n → dtA R i j = -9) ∨ ∃ j, j < n ∧ dtA R i j ≠ -9 ∧ (earF R (nI lo) (nI hi) i k n).toInt = ez R lo hi i k j)
  | 0, _ => ⟨fun j hj => absurd hj (Nat.not_lt_zero j), Or.inl ⟨rfl, fun j hj => absurd hj (Nat.not_lt_zero j)⟩⟩
  | n + 1, hn => by
    obtain ⟨i1, i2⟩ := ear_spec hw hi4 hl hh hk n (by omega)
    rw [earF]
    by_cases hd : dtA R i n = -9
    · rw [if_pos hd]
      refine ⟨fun j hj hjd => ?_, ?_⟩
      · by_cases e : j = n
        · subst e; exact absurd hd hjd
        · exact i1 j (by omega) hjd
      · rcases i2 with ⟨q1, q2⟩ | ⟨j, q1, q2⟩
        · refine Or.inl ⟨q1, fun j hj => ?_⟩
          by_cases e : j = n
          · subst e; exact hd
          · exact q2 j (by omega)
        · exact Or.inr ⟨j, by omega, q2⟩
    · rw [if_neg hd]
      obtain ⟨e1, e2, e3⟩ := ez_32 hw (lo := lo) (hi := hi) (k := k) hi4 (show n < (R.1 i).length by omega) hd hl hh hk
      generalize dtA R i n + (nI k - nI n) * (if n ≤ k then nI lo else nI hi) = v at e1
      have h6 : (-1000000 : Int32).toInt = -1000000 := by decide
      rw [mxI]
      split
      · rename_i hlt
        rw [i32_lt] at hlt
        refine ⟨fun j hj hjd => ?_, Or.inr ⟨n, by omega, hd, e1⟩⟩
        by_cases e : j = n
        · subst e; omega
        · have := i1 j (by omega) hjd
          omega
      · rename_i hlt
        rw [i32_lt] at hlt
        refine ⟨fun j hj hjd => ?_, ?_⟩
        · by_cases e : j = n
          · subst e; omega
          · exact i1 j (by omega) hjd
        · rcases i2 with ⟨q1, q2⟩ | ⟨j, q1, q2⟩
          · rw [q1, h6] at hlt; omega
          · exact Or.inr ⟨j, by omega, q2⟩
theorem lat_spec {R : RecS} (hw : wfR R) {lo hi i k : Nat} (hi4 : i < 4) (hl : lo ≤ 60) (hh : hi ≤ 60) (hk : k < 100) : ∀ n, n ≤ (R.1 i).length → (∀ j, j < n → dtA R i j ≠ -9 → (latF R (nI lo) (nI hi) i k n).toInt ≤ ez R hi lo i k j) ∧ ((latF R (nI lo) (nI hi) i k n = 1000000 ∧ ∀ j, j < n → dtA R i j = -9) ∨ ∃ j, j < n ∧ dtA R i j ≠ -9 ∧ (latF R (nI lo) (nI hi) i k n).toInt = ez R hi lo i k j)
  | 0, _ => ⟨fun j hj => absurd hj (Nat.not_lt_zero j), Or.inl ⟨rfl, fun j hj => absurd hj (Nat.not_lt_zero j)⟩⟩
  | n + 1, hn => by
    obtain ⟨i1, i2⟩ := lat_spec hw hi4 hl hh hk n (by omega)
    rw [latF]
    by_cases hd : dtA R i n = -9
    · rw [if_pos hd]
      refine ⟨fun j hj hjd => ?_, ?_⟩
      · by_cases e : j = n
        · subst e; exact absurd hd hjd
        · exact i1 j (by omega) hjd
      · rcases i2 with ⟨q1, q2⟩ | ⟨j, q1, q2⟩
        · refine Or.inl ⟨q1, fun j hj => ?_⟩
          by_cases e : j = n
          · subst e; exact hd
          · exact q2 j (by omega)
        · exact Or.inr ⟨j, by omega, q2⟩
    · rw [if_neg hd]
      obtain ⟨e1, e2, e3⟩ := ez_32 hw (lo := hi) (hi := lo) (k := k) hi4 (show n < (R.1 i).length by omega) hd hh hl hk
      generalize dtA R i n + (nI k - nI n) * (if n ≤ k then nI hi else nI lo) = v at e1
      have h6 : (1000000 : Int32).toInt = 1000000 := by decide
      rw [mnI]
      split
      · rename_i hlt
        rw [i32_lt] at hlt
        refine ⟨fun j hj hjd => ?_, Or.inr ⟨n, by omega, hd, e1⟩⟩
        by_cases e : j = n
        · subst e; omega
        · have := i1 j (by omega) hjd
          omega
      · rename_i hlt
        rw [i32_lt] at hlt
        refine ⟨fun j hj hjd => ?_, ?_⟩
        · by_cases e : j = n
          · subst e; omega
          · exact i1 j (by omega) hjd
        · rcases i2 with ⟨q1, q2⟩ | ⟨j, q1, q2⟩
          · rw [q1, h6] at hlt; omega
          · exact Or.inr ⟨j, by omega, q2⟩
/-- the last dated place before j -/
def lsD (R : RecS) (i : Nat) : Nat → Option Nat
  | 0 => none
  | j + 1 => if dtA R i j = -9 then lsD R i j else some j
theorem lsD_spec {R : RecS} {i : Nat} : ∀ n, (lsD R i n = none → ∀ j, j < n → dtA R i j = -9) ∧ ∀ p, lsD R i n = some p → p < n ∧ dtA R i p ≠ -9 ∧ ∀ j, p < j → j < n → dtA R i j = -9
  | 0 => ⟨fun _ j hj => absurd hj (Nat.not_lt_zero j), fun p hp => by cases hp⟩
  | n + 1 => by
    obtain ⟨i1, i2⟩ := lsD_spec (R := R) (i := i) n
    rw [lsD]
    by_cases hd : dtA R i n = -9
    · rw [if_pos hd]
      refine ⟨fun h j hj => ?_, fun p hp => ?_⟩
      · by_cases e : j = n
        · subst e; exact hd
        · exact i1 h j (by omega)
      · obtain ⟨q1, q2, q3⟩ := i2 p hp
        refine ⟨by omega, q2, fun j h1 h2 => ?_⟩
        by_cases e : j = n
        · subst e; exact hd
        · exact q3 j h1 (by omega)
    · rw [if_neg hd]
      refine ⟨fun h => (by cases h), fun p hp => ?_⟩
      cases hp
      exact ⟨by omega, hd, fun j h1 h2 => by omega⟩
def prZ (R : RecS) (lo hi i l j : Nat) : Prop := (((j - l) * lo : Nat) : Int) ≤ dz R i j - dz R i l ∧ dz R i j - dz R i l ≤ (((j - l) * hi : Nat) : Int)
def okC (R : RecS) (lo hi i n : Nat) : Prop := ∀ j, j < n → dtA R i j ≠ -9 → ∀ l, lsD R i j = some l → prZ R lo hi i l j
theorem spl {a b c x : Nat} (h1 : a ≤ b) (h2 : b ≤ c) : (c - a) * x = (b - a) * x + (c - b) * x := by
  rw [← Nat.add_mul]; congr 1; omega
theorem pair_all {R : RecS} {lo hi i N : Nat} (h : okC R lo hi i N) : ∀ n, n ≤ N → ∀ l j, l < j → j < n → dtA R i l ≠ -9 → dtA R i j ≠ -9 → prZ R lo hi i l j
  | 0, _, _, _, _, hj, _, _ => absurd hj (Nat.not_lt_zero _)
  | n + 1, hn, l, j, hlj, hj, hl, hjd => by
    by_cases e : j = n
    · subst e
      obtain ⟨s1, s2⟩ := lsD_spec (R := R) (i := i) j
      cases e2 : lsD R i j with
      | none => exact absurd (s1 e2 l hlj) hl
      | some p =>
        obtain ⟨q1, q2, q3⟩ := s2 p e2
        have hp := h j (by omega) hjd p e2
        by_cases e3 : l = p
        · subst e3; exact hp
        · have hlp : l < p := by
            rcases Nat.lt_or_ge p l with q | q
            · exact absurd (q3 l q hlj) hl
            · omega
          have ih := pair_all h j (by omega) l p hlp q1 hl q2
          unfold prZ at *
          have a1 := spl (x := lo) (show l ≤ p by omega) (show p ≤ j by omega)
          have a2 := spl (x := hi) (show l ≤ p by omega) (show p ≤ j by omega)
          generalize (j - l) * lo = A at *
          generalize (j - l) * hi = B at *
          generalize (p - l) * lo = A1 at *
          generalize (p - l) * hi = B1 at *
          generalize (j - p) * lo = A2 at *
          generalize (j - p) * hi = B2 at *
          omega
    · exact pair_all h n (by omega) l j hlj (by omega) hl hjd
theorem ez_lz {R : RecS} {lo hi i N : Nat} (h : okC R lo hi i N) (hlh : lo ≤ hi) {j1 j2 k : Nat} (h1 : j1 < N) (h2 : j2 < N) (d1 : dtA R i j1 ≠ -9) (d2 : dtA R i j2 ≠ -9) : ez R lo hi i k j1 ≤ ez R hi lo i k j2 := by
  have P := pair_all h N (Nat.le_refl _)
  have m : ∀ x : Nat, x * lo ≤ x * hi := fun x => Nat.mul_le_mul_left x hlh
  rcases Nat.lt_trichotomy j1 j2 with q | q | q
  · have hp := P j1 j2 q h2 d1 d2
    unfold prZ at hp
    unfold ez
    by_cases a : j1 ≤ k
    · by_cases b : j2 ≤ k
      · rw [if_pos a, if_pos b]
        have s1 := spl (x := lo) (show j1 ≤ j2 by omega) b
        have s2 := m (k - j2)
        generalize (k - j1) * lo = A at *
        generalize (j2 - j1) * lo = B at *
        generalize (k - j2) * lo = C at *
        generalize (k - j2) * hi = D at *
        omega
      · rw [if_pos a, if_neg b]
        have s1 := spl (x := lo) a (show k ≤ j2 by omega)
        generalize (k - j1) * lo = A at *
        generalize (j2 - j1) * lo = B at *
        generalize (j2 - k) * lo = C at *
        omega
    · rw [if_neg a, if_neg (show ¬ j2 ≤ k by omega)]
      have s1 := spl (x := lo) (show k ≤ j1 by omega) (show j1 ≤ j2 by omega)
      have s2 := m (j1 - k)
      generalize (j2 - k) * lo = A at *
      generalize (j2 - j1) * lo = B at *
      generalize (j1 - k) * lo = C at *
      generalize (j1 - k) * hi = D at *
      omega
  · subst q
    unfold ez
    have s1 := m (k - j1)
    have s2 := m (j1 - k)
    generalize (k - j1) * lo = A at *
    generalize (k - j1) * hi = B at *
    generalize (j1 - k) * lo = C at *
    generalize (j1 - k) * hi = D at *
    split <;> omega
  · have hp := P j2 j1 q h1 d2 d1
    unfold prZ at hp
    unfold ez
    by_cases b : j2 ≤ k
    · by_cases a : j1 ≤ k
      · rw [if_pos a, if_pos b]
        have s1 := spl (x := hi) (show j2 ≤ j1 by omega) a
        have s2 := m (k - j1)
        generalize (k - j2) * hi = A at *
        generalize (j1 - j2) * hi = B at *
        generalize (k - j1) * lo = C at *
        generalize (k - j1) * hi = D at *
        omega
      · rw [if_neg a, if_pos b]
        have s1 := spl (x := hi) b (show k ≤ j1 by omega)
        generalize (k - j2) * hi = A at *
        generalize (j1 - j2) * hi = B at *
        generalize (j1 - k) * hi = C at *
        omega
    · rw [if_neg (show ¬ j1 ≤ k by omega), if_neg b]
      have s1 := spl (x := hi) (show k ≤ j2 by omega) (show j2 ≤ j1 by omega)
      have s2 := m (j2 - k)
      generalize (j1 - k) * hi = A at *
      generalize (j1 - j2) * hi = B at *
      generalize (j2 - k) * lo = C at *
      generalize (j2 - k) * hi = D at *
      omega
theorem fitF_all {R : RecS} {lo hi : Int32} {i : Nat} : ∀ n, fitF R lo hi i n = true ↔ ∀ k, k < n → earF R lo hi i k (R.1 i).length ≤ latF R lo hi i k (R.1 i).length
  | 0 => ⟨fun _ k hk => absurd hk (Nat.not_lt_zero k), fun _ => rfl⟩
  | n + 1 => by
    rw [fitF, Bool.and_eq_true, fitF_all n, decide_eq_true_iff]
    constructor
    · rintro ⟨h1, h2⟩ k hk
      by_cases e : k = n
      · subst e; exact h2
      · exact h1 k (by omega)
    · intro h
      exact ⟨fun k hk => h k (by omega), h n (by omega)⟩
theorem fit_iff {R : RecS} (hw : wfR R) {lo hi i : Nat} (hi4 : i < 4) (hl : lo ≤ 60) (hh : hi ≤ 60) (hlh : lo ≤ hi) : fitF R (nI lo) (nI hi) i (R.1 i).length = true ↔ okC R lo hi i (R.1 i).length := by
  have hlen := (hw.1 i hi4).1
  rw [fitF_all]
  constructor
  · intro h j hj hjd l hls
    obtain ⟨q1, q2, q3⟩ := (lsD_spec (R := R) (i := i) j).2 l hls
    have he := (ear_spec hw (lo := lo) (hi := hi) (k := j) hi4 hl hh (by omega) _ (Nat.le_refl _)).1
    have hla := (lat_spec hw (lo := lo) (hi := hi) (k := j) hi4 hl hh (by omega) _ (Nat.le_refl _)).1
    have hle := h j hj
    rw [i32_le] at hle
    have a1 := he l (by omega) q2
    have a2 := he j hj hjd
    have b1 := hla l (by omega) q2
    have b2 := hla j hj hjd
    unfold ez at a1 a2 b1 b2
    rw [if_pos (by omega)] at a1 a2 b1 b2
    rw [Nat.sub_self, Nat.zero_mul] at a2 b2
    unfold prZ
    generalize (j - l) * lo = A at *
    generalize (j - l) * hi = B at *
    omega
  · intro h k hk
    rw [i32_le]
    have he := (ear_spec hw (lo := lo) (hi := hi) (k := k) hi4 hl hh (by omega) _ (Nat.le_refl _)).2
    have hla := (lat_spec hw (lo := lo) (hi := hi) (k := k) hi4 hl hh (by omega) _ (Nat.le_refl _)).2
    have h6 : (1000000 : Int32).toInt = 1000000 := by decide
    have h7 : (-1000000 : Int32).toInt = -1000000 := by decide
    rcases he with ⟨e1, e2⟩ | ⟨j1, e1, e2, e3⟩
    · rcases hla with ⟨f1, f2⟩ | ⟨j2, f1, f2, f3⟩
      · rw [e1, f1, h6, h7]; omega
      · exact absurd (e2 j2 f1) f2
    · rcases hla with ⟨f1, f2⟩ | ⟨j2, f1, f2, f3⟩
      · exact absurd (f2 j1 e1) e2
      · rw [e3, f3]; exact ez_lz h hlh e1 f1 e2 f2
theorem anyD_iff {R : RecS} {i : Nat} : ∀ n, anyD R i n = true ↔ ∃ j, j < n ∧ dtA R i j ≠ -9
  | 0 => ⟨fun h => (by cases h), fun ⟨j, hj, _⟩ => absurd hj (Nat.not_lt_zero j)⟩
  | n + 1 => by
    rw [anyD, Bool.or_eq_true, anyD_iff n, decide_eq_true_iff]
    constructor
    · rintro (⟨j, h1, h2⟩ | h)
      · exact ⟨j, by omega, h2⟩
      · exact ⟨n, by omega, h⟩
    · rintro ⟨j, h1, h2⟩
      by_cases e : j = n
      · subst e; exact Or.inr h2
      · exact Or.inl ⟨j, by omega, h2⟩
/-- the reference's bound -/
def bdF (R : RecS) (lo hi : Int32) (i k : Nat) (w : Int32) (j : Nat) : Int32 := if w = 0 then earF R lo hi i k j else if anyD R i j then latF R lo hi i k j else -1000000
theorem by_eq {k j : Nat} {x y : Int32} : (nI k - nI j) * (if j < k then x else y) = (nI k - nI j) * (if j ≤ k then x else y) := by
  rcases Nat.lt_trichotomy j k with q | q | q
  · rw [if_pos q, if_pos (by omega)]
  · subst q
    rw [Int32.sub_self, Int32.zero_mul, Int32.zero_mul]
  · rw [if_neg (by omega), if_neg (by omega)]
