/-! sums, and the ways to a set of names -/
def sumN (f : Nat → Nat) : Nat → Nat
  | 0 => 0
  | k + 1 => sumN f k + f k
theorem sumN_congr {f g : Nat → Nat} : ∀ N, (∀ k, k < N → f k = g k) → sumN f N = sumN g N
  | 0, _ => rfl
  | N + 1, h => by rw [sumN, sumN, sumN_congr N (fun k hk => h k (by omega)), h N (by omega)]
theorem sumN_add (f g : Nat → Nat) : ∀ N, sumN (fun k => f k + g k) N = sumN f N + sumN g N
  | 0 => rfl
  | N + 1 => by rw [sumN, sumN, sumN, sumN_add f g N]; omega
theorem sumN_0 {f : Nat → Nat} : ∀ N, (∀ k, k < N → f k = 0) → sumN f N = 0
  | 0, _ => rfl
  | N + 1, h => by rw [sumN, sumN_0 N (fun k hk => h k (by omega)), h N (by omega)]
def rmB (s k : Nat) : Nat := s ^^^ 2 ^ k
theorem two_bit (k j : Nat) : (2 ^ k).testBit j = decide (k = j) := Nat.testBit_two_pow
theorem rm_bit {s k : Nat} (h : s.testBit k = true) (j : Nat) : (rmB s k).testBit j = (s.testBit j && decide (j ≠ k)) := by
  rw [rmB, Nat.testBit_xor, two_bit]
  by_cases e : j = k
  · subst e; simp [h]
  · have : k ≠ j := fun q => e q.symm
    simp [e, this]
theorem or_bit (P k j : Nat) : (P ||| 2 ^ k).testBit j = (P.testBit j || decide (k = j)) := by rw [Nat.testBit_or, two_bit]
theorem rm_or {s k P : Nat} : (s.testBit k = true ∧ rmB s k = P) ↔ (¬ P.testBit k = true ∧ s = P ||| 2 ^ k) := by
  constructor
  · rintro ⟨h1, rfl⟩
    refine ⟨by rw [rm_bit h1]; simp, ?_⟩
    apply Nat.eq_of_testBit_eq
    intro j
    rw [or_bit, rm_bit h1]
    by_cases e : k = j
    · subst e; simp [h1]
    · have : j ≠ k := fun q => e q.symm
      simp [e, this]
  · rintro ⟨h1, rfl⟩
    have hb : (P ||| 2 ^ k).testBit k = true := by rw [or_bit]; simp
    refine ⟨hb, ?_⟩
    apply Nat.eq_of_testBit_eq
    intro j
    rw [rm_bit hb, or_bit]
    by_cases e : k = j
    · subst e; simp; simpa using h1
    · have : j ≠ k := fun q => e q.symm
      simp [e, this]
theorem rm_lt {s k : Nat} (h : s.testBit k = true) : rmB s k < s := by
  have h2 := (rm_or.mp ⟨h, rfl⟩).2
  have h3 : rmB s k ≤ rmB s k ||| 2 ^ k := Nat.left_le_or
  rw [← h2] at h3
  rcases Nat.lt_or_ge (rmB s k) s with q | q
  · exact q
  · exfalso
    have e : rmB s k = s := Nat.le_antisymm h3 q
    have := rm_bit h k
    rw [e, h] at this
    simp at this
theorem popN_congr {s t : Nat} : ∀ N, (∀ j, j < N → s.testBit j = t.testBit j) → popN s N = popN t N
  | 0, _ => rfl
  | N + 1, h => by rw [popN_s, popN_s, popN_congr N (fun j hj => h j (by omega)), h N (by omega)]
theorem pop_rm {s k : Nat} (h : s.testBit k = true) : ∀ N, k < N → popN s N = popN (rmB s k) N + 1
  | 0, hk => absurd hk (Nat.not_lt_zero k)
  | N + 1, hk => by
    rw [popN_s, popN_s, rm_bit h]
    by_cases e : k = N
    · subst e
      have e2 : popN s k = popN (rmB s k) k := popN_congr k (fun j hj => by rw [rm_bit h, decide_eq_true (show j ≠ k by omega), Bool.and_true])
      rw [e2]
      simp [h]
    · rw [pop_rm h N (by omega)]
      have : N ≠ k := fun q => e q.symm
      simp [this]; omega
theorem pop0 {s : Nat} : ∀ N, popN s N = 0 → ∀ j, j < N → s.testBit j = false
  | 0, _, j, hj => absurd hj (Nat.not_lt_zero j)
  | N + 1, h, j, hj => by
    rw [popN_s] at h
    by_cases e : j = N
    · subst e
      cases q : s.testBit j with
      | false => rfl
      | true => rw [q] at h; simp at h
    · exact pop0 N (by omega) j (by omega)
theorem pop0' {s N : Nat} (hs : s < 2 ^ N) (h : popN s N = 0) : s = 0 := by
  apply Nat.eq_of_testBit_eq
  intro j
  rw [Nat.zero_testBit]
  by_cases hj : j < N
  · exact pop0 N h j hj
  · exact Nat.testBit_lt_two_pow (Nat.lt_of_lt_of_le hs (Nat.pow_le_pow_right (by omega) (by omega)))
theorem popN_0 : ∀ N, popN 0 N = 0
  | 0 => rfl
  | N + 1 => by rw [popN_s, popN_0 N, Nat.zero_testBit]; rfl
def UU (nd : Nat → Nat) (N : Nat) : Nat → Nat → Nat
  | 0, _ => 1
  | n + 1, s => sumN (fun k => if s.testBit k = true ∧ subN (nd k) (rmB s k) = true then UU nd N n (rmB s k) else 0) N
def WW (nd : Nat → Nat) (N s : Nat) : Nat := UU nd N (popN s N) s
theorem WW_0 (nd : Nat → Nat) (N : Nat) : WW nd N 0 = 1 := by rw [WW, popN_0, UU]
theorem WW_s {nd : Nat → Nat} {N s : Nat} (hs : s < 2 ^ N) (h0 : s ≠ 0) : WW nd N s = sumN (fun k => if s.testBit k = true ∧ subN (nd k) (rmB s k) = true then WW nd N (rmB s k) else 0) N := by
  cases e : popN s N with
  | zero => exact absurd (pop0' hs e) h0
  | succ n =>
    rw [WW, e, UU]
    refine sumN_congr N (fun k hk => ?_)
    by_cases hb : s.testBit k = true
    · have := pop_rm hb N hk
      rw [WW, show popN (rmB s k) N = n by omega]
    · rw [if_neg (fun q => hb q.1), if_neg (fun q => hb q.1)]
def pt (nd : Nat → Nat) (N P s : Nat) : Nat := if s = 0 then 1 else sumN (fun k => if s.testBit k = true ∧ subN (nd k) (rmB s k) = true ∧ rmB s k < P then WW nd N (rmB s k) else 0) N
def gt (nd : Nat → Nat) (N P A s : Nat) : Nat := sumN (fun k => if ¬ P.testBit k = true ∧ subN (nd k) P = true ∧ s = P ||| 2 ^ k then A else 0) N
theorem pt_le {nd : Nat → Nat} {N P s : Nat} (hs : s < 2 ^ N) (hP : s ≤ P) : pt nd N P s = WW nd N s := by
  by_cases h0 : s = 0
  · rw [pt, if_pos h0, h0, WW_0]
  · rw [pt, if_neg h0, WW_s hs h0]
    refine sumN_congr N (fun k hk => ?_)
    by_cases hb : s.testBit k = true
    · have := rm_lt hb
      by_cases h2 : subN (nd k) (rmB s k) = true
      · rw [if_pos ⟨hb, h2, by omega⟩, if_pos ⟨hb, h2⟩]
      · rw [if_neg (fun q => h2 q.2.1), if_neg (fun q => h2 q.2)]
    · rw [if_neg (fun q => hb q.1), if_neg (fun q => hb q.1)]
theorem pt_0 (nd : Nat → Nat) (N s : Nat) : pt nd N 0 s = if s = 0 then 1 else 0 := by
  rw [pt]
  split
  · rfl
  · exact sumN_0 N (fun k _ => if_neg (fun q => by have := q.2.2; omega))
theorem pt_s (nd : Nat → Nat) (N P s : Nat) : pt nd N (P + 1) s = pt nd N P s + gt nd N P (WW nd N P) s := by
  rw [gt]
  by_cases h0 : s = 0
  · rw [pt, pt, if_pos h0, if_pos h0, sumN_0 N (fun k _ => if_neg (fun q => ?_))]
    have := congrArg (fun z => Nat.testBit z k) q.2.2
    simp only [h0, or_bit, Nat.zero_testBit] at this
    simp at this
  · rw [pt, pt, if_neg h0, if_neg h0, ← sumN_add]
    refine sumN_congr N (fun k hk => ?_)
    by_cases hb : s.testBit k = true
    · by_cases h2 : subN (nd k) (rmB s k) = true
      · by_cases h3 : rmB s k < P
        · rw [if_pos ⟨hb, h2, by omega⟩, if_pos ⟨hb, h2, h3⟩, if_neg (fun q => ?_)]
          · rfl
          · have := (rm_or.mpr ⟨q.1, q.2.2⟩).2
            omega
        · by_cases h4 : rmB s k = P
          · have h5 := rm_or.mp ⟨hb, h4⟩
            rw [if_pos ⟨hb, h2, by omega⟩, if_neg (fun q => h3 q.2.2), if_pos ⟨h5.1, by rw [← h4]; exact h2, h5.2⟩, h4, Nat.zero_add]
          · rw [if_neg (fun q => by have := q.2.2; omega), if_neg (fun q => h3 q.2.2), if_neg (fun q => h4 (rm_or.mpr ⟨q.1, q.2.2⟩).2)]
      · rw [if_neg (fun q => h2 q.2.1), if_neg (fun q => h2 q.2.1), if_neg (fun q => ?_)]
        have := (rm_or.mpr ⟨q.1, q.2.2⟩).2
        rw [this] at h2
        exact h2 q.2.1
    · rw [if_neg (fun q => hb q.1), if_neg (fun q => hb q.1), if_neg (fun q => hb (rm_or.mpr ⟨q.1, q.2.2⟩).1)]
abbrev oL (a : Nat) : Int64 := Int64.ofNat a
theorem oL_add (a b : Nat) : oL a + oL b = oL (a + b) := (Int64.ofNat_add a b).symm
theorem gt_0 {nd : Nat → Nat} {P A s : Nat} (hA : oL A = 0) : ∀ N, oL (gt nd N P A s) = 0 := by
  intro N
  unfold gt
  induction N with
  | zero => rfl
  | succ N ih =>
    rw [sumN, ← oL_add, ih]
    split
    · rw [hA]; rfl
    · rfl
theorem nI_or_pow {P k : Nat} (hP : P < 2 ^ 31) (hk : k < 31) : nI P ||| bit1 (nI k) = nI (P ||| 2 ^ k) := by
  have h1 : 2 ^ k < 2 ^ 31 := Nat.pow_lt_pow_right (by omega) hk
  have h2 : P ||| 2 ^ k < 2 ^ 31 := Nat.or_lt_two_pow hP h1
  apply bt_ext
  intro j hj
  rw [bt_or, bt_nI (by omega), bt_bit1 (by omega) hj, bt_nI (by omega), or_bit]
  congr 1
  by_cases e : j = k
  · subst e; simp
  · have : k ≠ j := fun q => e q.symm
    simp [e, this]
theorem full_nI {N : Nat} (h : N ≤ 12) : nI 1 <<< (nI N &&& 31) - nI 1 = nI (2 ^ N - 1) := (by decide : ∀ N : Fin 13, nI 1 <<< (nI N.1 &&& 31) - nI 1 = nI (2 ^ N.1 - 1)) ⟨N, by omega⟩
section S3
variable {E : EV} {h : HP} {n s : Nat} {f : Nat → Int32} {al : Int32}
theorem c_goOnFrom {g : Nat → Int32} {w : Nat → Int64} {nd A : Nat → Nat} {N P : Nat} (s0 : h s = some (.inr (5, [.ref (s + 1), .ref (s + 2), .ref (s + 3), .int al]))) (s2 : h (s + 2) = some (.inl (0, 12, .inl g))) (hg : ∀ j, j < N → g j = nI (nd j)) (hnd : ∀ j, j < N → nd j < 2 ^ 32) (s3 : h (s + 3) = some (.inl (1, 4096, .inr (.inl w)))) (hwA : ∀ t, t < 2 ^ N → w t = oL (A t)) (hN : N ≤ 12) (hP : P < 2 ^ N) : PM E mX5_goOnFrom [.ref s, .int (nI P), .int (nI N)] h n n 0 (fun v h' => v = none ∧ (∃ w', h' (s + 3) = some (.inl (1, 4096, .inr (.inl w'))) ∧ ∀ t, t < 2 ^ N → w' t = oL (A t + gt nd N P (A P) t)) ∧ ∀ q, q ≠ s + 3 → h' q = h q) := by
  have h4096 : 2 ^ N ≤ 2 ^ 12 := Nat.pow_le_pow_right (by omega) hN
  have loop : ∀ p k w' h', k + p = N → (∀ t, t < 2 ^ N → w' t = oL (A t + gt nd k P (A P) t)) → h' (s + 3) = some (.inl (1, 4096, .inr (.inl w'))) → (∀ q, q ≠ s + 3 → h' q = h q) → PW (KX E mX5_goOnFrom n (fun v h' => v = none ∧ (∃ w', h' (s + 3) = some (.inl (1, 4096, .inr (.inl w'))) ∧ ∀ t, t < 2 ^ N → w' t = oL (A t + gt nd N P (A P) t)) ∧ ∀ q, q ≠ s + 3 → h' q = h q)) 2 [.ref s, .int (nI P), .int (nI N), .int (nI k)] [] h' n 0 := by
    intro p
    induction p with
    | zero =>
      intro k w' h' hk hw' x3 xf
      refine pw_iload_n (pc := 2) dX5_goOnFrom_2 rfl ?_
      refine pw_iload_n (pc := 3) dX5_goOnFrom_3 rfl ?_
      refine pw_icmp_ge_n (pc := 4) 53 dX5_goOnFrom_4 (by decide) (by omega) (by omega) (fun cb => ?_) (fun cb => ?_)
      · obtain rfl : k = N := by omega
        exact pw_vret dX5_goOnFrom_53 rfl ⟨rfl, ⟨w', x3, hw'⟩, xf⟩
      · omega
    | succ p ih =>
      intro k w' h' hk hw' x3 xf
      have x0 := (xf s (by omega)).trans s0
      have x2 := (xf (s + 2) (by omega)).trans s2
      have skip : ¬ (¬ P.testBit k = true ∧ subN (nd k) P = true) → PW (KX E mX5_goOnFrom n (fun v h' => v = none ∧ (∃ w', h' (s + 3) = some (.inl (1, 4096, .inr (.inl w'))) ∧ ∀ t, t < 2 ^ N → w' t = oL (A t + gt nd N P (A P) t)) ∧ ∀ q, q ≠ s + 3 → h' q = h q)) 47 [.ref s, .int (nI P), .int (nI N), .int (nI k)] [] h' n 0 := by
        intro hno
        refine pw_iinc3 (pc := 47) (nI (k + 1)) dX5_goOnFrom_47 (Nat.le_of_ble_eq_true rfl) rfl (ni_inc _) ?_
        refine pw_goto (pc := 50) 2 dX5_goOnFrom_50 (by decide) ?_
        refine ih (k + 1) w' h' (by omega) (fun t ht => ?_) x3 xf
        rw [hw' t ht]
        have e : gt nd (k + 1) P (A P) t = gt nd k P (A P) t := by rw [gt, sumN, if_neg (fun q => hno ⟨q.1, q.2.1⟩)]; rfl
        rw [e]
      refine pw_iload_n (pc := 2) dX5_goOnFrom_2 rfl ?_
      refine pw_iload_n (pc := 3) dX5_goOnFrom_3 rfl ?_
      refine pw_icmp_ge_n (pc := 4) 53 dX5_goOnFrom_4 (by decide) (by omega) (by omega) (fun cb => ?_) (fun cb => ?_)
      · omega
      · refine pw_iload_n (pc := 7) dX5_goOnFrom_7 rfl ?_
        refine pw_iload_n (pc := 8) dX5_goOnFrom_8 rfl ?_
        refine pw_callSN_i (pc := 9) csn_X5_32 dX5_goOnFrom_9 (c_isIn (nI P) (nI k)) rfl rfl (Nat.le_of_ble_eq_true rfl) ⟨(Nat.le_of_ble_eq_true rfl), (Nat.le_of_ble_eq_true rfl)⟩ ?_
        rw [inB_bt _ (by omega), bt_nI (by omega)]
        refine pw_if_ne_b (pc := 12) 47 dX5_goOnFrom_12 (by decide) (fun z => ?_) (fun z => ?_)
        · exact skip (fun q => q.1 z)
        · refine pw_aload_n (pc := 15) dX5_goOnFrom_15 rfl ?_
          refine pw_get (pc := 16) fg_X5_15 dX5_goOnFrom_16 (by first | assumption | exact va_up_self _ _ _ | exact lk1 (by first | assumption | (apply Ne.symm; assumption) | (simp; done)) (by assumption) | exact lk1 (by first | assumption | (apply Ne.symm; assumption) | (simp; done)) (va_up_self _ _ _) | exact lk1 (by first | assumption | (apply Ne.symm; assumption) | (simp; done)) (lk1 (by first | assumption | (apply Ne.symm; assumption) | (simp; done)) (by assumption)) | exact lk1 (by first | assumption | (apply Ne.symm; assumption) | (simp; done)) (lk1 (by first | assumption | (apply Ne.symm; assumption) | (simp; done)) (va_up_self _ _ _)) | exact lk1 (by first | assumption | (apply Ne.symm; assumption) | (simp; done)) (lk1 (by first | assumption | (apply Ne.symm; assumption) | (simp; done)) (lk1 (by first | assumption | (apply Ne.symm; assumption) | (simp; done)) (by assumption))) | exact lk1 (by first | assumption | (apply Ne.symm; assumption) | (simp; done)) (lk1 (by first | assumption | (apply Ne.symm; assumption) | (simp; done)) (lk1 (by first | assumption | (apply Ne.symm; assumption) | (simp; done)) (va_up_self _ _ _))) | exact lk1 (by first | assumption | (apply Ne.symm; assumption) | (simp; done)) (lk1 (by first | assumption | (apply Ne.symm; assumption) | (simp; done)) (lk1 (by first | assumption | (apply Ne.symm; assumption) | (simp; done)) (lk1 (by first | assumption | (apply Ne.symm; assumption) | (simp; done)) (by assumption)))) | exact lk1 (by first | assumption | (apply Ne.symm; assumption) | (simp; done)) (lk1 (by first | assumption | (apply Ne.symm; assumption) | (simp; done)) (lk1 (by first | assumption | (apply Ne.symm; assumption) | (simp; done)) (lk1 (by first | assumption | (apply Ne.symm; assumption) | (simp; done)) (va_up_self _ _ _))))) (by first | rfl | assumption) ?_
          refine pw_iload_n (pc := 19) dX5_goOnFrom_19 rfl ?_
          refine pw_iald (pc := 20) (k) dX5_goOnFrom_20 (by first | assumption | exact va_up_self _ _ _ | exact lk1 (by first | assumption | (apply Ne.symm; assumption) | (simp; done)) (by assumption) | exact lk1 (by first | assumption | (apply Ne.symm; assumption) | (simp; done)) (va_up_self _ _ _) | exact lk1 (by first | assumption | (apply Ne.symm; assumption) | (simp; done)) (lk1 (by first | assumption | (apply Ne.symm; assumption) | (simp; done)) (by assumption)) | exact lk1 (by first | assumption | (apply Ne.symm; assumption) | (simp; done)) (lk1 (by first | assumption | (apply Ne.symm; assumption) | (simp; done)) (va_up_self _ _ _)) | exact lk1 (by first | assumption | (apply Ne.symm; assumption) | (simp; done)) (lk1 (by first | assumption | (apply Ne.symm; assumption) | (simp; done)) (lk1 (by first | assumption | (apply Ne.symm; assumption) | (simp; done)) (by assumption))) | exact lk1 (by first | assumption | (apply Ne.symm; assumption) | (simp; done)) (lk1 (by first | assumption | (apply Ne.symm; assumption) | (simp; done)) (lk1 (by first | assumption | (apply Ne.symm; assumption) | (simp; done)) (va_up_self _ _ _))) | exact lk1 (by first | assumption | (apply Ne.symm; assumption) | (simp; done)) (lk1 (by first | assumption | (apply Ne.symm; assumption) | (simp; done)) (lk1 (by first | assumption | (apply Ne.symm; assumption) | (simp; done)) (lk1 (by first | assumption | (apply Ne.symm; assumption) | (simp; done)) (by assumption)))) | exact lk1 (by first | assumption | (apply Ne.symm; assumption) | (simp; done)) (lk1 (by first | assumption | (apply Ne.symm; assumption) | (simp; done)) (lk1 (by first | assumption | (apply Ne.symm; assumption) | (simp; done)) (lk1 (by first | assumption | (apply Ne.symm; assumption) | (simp; done)) (va_up_self _ _ _))))) (by first | assumption | rfl | (simp only [nI_add, pk_mul, Nat.one_mul, Nat.mul_one, Nat.zero_add, Nat.add_zero, Nat.mul_zero]; done) | exact pk_sub (by omega) | (rw [pk_sub (by omega)]; first | done | (rw [nI_add]; done) | (rw [pk_sub (by omega)]; done) | (rw [pk_sub (by omega), nI_add]; done)) | (simp only [nI_add, pk_mul]; first | exact pk_sub (by omega) | (congr 1; omega)) | (congr 1; omega)) (by omega) (by omega) ?_
          refine pw_iload_n (pc := 21) dX5_goOnFrom_21 rfl ?_
          refine pw_iconst (pc := 22) (-1) dX5_goOnFrom_22 (by decide) ?_
          refine pw_ixor (pc := 23) dX5_goOnFrom_23 ?_
          refine pw_iand (pc := 24) dX5_goOnFrom_24 ?_
          rw [hg k (by omega)]
          refine pw_if_ne (pc := 25) 47 dX5_goOnFrom_25 (by decide) (fun y => ?_) (fun y => ?_)
          · exact skip (fun q => y ((and_notN (hnd k (by omega)) (by omega)).mpr q.2))
          · have hsub := (and_notN (hnd k (by omega)) (by omega)).mp y
            have hk2 : 2 ^ k < 2 ^ N := Nat.pow_lt_pow_right (by omega) (by omega)
            have ht0 : P ||| 2 ^ k < 2 ^ N := Nat.or_lt_two_pow hP hk2
            have hPk : ∀ j, j ≤ N → gt nd j P (A P) P = 0 := by
              intro j _
              refine sumN_0 j (fun i _ => if_neg (fun q => ?_))
              have := congrArg (fun z => Nat.testBit z i) q.2.2
              simp only [or_bit] at this
              simp at this
              exact q.1 this
            refine pw_aload_n (pc := 28) dX5_goOnFrom_28 rfl ?_
            refine pw_get (pc := 29) fg_X5_18 dX5_goOnFrom_29 (by first | assumption | exact va_up_self _ _ _ | exact lk1 (by first | assumption | (apply Ne.symm; assumption) | (simp; done)) (by assumption) | exact lk1 (by first | assumption | (apply Ne.symm; assumption) | (simp; done)) (va_up_self _ _ _) | exact lk1 (by first | assumption | (apply Ne.symm; assumption) | (simp; done)) (lk1 (by first | assumption | (apply Ne.symm; assumption) | (simp; done)) (by assumption)) | exact lk1 (by first | assumption | (apply Ne.symm; assumption) | (simp; done)) (lk1 (by first | assumption | (apply Ne.symm; assumption) | (simp; done)) (va_up_self _ _ _)) | exact lk1 (by first | assumption | (apply Ne.symm; assumption) | (simp; done)) (lk1 (by first | assumption | (apply Ne.symm; assumption) | (simp; done)) (lk1 (by first | assumption | (apply Ne.symm; assumption) | (simp; done)) (by assumption))) | exact lk1 (by first | assumption | (apply Ne.symm; assumption) | (simp; done)) (lk1 (by first | assumption | (apply Ne.symm; assumption) | (simp; done)) (lk1 (by first | assumption | (apply Ne.symm; assumption) | (simp; done)) (va_up_self _ _ _))) | exact lk1 (by first | assumption | (apply Ne.symm; assumption) | (simp; done)) (lk1 (by first | assumption | (apply Ne.symm; assumption) | (simp; done)) (lk1 (by first | assumption | (apply Ne.symm; assumption) | (simp; done)) (lk1 (by first | assumption | (apply Ne.symm; assumption) | (simp; done)) (by assumption)))) | exact lk1 (by first | assumption | (apply Ne.symm; assumption) | (simp; done)) (lk1 (by first | assumption | (apply Ne.symm; assumption) | (simp; done)) (lk1 (by first | assumption | (apply Ne.symm; assumption) | (simp; done)) (lk1 (by first | assumption | (apply Ne.symm; assumption) | (simp; done)) (va_up_self _ _ _))))) (by first | rfl | assumption) ?_
            refine pw_iload_n (pc := 32) dX5_goOnFrom_32 rfl ?_
            refine pw_iconst (pc := 33) (nI 1) dX5_goOnFrom_33 (by decide) ?_
            refine pw_iload_n (pc := 34) dX5_goOnFrom_34 rfl ?_
            refine pw_ishl (pc := 35) dX5_goOnFrom_35 ?_
            refine pw_ior (pc := 36) dX5_goOnFrom_36 ?_
            rw [show nI P ||| nI 1 <<< (nI k &&& 31) = nI (P ||| 2 ^ k) from nI_or_pow (by omega) (by omega)]
            refine pw_dup2 (pc := 37) dX5_goOnFrom_37 rfl rfl ?_
            refine pw_lald (pc := 38) (P ||| 2 ^ k) dX5_goOnFrom_38 (by first | assumption | exact va_up_self _ _ _ | exact lk1 (by first | assumption | (apply Ne.symm; assumption) | (simp; done)) (by assumption) | exact lk1 (by first | assumption | (apply Ne.symm; assumption) | (simp; done)) (va_up_self _ _ _) | exact lk1 (by first | assumption | (apply Ne.symm; assumption) | (simp; done)) (lk1 (by first | assumption | (apply Ne.symm; assumption) | (simp; done)) (by assumption)) | exact lk1 (by first | assumption | (apply Ne.symm; assumption) | (simp; done)) (lk1 (by first | assumption | (apply Ne.symm; assumption) | (simp; done)) (va_up_self _ _ _)) | exact lk1 (by first | assumption | (apply Ne.symm; assumption) | (simp; done)) (lk1 (by first | assumption | (apply Ne.symm; assumption) | (simp; done)) (lk1 (by first | assumption | (apply Ne.symm; assumption) | (simp; done)) (by assumption))) | exact lk1 (by first | assumption | (apply Ne.symm; assumption) | (simp; done)) (lk1 (by first | assumption | (apply Ne.symm; assumption) | (simp; done)) (lk1 (by first | assumption | (apply Ne.symm; assumption) | (simp; done)) (va_up_self _ _ _))) | exact lk1 (by first | assumption | (apply Ne.symm; assumption) | (simp; done)) (lk1 (by first | assumption | (apply Ne.symm; assumption) | (simp; done)) (lk1 (by first | assumption | (apply Ne.symm; assumption) | (simp; done)) (lk1 (by first | assumption | (apply Ne.symm; assumption) | (simp; done)) (by assumption)))) | exact lk1 (by first | assumption | (apply Ne.symm; assumption) | (simp; done)) (lk1 (by first | assumption | (apply Ne.symm; assumption) | (simp; done)) (lk1 (by first | assumption | (apply Ne.symm; assumption) | (simp; done)) (lk1 (by first | assumption | (apply Ne.symm; assumption) | (simp; done)) (va_up_self _ _ _))))) (by first | assumption | rfl | (simp only [nI_add, pk_mul, Nat.one_mul, Nat.mul_one, Nat.zero_add, Nat.add_zero, Nat.mul_zero]; done) | exact pk_sub (by omega) | (rw [pk_sub (by omega)]; first | done | (rw [nI_add]; done) | (rw [pk_sub (by omega)]; done) | (rw [pk_sub (by omega), nI_add]; done)) | (simp only [nI_add, pk_mul]; first | exact pk_sub (by omega) | (congr 1; omega)) | (congr 1; omega)) (by omega) (by omega) ?_
            refine pw_aload_n (pc := 39) dX5_goOnFrom_39 rfl ?_
            refine pw_get (pc := 40) fg_X5_18 dX5_goOnFrom_40 (by first | assumption | exact va_up_self _ _ _ | exact lk1 (by first | assumption | (apply Ne.symm; assumption) | (simp; done)) (by assumption) | exact lk1 (by first | assumption | (apply Ne.symm; assumption) | (simp; done)) (va_up_self _ _ _) | exact lk1 (by first | assumption | (apply Ne.symm; assumption) | (simp; done)) (lk1 (by first | assumption | (apply Ne.symm; assumption) | (simp; done)) (by assumption)) | exact lk1 (by first | assumption | (apply Ne.symm; assumption) | (simp; done)) (lk1 (by first | assumption | (apply Ne.symm; assumption) | (simp; done)) (va_up_self _ _ _)) | exact lk1 (by first | assumption | (apply Ne.symm; assumption) | (simp; done)) (lk1 (by first | assumption | (apply Ne.symm; assumption) | (simp; done)) (lk1 (by first | assumption | (apply Ne.symm; assumption) | (simp; done)) (by assumption))) | exact lk1 (by first | assumption | (apply Ne.symm; assumption) | (simp; done)) (lk1 (by first | assumption | (apply Ne.symm; assumption) | (simp; done)) (lk1 (by first | assumption | (apply Ne.symm; assumption) | (simp; done)) (va_up_self _ _ _))) | exact lk1 (by first | assumption | (apply Ne.symm; assumption) | (simp; done)) (lk1 (by first | assumption | (apply Ne.symm; assumption) | (simp; done)) (lk1 (by first | assumption | (apply Ne.symm; assumption) | (simp; done)) (lk1 (by first | assumption | (apply Ne.symm; assumption) | (simp; done)) (by assumption)))) | exact lk1 (by first | assumption | (apply Ne.symm; assumption) | (simp; done)) (lk1 (by first | assumption | (apply Ne.symm; assumption) | (simp; done)) (lk1 (by first | assumption | (apply Ne.symm; assumption) | (simp; done)) (lk1 (by first | assumption | (apply Ne.symm; assumption) | (simp; done)) (va_up_self _ _ _))))) (by first | rfl | assumption) ?_
            refine pw_iload_n (pc := 43) dX5_goOnFrom_43 rfl ?_
            refine pw_lald (pc := 44) (P) dX5_goOnFrom_44 (by first | assumption | exact va_up_self _ _ _ | exact lk1 (by first | assumption | (apply Ne.symm; assumption) | (simp; done)) (by assumption) | exact lk1 (by first | assumption | (apply Ne.symm; assumption) | (simp; done)) (va_up_self _ _ _) | exact lk1 (by first | assumption | (apply Ne.symm; assumption) | (simp; done)) (lk1 (by first | assumption | (apply Ne.symm; assumption) | (simp; done)) (by assumption)) | exact lk1 (by first | assumption | (apply Ne.symm; assumption) | (simp; done)) (lk1 (by first | assumption | (apply Ne.symm; assumption) | (simp; done)) (va_up_self _ _ _)) | exact lk1 (by first | assumption | (apply Ne.symm; assumption) | (simp; done)) (lk1 (by first | assumption | (apply Ne.symm; assumption) | (simp; done)) (lk1 (by first | assumption | (apply Ne.symm; assumption) | (simp; done)) (by assumption))) | exact lk1 (by first | assumption | (apply Ne.symm; assumption) | (simp; done)) (lk1 (by first | assumption | (apply Ne.symm; assumption) | (simp; done)) (lk1 (by first | assumption | (apply Ne.symm; assumption) | (simp; done)) (va_up_self _ _ _))) | exact lk1 (by first | assumption | (apply Ne.symm; assumption) | (simp; done)) (lk1 (by first | assumption | (apply Ne.symm; assumption) | (simp; done)) (lk1 (by first | assumption | (apply Ne.symm; assumption) | (simp; done)) (lk1 (by first | assumption | (apply Ne.symm; assumption) | (simp; done)) (by assumption)))) | exact lk1 (by first | assumption | (apply Ne.symm; assumption) | (simp; done)) (lk1 (by first | assumption | (apply Ne.symm; assumption) | (simp; done)) (lk1 (by first | assumption | (apply Ne.symm; assumption) | (simp; done)) (lk1 (by first | assumption | (apply Ne.symm; assumption) | (simp; done)) (va_up_self _ _ _))))) (by first | assumption | rfl | (simp only [nI_add, pk_mul, Nat.one_mul, Nat.mul_one, Nat.zero_add, Nat.add_zero, Nat.mul_zero]; done) | exact pk_sub (by omega) | (rw [pk_sub (by omega)]; first | done | (rw [nI_add]; done) | (rw [pk_sub (by omega)]; done) | (rw [pk_sub (by omega), nI_add]; done)) | (simp only [nI_add, pk_mul]; first | exact pk_sub (by omega) | (congr 1; omega)) | (congr 1; omega)) (by omega) (by omega) ?_
            refine pw_ladd (pc := 45) dX5_goOnFrom_45 ?_
            have eP : w' P = oL (A P) := by rw [hw' P hP, hPk k (by omega)]; rfl
            rw [hw' _ ht0, eP, oL_add]
            refine pw_last (pc := 46) (P ||| 2 ^ k) dX5_goOnFrom_46 (by first | assumption | exact va_up_self _ _ _ | exact lk1 (by first | assumption | (apply Ne.symm; assumption) | (simp; done)) (by assumption) | exact lk1 (by first | assumption | (apply Ne.symm; assumption) | (simp; done)) (va_up_self _ _ _) | exact lk1 (by first | assumption | (apply Ne.symm; assumption) | (simp; done)) (lk1 (by first | assumption | (apply Ne.symm; assumption) | (simp; done)) (by assumption)) | exact lk1 (by first | assumption | (apply Ne.symm; assumption) | (simp; done)) (lk1 (by first | assumption | (apply Ne.symm; assumption) | (simp; done)) (va_up_self _ _ _)) | exact lk1 (by first | assumption | (apply Ne.symm; assumption) | (simp; done)) (lk1 (by first | assumption | (apply Ne.symm; assumption) | (simp; done)) (lk1 (by first | assumption | (apply Ne.symm; assumption) | (simp; done)) (by assumption))) | exact lk1 (by first | assumption | (apply Ne.symm; assumption) | (simp; done)) (lk1 (by first | assumption | (apply Ne.symm; assumption) | (simp; done)) (lk1 (by first | assumption | (apply Ne.symm; assumption) | (simp; done)) (va_up_self _ _ _))) | exact lk1 (by first | assumption | (apply Ne.symm; assumption) | (simp; done)) (lk1 (by first | assumption | (apply Ne.symm; assumption) | (simp; done)) (lk1 (by first | assumption | (apply Ne.symm; assumption) | (simp; done)) (lk1 (by first | assumption | (apply Ne.symm; assumption) | (simp; done)) (by assumption)))) | exact lk1 (by first | assumption | (apply Ne.symm; assumption) | (simp; done)) (lk1 (by first | assumption | (apply Ne.symm; assumption) | (simp; done)) (lk1 (by first | assumption | (apply Ne.symm; assumption) | (simp; done)) (lk1 (by first | assumption | (apply Ne.symm; assumption) | (simp; done)) (va_up_self _ _ _))))) (by first | assumption | rfl | (simp only [nI_add, pk_mul, Nat.one_mul, Nat.mul_one, Nat.zero_add, Nat.add_zero, Nat.mul_zero]; done) | exact pk_sub (by omega) | (rw [pk_sub (by omega)]; first | done | (rw [nI_add]; done) | (rw [pk_sub (by omega)]; done) | (rw [pk_sub (by omega), nI_add]; done)) | (simp only [nI_add, pk_mul]; first | exact pk_sub (by omega) | (congr 1; omega)) | (congr 1; omega)) (by omega) (by omega) ?_
            refine pw_iinc3 (pc := 47) (nI (k + 1)) dX5_goOnFrom_47 (Nat.le_of_ble_eq_true rfl) rfl (ni_inc _) ?_
            refine pw_goto (pc := 50) 2 dX5_goOnFrom_50 (by decide) ?_
            refine ih (k + 1) _ _ (by omega) (fun t ht => ?_) (va_up_self _ _ _) (fun q hq => by rw [va_up_ne _ _ hq]; exact xf q hq)
            by_cases e : t = P ||| 2 ^ k
            · subst e
              rw [show vp_updL w' (P ||| 2 ^ k) (oL (A (P ||| 2 ^ k) + gt nd k P (A P) (P ||| 2 ^ k) + A P)) (P ||| 2 ^ k) = oL (A (P ||| 2 ^ k) + gt nd k P (A P) (P ||| 2 ^ k) + A P) by simp [vp_updL]]
              have e2 : gt nd (k + 1) P (A P) (P ||| 2 ^ k) = gt nd k P (A P) (P ||| 2 ^ k) + A P := by rw [gt, sumN, if_pos ⟨by rw [z]; simp, hsub, rfl⟩]; rfl
              rw [e2, Nat.add_assoc]
            · rw [show vp_updL w' (P ||| 2 ^ k) (oL (A (P ||| 2 ^ k) + gt nd k P (A P) (P ||| 2 ^ k) + A P)) t = w' t by simp [vp_updL, e], hw' t ht]
              have e2 : gt nd (k + 1) P (A P) t = gt nd k P (A P) t := by rw [gt, sumN, if_neg (fun q => e q.2.2)]; rfl
              rw [e2]
  refine PM.of [.ref s, .int (nI P), .int (nI N), .null] rfl (Nat.le_of_ble_eq_true rfl) rfl ?_
  refine pw_iconst (pc := 0) (nI 0) dX5_goOnFrom_0 (by decide) ?_
  refine pw_ist3 (pc := 1) dX5_goOnFrom_1 (Nat.le_of_ble_eq_true rfl) rfl ?_
  exact loop N 0 w h (by omega) (fun t ht => hwA t ht) s3 (fun _ _ => rfl)
abbrev ndC (f : Nat → Int32) (al : Int32) (j : Nat) : Nat := pkF al (f ((nmL al 26).getD j 0)) 26
theorem c_countOrders (hs : sidB h s f al) (h12 : (nmL al 26).length ≤ 12) : PM E mX5_countOrders [.ref s] h n n 0 (fun v h' => v = some (.long (oL (WW (ndC f al) (nmL al 26).length (2 ^ (nmL al 26).length - 1)))) ∧ sidB h' s f al ∧ only h h' s (s + 4)) := by
  obtain ⟨s0, ⟨f0, s1, hf0⟩, ⟨g2, s2⟩, w3, s3⟩ := id hs
  refine PM.of [.ref s, .null, .null, .null] rfl (Nat.le_of_ble_eq_true rfl) rfl ?_
  refine pw_aload_n (pc := 0) dX5_countOrders_0 rfl ?_
  refine pw_callV (pc := 1) cv_X5_78 dX5_countOrders_1 (by first | assumption | exact va_up_self _ _ _ | exact lk1 (by first | assumption | (apply Ne.symm; assumption) | (simp; done)) (by assumption) | exact lk1 (by first | assumption | (apply Ne.symm; assumption) | (simp; done)) (va_up_self _ _ _) | exact lk1 (by first | assumption | (apply Ne.symm; assumption) | (simp; done)) (lk1 (by first | assumption | (apply Ne.symm; assumption) | (simp; done)) (by assumption)) | exact lk1 (by first | assumption | (apply Ne.symm; assumption) | (simp; done)) (lk1 (by first | assumption | (apply Ne.symm; assumption) | (simp; done)) (va_up_self _ _ _)) | exact lk1 (by first | assumption | (apply Ne.symm; assumption) | (simp; done)) (lk1 (by first | assumption | (apply Ne.symm; assumption) | (simp; done)) (lk1 (by first | assumption | (apply Ne.symm; assumption) | (simp; done)) (by assumption))) | exact lk1 (by first | assumption | (apply Ne.symm; assumption) | (simp; done)) (lk1 (by first | assumption | (apply Ne.symm; assumption) | (simp; done)) (lk1 (by first | assumption | (apply Ne.symm; assumption) | (simp; done)) (va_up_self _ _ _))) | exact lk1 (by first | assumption | (apply Ne.symm; assumption) | (simp; done)) (lk1 (by first | assumption | (apply Ne.symm; assumption) | (simp; done)) (lk1 (by first | assumption | (apply Ne.symm; assumption) | (simp; done)) (lk1 (by first | assumption | (apply Ne.symm; assumption) | (simp; done)) (by assumption)))) | exact lk1 (by first | assumption | (apply Ne.symm; assumption) | (simp; done)) (lk1 (by first | assumption | (apply Ne.symm; assumption) | (simp; done)) (lk1 (by first | assumption | (apply Ne.symm; assumption) | (simp; done)) (lk1 (by first | assumption | (apply Ne.symm; assumption) | (simp; done)) (va_up_self _ _ _))))) rfl (c_fillNeeded hs h12) rfl rfl (Nat.le_of_ble_eq_true rfl) ⟨(Nat.le_of_ble_eq_true rfl), (Nat.le_of_ble_eq_true rfl)⟩ (Nat.le_refl _) (Nat.le_refl _) (Nat.zero_le _) (fun v h' q => ?_)
  obtain ⟨rfl, ⟨g, t2, hg⟩, tf⟩ := q
  have t0 := (tf s (by omega)).trans s0
  have t1 := (tf (s + 1) (by omega)).trans s1
  have t3 := (tf (s + 3) (by omega)).trans s3
  obtain ⟨N, hNe⟩ : ∃ N, N = (nmL al 26).length := ⟨_, rfl⟩
  rw [← hNe] at hg h12
  rw [show nI (nmL al 26).length = nI N from by rw [hNe]]
  have h4096 : 2 ^ N ≤ 2 ^ 12 := Nat.pow_le_pow_right (by omega) h12
  have hpos : 0 < 2 ^ N := Nat.two_pow_pos N
  have hnd : ∀ j, j < N → ndC f al j < 2 ^ 32 := fun j _ => Nat.lt_of_lt_of_le (pkF_lt _ _ _) (Nat.pow_le_pow_right (by omega) (by omega))
  have main : ∀ p P w h2, P + p = 2 ^ N - 1 → (∀ t, t < 2 ^ N → w t = oL (pt (ndC f al) N P t)) → h2 (s + 3) = some (.inl (1, 4096, .inr (.inl w))) → (∀ q, q ≠ s + 3 → h2 q = h' q) → PW (KX E mX5_countOrders n (fun v h' => v = some (.long (oL (WW (ndC f al) (nmL al 26).length (2 ^ (nmL al 26).length - 1)))) ∧ sidB h' s f al ∧ only h h' s (s + 4))) 40 [.ref s, .int (nI N), .int (nI (2 ^ N - 1)), .int (nI P)] [] h2 n 0 := by
    intro p
    induction p with
    | zero =>
      intro P w h2 hP hw x3 xf
      obtain rfl : P = 2 ^ N - 1 := by omega
      have x0 := (xf s (by omega)).trans t0
      refine pw_iload_n (pc := 40) dX5_countOrders_40 rfl ?_
      refine pw_iload_n (pc := 41) dX5_countOrders_41 rfl ?_
      refine pw_icmp_ge_n (pc := 42) 68 dX5_countOrders_42 (by decide) (by omega) (by omega) (fun cb => ?_) (fun cb => ?_)
      · refine pw_aload_n (pc := 68) dX5_countOrders_68 rfl ?_
        refine pw_get (pc := 69) fg_X5_18 dX5_countOrders_69 (by first | assumption | exact va_up_self _ _ _ | exact lk1 (by first | assumption | (apply Ne.symm; assumption) | (simp; done)) (by assumption) | exact lk1 (by first | assumption | (apply Ne.symm; assumption) | (simp; done)) (va_up_self _ _ _) | exact lk1 (by first | assumption | (apply Ne.symm; assumption) | (simp; done)) (lk1 (by first | assumption | (apply Ne.symm; assumption) | (simp; done)) (by assumption)) | exact lk1 (by first | assumption | (apply Ne.symm; assumption) | (simp; done)) (lk1 (by first | assumption | (apply Ne.symm; assumption) | (simp; done)) (va_up_self _ _ _)) | exact lk1 (by first | assumption | (apply Ne.symm; assumption) | (simp; done)) (lk1 (by first | assumption | (apply Ne.symm; assumption) | (simp; done)) (lk1 (by first | assumption | (apply Ne.symm; assumption) | (simp; done)) (by assumption))) | exact lk1 (by first | assumption | (apply Ne.symm; assumption) | (simp; done)) (lk1 (by first | assumption | (apply Ne.symm; assumption) | (simp; done)) (lk1 (by first | assumption | (apply Ne.symm; assumption) | (simp; done)) (va_up_self _ _ _))) | exact lk1 (by first | assumption | (apply Ne.symm; assumption) | (simp; done)) (lk1 (by first | assumption | (apply Ne.symm; assumption) | (simp; done)) (lk1 (by first | assumption | (apply Ne.symm; assumption) | (simp; done)) (lk1 (by first | assumption | (apply Ne.symm; assumption) | (simp; done)) (by assumption)))) | exact lk1 (by first | assumption | (apply Ne.symm; assumption) | (simp; done)) (lk1 (by first | assumption | (apply Ne.symm; assumption) | (simp; done)) (lk1 (by first | assumption | (apply Ne.symm; assumption) | (simp; done)) (lk1 (by first | assumption | (apply Ne.symm; assumption) | (simp; done)) (va_up_self _ _ _))))) (by first | rfl | assumption) ?_
        refine pw_iload_n (pc := 72) dX5_countOrders_72 rfl ?_
        refine pw_lald (pc := 73) (2 ^ N - 1) dX5_countOrders_73 (by first | assumption | exact va_up_self _ _ _ | exact lk1 (by first | assumption | (apply Ne.symm; assumption) | (simp; done)) (by assumption) | exact lk1 (by first | assumption | (apply Ne.symm; assumption) | (simp; done)) (va_up_self _ _ _) | exact lk1 (by first | assumption | (apply Ne.symm; assumption) | (simp; done)) (lk1 (by first | assumption | (apply Ne.symm; assumption) | (simp; done)) (by assumption)) | exact lk1 (by first | assumption | (apply Ne.symm; assumption) | (simp; done)) (lk1 (by first | assumption | (apply Ne.symm; assumption) | (simp; done)) (va_up_self _ _ _)) | exact lk1 (by first | assumption | (apply Ne.symm; assumption) | (simp; done)) (lk1 (by first | assumption | (apply Ne.symm; assumption) | (simp; done)) (lk1 (by first | assumption | (apply Ne.symm; assumption) | (simp; done)) (by assumption))) | exact lk1 (by first | assumption | (apply Ne.symm; assumption) | (simp; done)) (lk1 (by first | assumption | (apply Ne.symm; assumption) | (simp; done)) (lk1 (by first | assumption | (apply Ne.symm; assumption) | (simp; done)) (va_up_self _ _ _))) | exact lk1 (by first | assumption | (apply Ne.symm; assumption) | (simp; done)) (lk1 (by first | assumption | (apply Ne.symm; assumption) | (simp; done)) (lk1 (by first | assumption | (apply Ne.symm; assumption) | (simp; done)) (lk1 (by first | assumption | (apply Ne.symm; assumption) | (simp; done)) (by assumption)))) | exact lk1 (by first | assumption | (apply Ne.symm; assumption) | (simp; done)) (lk1 (by first | assumption | (apply Ne.symm; assumption) | (simp; done)) (lk1 (by first | assumption | (apply Ne.symm; assumption) | (simp; done)) (lk1 (by first | assumption | (apply Ne.symm; assumption) | (simp; done)) (va_up_self _ _ _))))) (by first | assumption | rfl | (simp only [nI_add, pk_mul, Nat.one_mul, Nat.mul_one, Nat.zero_add, Nat.add_zero, Nat.mul_zero]; done) | exact pk_sub (by omega) | (rw [pk_sub (by omega)]; first | done | (rw [nI_add]; done) | (rw [pk_sub (by omega)]; done) | (rw [pk_sub (by omega), nI_add]; done)) | (simp only [nI_add, pk_mul]; first | exact pk_sub (by omega) | (congr 1; omega)) | (congr 1; omega)) (by omega) (by omega) ?_
        refine pw_lret dX5_countOrders_74 rfl ⟨?_, ⟨x0, ⟨f0, (xf _ (by omega)).trans t1, hf0⟩, ⟨g, (xf _ (by omega)).trans t2⟩, w, x3⟩, fun q hq => ((xf q (by omega)).trans (tf q (by omega)))⟩
        rw [hw _ (by omega), pt_le (by omega) (Nat.le_refl _), hNe]
      · omega
    | succ p ih =>
      intro P w h2 hP hw x3 xf
      have x0 := (xf s (by omega)).trans t0
      have x2 := (xf (s + 2) (by omega)).trans t2
      have eP : pt (ndC f al) N P P = WW (ndC f al) N P := pt_le (by omega) (Nat.le_refl _)
      refine pw_iload_n (pc := 40) dX5_countOrders_40 rfl ?_
      refine pw_iload_n (pc := 41) dX5_countOrders_41 rfl ?_
      refine pw_icmp_ge_n (pc := 42) 68 dX5_countOrders_42 (by decide) (by omega) (by omega) (fun cb => ?_) (fun cb => ?_)
      · omega
      · refine pw_aload_n (pc := 45) dX5_countOrders_45 rfl ?_
        refine pw_get (pc := 46) fg_X5_18 dX5_countOrders_46 (by first | assumption | exact va_up_self _ _ _ | exact lk1 (by first | assumption | (apply Ne.symm; assumption) | (simp; done)) (by assumption) | exact lk1 (by first | assumption | (apply Ne.symm; assumption) | (simp; done)) (va_up_self _ _ _) | exact lk1 (by first | assumption | (apply Ne.symm; assumption) | (simp; done)) (lk1 (by first | assumption | (apply Ne.symm; assumption) | (simp; done)) (by assumption)) | exact lk1 (by first | assumption | (apply Ne.symm; assumption) | (simp; done)) (lk1 (by first | assumption | (apply Ne.symm; assumption) | (simp; done)) (va_up_self _ _ _)) | exact lk1 (by first | assumption | (apply Ne.symm; assumption) | (simp; done)) (lk1 (by first | assumption | (apply Ne.symm; assumption) | (simp; done)) (lk1 (by first | assumption | (apply Ne.symm; assumption) | (simp; done)) (by assumption))) | exact lk1 (by first | assumption | (apply Ne.symm; assumption) | (simp; done)) (lk1 (by first | assumption | (apply Ne.symm; assumption) | (simp; done)) (lk1 (by first | assumption | (apply Ne.symm; assumption) | (simp; done)) (va_up_self _ _ _))) | exact lk1 (by first | assumption | (apply Ne.symm; assumption) | (simp; done)) (lk1 (by first | assumption | (apply Ne.symm; assumption) | (simp; done)) (lk1 (by first | assumption | (apply Ne.symm; assumption) | (simp; done)) (lk1 (by first | assumption | (apply Ne.symm; assumption) | (simp; done)) (by assumption)))) | exact lk1 (by first | assumption | (apply Ne.symm; assumption) | (simp; done)) (lk1 (by first | assumption | (apply Ne.symm; assumption) | (simp; done)) (lk1 (by first | assumption | (apply Ne.symm; assumption) | (simp; done)) (lk1 (by first | assumption | (apply Ne.symm; assumption) | (simp; done)) (va_up_self _ _ _))))) (by first | rfl | assumption) ?_
        refine pw_iload_n (pc := 49) dX5_countOrders_49 rfl ?_
        refine pw_lald (pc := 50) (P) dX5_countOrders_50 (by first | assumption | exact va_up_self _ _ _ | exact lk1 (by first | assumption | (apply Ne.symm; assumption) | (simp; done)) (by assumption) | exact lk1 (by first | assumption | (apply Ne.symm; assumption) | (simp; done)) (va_up_self _ _ _) | exact lk1 (by first | assumption | (apply Ne.symm; assumption) | (simp; done)) (lk1 (by first | assumption | (apply Ne.symm; assumption) | (simp; done)) (by assumption)) | exact lk1 (by first | assumption | (apply Ne.symm; assumption) | (simp; done)) (lk1 (by first | assumption | (apply Ne.symm; assumption) | (simp; done)) (va_up_self _ _ _)) | exact lk1 (by first | assumption | (apply Ne.symm; assumption) | (simp; done)) (lk1 (by first | assumption | (apply Ne.symm; assumption) | (simp; done)) (lk1 (by first | assumption | (apply Ne.symm; assumption) | (simp; done)) (by assumption))) | exact lk1 (by first | assumption | (apply Ne.symm; assumption) | (simp; done)) (lk1 (by first | assumption | (apply Ne.symm; assumption) | (simp; done)) (lk1 (by first | assumption | (apply Ne.symm; assumption) | (simp; done)) (va_up_self _ _ _))) | exact lk1 (by first | assumption | (apply Ne.symm; assumption) | (simp; done)) (lk1 (by first | assumption | (apply Ne.symm; assumption) | (simp; done)) (lk1 (by first | assumption | (apply Ne.symm; assumption) | (simp; done)) (lk1 (by first | assumption | (apply Ne.symm; assumption) | (simp; done)) (by assumption)))) | exact lk1 (by first | assumption | (apply Ne.symm; assumption) | (simp; done)) (lk1 (by first | assumption | (apply Ne.symm; assumption) | (simp; done)) (lk1 (by first | assumption | (apply Ne.symm; assumption) | (simp; done)) (lk1 (by first | assumption | (apply Ne.symm; assumption) | (simp; done)) (va_up_self _ _ _))))) (by first | assumption | rfl | (simp only [nI_add, pk_mul, Nat.one_mul, Nat.mul_one, Nat.zero_add, Nat.add_zero, Nat.mul_zero]; done) | exact pk_sub (by omega) | (rw [pk_sub (by omega)]; first | done | (rw [nI_add]; done) | (rw [pk_sub (by omega)]; done) | (rw [pk_sub (by omega), nI_add]; done)) | (simp only [nI_add, pk_mul]; first | exact pk_sub (by omega) | (congr 1; omega)) | (congr 1; omega)) (by omega) (by omega) ?_
        refine pw_lconst (pc := 51) (0) dX5_countOrders_51 (by decide) ?_
        refine pw_lcmp (pc := 52) dX5_countOrders_52 ?_
        refine pw_if_eq (pc := 53) 62 dX5_countOrders_53 (by decide) (fun y => ?_) (fun y => ?_)
        · rw [lg_cmp_eq, hw P (by omega), eP] at y
          refine pw_iinc3 (pc := 62) (nI (P + 1)) dX5_countOrders_62 (Nat.le_of_ble_eq_true rfl) rfl (ni_inc _) ?_
          refine pw_goto (pc := 65) 40 dX5_countOrders_65 (by decide) ?_
          refine ih (P + 1) w h2 (by omega) (fun t ht => ?_) x3 xf
          rw [hw t ht, pt_s, ← oL_add, gt_0 y, Int64.add_zero]
        · refine pw_aload_n (pc := 56) dX5_countOrders_56 rfl ?_
          refine pw_iload_n (pc := 57) dX5_countOrders_57 rfl ?_
          refine pw_iload_n (pc := 58) dX5_countOrders_58 rfl ?_
          refine pw_callV (pc := 59) cv_X5_82 dX5_countOrders_59 (by first | assumption | exact va_up_self _ _ _ | exact lk1 (by first | assumption | (apply Ne.symm; assumption) | (simp; done)) (by assumption) | exact lk1 (by first | assumption | (apply Ne.symm; assumption) | (simp; done)) (va_up_self _ _ _) | exact lk1 (by first | assumption | (apply Ne.symm; assumption) | (simp; done)) (lk1 (by first | assumption | (apply Ne.symm; assumption) | (simp; done)) (by assumption)) | exact lk1 (by first | assumption | (apply Ne.symm; assumption) | (simp; done)) (lk1 (by first | assumption | (apply Ne.symm; assumption) | (simp; done)) (va_up_self _ _ _)) | exact lk1 (by first | assumption | (apply Ne.symm; assumption) | (simp; done)) (lk1 (by first | assumption | (apply Ne.symm; assumption) | (simp; done)) (lk1 (by first | assumption | (apply Ne.symm; assumption) | (simp; done)) (by assumption))) | exact lk1 (by first | assumption | (apply Ne.symm; assumption) | (simp; done)) (lk1 (by first | assumption | (apply Ne.symm; assumption) | (simp; done)) (lk1 (by first | assumption | (apply Ne.symm; assumption) | (simp; done)) (va_up_self _ _ _))) | exact lk1 (by first | assumption | (apply Ne.symm; assumption) | (simp; done)) (lk1 (by first | assumption | (apply Ne.symm; assumption) | (simp; done)) (lk1 (by first | assumption | (apply Ne.symm; assumption) | (simp; done)) (lk1 (by first | assumption | (apply Ne.symm; assumption) | (simp; done)) (by assumption)))) | exact lk1 (by first | assumption | (apply Ne.symm; assumption) | (simp; done)) (lk1 (by first | assumption | (apply Ne.symm; assumption) | (simp; done)) (lk1 (by first | assumption | (apply Ne.symm; assumption) | (simp; done)) (lk1 (by first | assumption | (apply Ne.symm; assumption) | (simp; done)) (va_up_self _ _ _))))) rfl (c_goOnFrom (A := pt (ndC f al) N P) x0 x2 hg hnd x3 hw h12 (by omega)) rfl rfl (Nat.le_of_ble_eq_true rfl) ⟨(Nat.le_of_ble_eq_true rfl), (Nat.le_of_ble_eq_true rfl)⟩ (Nat.le_refl _) (Nat.le_refl _) (Nat.zero_le _) (fun v h' q => ?_)
          obtain ⟨rfl, ⟨w', y3, hw'⟩, yf⟩ := q
          refine pw_iinc3 (pc := 62) (nI (P + 1)) dX5_countOrders_62 (Nat.le_of_ble_eq_true rfl) rfl (ni_inc _) ?_
          refine pw_goto (pc := 65) 40 dX5_countOrders_65 (by decide) ?_
          refine ih (P + 1) w' _ (by omega) (fun t ht => ?_) y3 (fun q hq => (yf q hq).trans (xf q hq))
          rw [hw' t ht, pt_s, eP]
  have zero : ∀ p k w h2, k + p = 2 ^ N → (∀ t, t < k → w t = 0) → h2 (s + 3) = some (.inl (1, 4096, .inr (.inl w))) → (∀ q, q ≠ s + 3 → h2 q = h' q) → PW (KX E mX5_countOrders n (fun v h' => v = some (.long (oL (WW (ndC f al) (nmL al 26).length (2 ^ (nmL al 26).length - 1)))) ∧ sidB h' s f al ∧ only h h' s (s + 4))) 13 [.ref s, .int (nI N), .int (nI (2 ^ N - 1)), .int (nI k)] [] h2 n 0 := by
    intro p
    induction p with
    | zero =>
      intro k w h2 hk hw x3 xf
      have x0 := (xf s (by omega)).trans t0
      refine pw_iload_n (pc := 13) dX5_countOrders_13 rfl ?_
      refine pw_iload_n (pc := 14) dX5_countOrders_14 rfl ?_
      refine pw_icmp_gt_n (pc := 15) 31 dX5_countOrders_15 (by decide) (by omega) (by omega) (fun cb => ?_) (fun cb => ?_)
      · refine pw_aload_n (pc := 31) dX5_countOrders_31 rfl ?_
        refine pw_get (pc := 32) fg_X5_18 dX5_countOrders_32 (by first | assumption | exact va_up_self _ _ _ | exact lk1 (by first | assumption | (apply Ne.symm; assumption) | (simp; done)) (by assumption) | exact lk1 (by first | assumption | (apply Ne.symm; assumption) | (simp; done)) (va_up_self _ _ _) | exact lk1 (by first | assumption | (apply Ne.symm; assumption) | (simp; done)) (lk1 (by first | assumption | (apply Ne.symm; assumption) | (simp; done)) (by assumption)) | exact lk1 (by first | assumption | (apply Ne.symm; assumption) | (simp; done)) (lk1 (by first | assumption | (apply Ne.symm; assumption) | (simp; done)) (va_up_self _ _ _)) | exact lk1 (by first | assumption | (apply Ne.symm; assumption) | (simp; done)) (lk1 (by first | assumption | (apply Ne.symm; assumption) | (simp; done)) (lk1 (by first | assumption | (apply Ne.symm; assumption) | (simp; done)) (by assumption))) | exact lk1 (by first | assumption | (apply Ne.symm; assumption) | (simp; done)) (lk1 (by first | assumption | (apply Ne.symm; assumption) | (simp; done)) (lk1 (by first | assumption | (apply Ne.symm; assumption) | (simp; done)) (va_up_self _ _ _))) | exact lk1 (by first | assumption | (apply Ne.symm; assumption) | (simp; done)) (lk1 (by first | assumption | (apply Ne.symm; assumption) | (simp; done)) (lk1 (by first | assumption | (apply Ne.symm; assumption) | (simp; done)) (lk1 (by first | assumption | (apply Ne.symm; assumption) | (simp; done)) (by assumption)))) | exact lk1 (by first | assumption | (apply Ne.symm; assumption) | (simp; done)) (lk1 (by first | assumption | (apply Ne.symm; assumption) | (simp; done)) (lk1 (by first | assumption | (apply Ne.symm; assumption) | (simp; done)) (lk1 (by first | assumption | (apply Ne.symm; assumption) | (simp; done)) (va_up_self _ _ _))))) (by first | rfl | assumption) ?_
        refine pw_iconst (pc := 35) (nI 0) dX5_countOrders_35 (by decide) ?_
        refine pw_lconst (pc := 36) (1) dX5_countOrders_36 (by decide) ?_
        refine pw_last (pc := 37) (0) dX5_countOrders_37 (by first | assumption | exact va_up_self _ _ _ | exact lk1 (by first | assumption | (apply Ne.symm; assumption) | (simp; done)) (by assumption) | exact lk1 (by first | assumption | (apply Ne.symm; assumption) | (simp; done)) (va_up_self _ _ _) | exact lk1 (by first | assumption | (apply Ne.symm; assumption) | (simp; done)) (lk1 (by first | assumption | (apply Ne.symm; assumption) | (simp; done)) (by assumption)) | exact lk1 (by first | assumption | (apply Ne.symm; assumption) | (simp; done)) (lk1 (by first | assumption | (apply Ne.symm; assumption) | (simp; done)) (va_up_self _ _ _)) | exact lk1 (by first | assumption | (apply Ne.symm; assumption) | (simp; done)) (lk1 (by first | assumption | (apply Ne.symm; assumption) | (simp; done)) (lk1 (by first | assumption | (apply Ne.symm; assumption) | (simp; done)) (by assumption))) | exact lk1 (by first | assumption | (apply Ne.symm; assumption) | (simp; done)) (lk1 (by first | assumption | (apply Ne.symm; assumption) | (simp; done)) (lk1 (by first | assumption | (apply Ne.symm; assumption) | (simp; done)) (va_up_self _ _ _))) | exact lk1 (by first | assumption | (apply Ne.symm; assumption) | (simp; done)) (lk1 (by first | assumption | (apply Ne.symm; assumption) | (simp; done)) (lk1 (by first | assumption | (apply Ne.symm; assumption) | (simp; done)) (lk1 (by first | assumption | (apply Ne.symm; assumption) | (simp; done)) (by assumption)))) | exact lk1 (by first | assumption | (apply Ne.symm; assumption) | (simp; done)) (lk1 (by first | assumption | (apply Ne.symm; assumption) | (simp; done)) (lk1 (by first | assumption | (apply Ne.symm; assumption) | (simp; done)) (lk1 (by first | assumption | (apply Ne.symm; assumption) | (simp; done)) (va_up_self _ _ _))))) (by first | assumption | rfl | (simp only [nI_add, pk_mul, Nat.one_mul, Nat.mul_one, Nat.zero_add, Nat.add_zero, Nat.mul_zero]; done) | exact pk_sub (by omega) | (rw [pk_sub (by omega)]; first | done | (rw [nI_add]; done) | (rw [pk_sub (by omega)]; done) | (rw [pk_sub (by omega), nI_add]; done)) | (simp only [nI_add, pk_mul]; first | exact pk_sub (by omega) | (congr 1; omega)) | (congr 1; omega)) (by omega) (by omega) ?_
        refine pw_iconst (pc := 38) (nI 0) dX5_countOrders_38 (by decide) ?_
        refine pw_ist3 (pc := 39) dX5_countOrders_39 (Nat.le_of_ble_eq_true rfl) rfl ?_
        refine main (2 ^ N - 1) 0 _ _ (by omega) (fun t ht => ?_) (va_up_self _ _ _) (fun q hq => by rw [va_up_ne _ _ hq]; exact xf q hq)
        rw [pt_0]
        by_cases e : t = 0
        · subst e; simp [vp_updL]; rfl
        · simp [vp_updL, e]; exact hw t (by omega)
      · omega
    | succ p ih =>
      intro k w h2 hk hw x3 xf
      have x0 := (xf s (by omega)).trans t0
      refine pw_iload_n (pc := 13) dX5_countOrders_13 rfl ?_
      refine pw_iload_n (pc := 14) dX5_countOrders_14 rfl ?_
      refine pw_icmp_gt_n (pc := 15) 31 dX5_countOrders_15 (by decide) (by omega) (by omega) (fun cb => ?_) (fun cb => ?_)
      · omega
      · refine pw_aload_n (pc := 18) dX5_countOrders_18 rfl ?_
        refine pw_get (pc := 19) fg_X5_18 dX5_countOrders_19 (by first | assumption | exact va_up_self _ _ _ | exact lk1 (by first | assumption | (apply Ne.symm; assumption) | (simp; done)) (by assumption) | exact lk1 (by first | assumption | (apply Ne.symm; assumption) | (simp; done)) (va_up_self _ _ _) | exact lk1 (by first | assumption | (apply Ne.symm; assumption) | (simp; done)) (lk1 (by first | assumption | (apply Ne.symm; assumption) | (simp; done)) (by assumption)) | exact lk1 (by first | assumption | (apply Ne.symm; assumption) | (simp; done)) (lk1 (by first | assumption | (apply Ne.symm; assumption) | (simp; done)) (va_up_self _ _ _)) | exact lk1 (by first | assumption | (apply Ne.symm; assumption) | (simp; done)) (lk1 (by first | assumption | (apply Ne.symm; assumption) | (simp; done)) (lk1 (by first | assumption | (apply Ne.symm; assumption) | (simp; done)) (by assumption))) | exact lk1 (by first | assumption | (apply Ne.symm; assumption) | (simp; done)) (lk1 (by first | assumption | (apply Ne.symm; assumption) | (simp; done)) (lk1 (by first | assumption | (apply Ne.symm; assumption) | (simp; done)) (va_up_self _ _ _))) | exact lk1 (by first | assumption | (apply Ne.symm; assumption) | (simp; done)) (lk1 (by first | assumption | (apply Ne.symm; assumption) | (simp; done)) (lk1 (by first | assumption | (apply Ne.symm; assumption) | (simp; done)) (lk1 (by first | assumption | (apply Ne.symm; assumption) | (simp; done)) (by assumption)))) | exact lk1 (by first | assumption | (apply Ne.symm; assumption) | (simp; done)) (lk1 (by first | assumption | (apply Ne.symm; assumption) | (simp; done)) (lk1 (by first | assumption | (apply Ne.symm; assumption) | (simp; done)) (lk1 (by first | assumption | (apply Ne.symm; assumption) | (simp; done)) (va_up_self _ _ _))))) (by first | rfl | assumption) ?_
        refine pw_iload_n (pc := 22) dX5_countOrders_22 rfl ?_
        refine pw_lconst (pc := 23) (0) dX5_countOrders_23 (by decide) ?_
        refine pw_last (pc := 24) (k) dX5_countOrders_24 (by first | assumption | exact va_up_self _ _ _ | exact lk1 (by first | assumption | (apply Ne.symm; assumption) | (simp; done)) (by assumption) | exact lk1 (by first | assumption | (apply Ne.symm; assumption) | (simp; done)) (va_up_self _ _ _) | exact lk1 (by first | assumption | (apply Ne.symm; assumption) | (simp; done)) (lk1 (by first | assumption | (apply Ne.symm; assumption) | (simp; done)) (by assumption)) | exact lk1 (by first | assumption | (apply Ne.symm; assumption) | (simp; done)) (lk1 (by first | assumption | (apply Ne.symm; assumption) | (simp; done)) (va_up_self _ _ _)) | exact lk1 (by first | assumption | (apply Ne.symm; assumption) | (simp; done)) (lk1 (by first | assumption | (apply Ne.symm; assumption) | (simp; done)) (lk1 (by first | assumption | (apply Ne.symm; assumption) | (simp; done)) (by assumption))) | exact lk1 (by first | assumption | (apply Ne.symm; assumption) | (simp; done)) (lk1 (by first | assumption | (apply Ne.symm; assumption) | (simp; done)) (lk1 (by first | assumption | (apply Ne.symm; assumption) | (simp; done)) (va_up_self _ _ _))) | exact lk1 (by first | assumption | (apply Ne.symm; assumption) | (simp; done)) (lk1 (by first | assumption | (apply Ne.symm; assumption) | (simp; done)) (lk1 (by first | assumption | (apply Ne.symm; assumption) | (simp; done)) (lk1 (by first | assumption | (apply Ne.symm; assumption) | (simp; done)) (by assumption)))) | exact lk1 (by first | assumption | (apply Ne.symm; assumption) | (simp; done)) (lk1 (by first | assumption | (apply Ne.symm; assumption) | (simp; done)) (lk1 (by first | assumption | (apply Ne.symm; assumption) | (simp; done)) (lk1 (by first | assumption | (apply Ne.symm; assumption) | (simp; done)) (va_up_self _ _ _))))) (by first | assumption | rfl | (simp only [nI_add, pk_mul, Nat.one_mul, Nat.mul_one, Nat.zero_add, Nat.add_zero, Nat.mul_zero]; done) | exact pk_sub (by omega) | (rw [pk_sub (by omega)]; first | done | (rw [nI_add]; done) | (rw [pk_sub (by omega)]; done) | (rw [pk_sub (by omega), nI_add]; done)) | (simp only [nI_add, pk_mul]; first | exact pk_sub (by omega) | (congr 1; omega)) | (congr 1; omega)) (by omega) (by omega) ?_
        refine pw_iinc3 (pc := 25) (nI (k + 1)) dX5_countOrders_25 (Nat.le_of_ble_eq_true rfl) rfl (ni_inc _) ?_
        refine pw_goto (pc := 28) 13 dX5_countOrders_28 (by decide) ?_
        refine ih (k + 1) _ _ (by omega) (fun t ht => ?_) (va_up_self _ _ _) (fun q hq => by rw [va_up_ne _ _ hq]; exact xf q hq)
        by_cases e : t = k
        · subst e; simp [vp_updL]
        · simp [vp_updL, e]; exact hw t (by omega)
  refine pw_ist1 (pc := 4) dX5_countOrders_4 (Nat.le_of_ble_eq_true rfl) rfl ?_
  refine pw_iconst (pc := 5) (nI 1) dX5_countOrders_5 (by decide) ?_
  refine pw_iload_n (pc := 6) dX5_countOrders_6 rfl ?_
  refine pw_ishl (pc := 7) dX5_countOrders_7 ?_
  refine pw_iconst (pc := 8) (nI 1) dX5_countOrders_8 (by decide) ?_
  refine pw_isub (pc := 9) dX5_countOrders_9 ?_
  rw [full_nI h12]
  refine pw_ist2 (pc := 10) dX5_countOrders_10 (Nat.le_of_ble_eq_true rfl) rfl ?_
  refine pw_iconst (pc := 11) (nI 0) dX5_countOrders_11 (by decide) ?_
  refine pw_ist3 (pc := 12) dX5_countOrders_12 (Nat.le_of_ble_eq_true rfl) rfl ?_
  exact zero (2 ^ N) 0 w3 h' (by omega) (fun t ht => absurd ht (Nat.not_lt_zero t)) t3 (fun _ _ => rfl)
end S3
