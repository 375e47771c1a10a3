/-- a Row at a: names at b, of cap places, f its names, sz its size -/
def rowAt (h : HP) (a b cap : Nat) (f : Nat → Int32) (sz : Nat) : Prop := h a = some (.inr (3, [.ref b, .int (nI sz)])) ∧ h b = some (.inl (0, cap, .inl f)) ∧ sz ≤ cap ∧ cap < 1000
theorem c_Row_has {E : EV} {h : HP} {a b cap sz n : Nat} {f : Nat → Int32} (hr : rowAt h a b cap f sz) (x : Int32) : PM E mX3_has [.ref a, .int x] h n n 0 (QE (some (.int (bI (decide (0 ≤ x.toInt ∧ x.toInt < sz))))) h) := by
  obtain ⟨h1, h2, h3, h4⟩ := hr
  refine PM.of [.ref a, .int x] rfl (Nat.le_of_ble_eq_true rfl) rfl ?_
  refine pw_iload_n (pc := 0) dX3_has_0 rfl ?_
  refine pw_if_lt (pc := 1) 16 dX3_has_1 (by decide) (fun c => ?_) (fun c => ?_)
  · have c0 : x.toInt < 0 := by simpa [i32_lt] using c
    refine pw_iconst (pc := 16) (nI 0) dX3_has_16 (by decide) ?_
    refine pw_zret dX3_has_17 rfl (by decide) ⟨?_, rfl⟩
    have : decide (0 ≤ x.toInt ∧ x.toInt < (sz : Int)) = false := by simp; omega
    rw [this]; rfl
  · have c0 : ¬ x.toInt < 0 := by simpa [i32_lt] using c
    refine pw_iload_n (pc := 4) dX3_has_4 rfl ?_
    refine pw_aload_n (pc := 5) dX3_has_5 rfl ?_
    refine pw_get (pc := 6) fg_X3_9 dX3_has_6 (by first | assumption | (simp [va_up, *]; done)) (by rfl) ?_
    refine pw_icmp_ge (pc := 9) 16 dX3_has_9 (by decide) (fun c => ?_) (fun c => ?_)
    · have c1 : (sz : Int) ≤ x.toInt := by simpa [i32_le, nI_toInt (show sz < 2 ^ 31 by omega)] using c
      refine pw_iconst (pc := 16) (nI 0) dX3_has_16 (by decide) ?_
      refine pw_zret dX3_has_17 rfl (by decide) ⟨?_, rfl⟩
      have : decide (0 ≤ x.toInt ∧ x.toInt < (sz : Int)) = false := by simp; omega
      rw [this]; rfl
    · have c1 : ¬ (sz : Int) ≤ x.toInt := by simpa [i32_le, nI_toInt (show sz < 2 ^ 31 by omega)] using c
      refine pw_iconst (pc := 12) (nI 1) dX3_has_12 (by decide) ?_
      refine pw_goto (pc := 13) 17 dX3_has_13 (by decide) ?_
      refine pw_zret dX3_has_17 rfl (by decide) ⟨?_, rfl⟩
      have : decide (0 ≤ x.toInt ∧ x.toInt < (sz : Int)) = true := by simp; omega
      rw [this]; rfl
theorem ix_of {x : Int32} {sz : Nat} (h0 : 0 ≤ x.toInt) (h1 : x.toInt < sz) (hs : sz < 1000) : ∃ j : Nat, j < sz ∧ x = nI j := by
  refine ⟨x.toInt.toNat, by omega, ?_⟩
  rw [i32_eq, nI_toInt (by omega)]
  omega
/-- what nameAt answers -/
def nmA (f : Nat → Int32) (sz : Nat) (x : Int32) : Int32 := if 0 ≤ x.toInt ∧ x.toInt < sz then f x.toInt.toNat else -9
theorem nmA_in {f : Nat → Int32} {sz k : Nat} (hk : k < sz) (hs : sz < 1000) : nmA f sz (nI k) = f k := by
  have h1 : (nI k).toInt = (k : Int) := nI_toInt (by omega)
  simp [nmA, h1, hk]
theorem c_Row_nameAt {E : EV} {h : HP} {a b cap sz n : Nat} {f : Nat → Int32} (hr : rowAt h a b cap f sz) (x : Int32) : PM E mX3_nameAt [.ref a, .int x] h n n 0 (QE (some (.int (nmA f sz x))) h) := by
  obtain ⟨h1, h2, h3, h4⟩ := id hr
  refine PM.of [.ref a, .int x] rfl (Nat.le_of_ble_eq_true rfl) rfl ?_
  refine pw_aload_n (pc := 0) dX3_nameAt_0 rfl ?_
  refine pw_iload_n (pc := 1) dX3_nameAt_1 rfl ?_
  refine pw_callV_i (pc := 2) cv_X3_25 dX3_nameAt_2 (by first | assumption | (simp [va_up, *]; done)) rfl (c_Row_has hr x) rfl rfl (Nat.le_of_ble_eq_true rfl) ⟨(Nat.le_of_ble_eq_true rfl), (Nat.le_of_ble_eq_true rfl)⟩ ?_
  refine pw_if_eq_b 17 dX3_nameAt_5 (by decide) (fun c => ?_) (fun c => ?_)
  · refine pw_bipush (pc := 17) (-9) dX3_nameAt_17 (by decide) ?_
    refine pw_iret dX3_nameAt_19 rfl ⟨?_, rfl⟩
    have : ¬ (0 ≤ x.toInt ∧ x.toInt < (sz : Int)) := by simpa using c
    simp [nmA, this]
  · have c1 : 0 ≤ x.toInt ∧ x.toInt < (sz : Int) := by simpa using c
    obtain ⟨j, hj, rfl⟩ := ix_of c1.1 c1.2 (by omega)
    refine pw_aload_n (pc := 8) dX3_nameAt_8 rfl ?_
    refine pw_get (pc := 9) fg_X3_21 dX3_nameAt_9 (by first | assumption | (simp [va_up, *]; done)) (by rfl) ?_
    refine pw_iload_n (pc := 12) dX3_nameAt_12 rfl ?_
    refine pw_iald (pc := 13) (j) dX3_nameAt_13 (by first | assumption | (simp [va_up, *]; done)) (by first | rfl | (simp only [nI_add, pk_mul, pk_sub, Nat.one_mul, Nat.mul_one, Nat.zero_add, Nat.add_zero, Nat.mul_zero]; done) | (congr 1; omega)) (by omega) (by omega) ?_
    refine pw_goto (pc := 14) 19 dX3_nameAt_14 (by decide) ?_
    refine pw_iret dX3_nameAt_19 rfl ⟨?_, rfl⟩
    rw [nmA_in hj (by omega)]
/-- the place of x among f k, .., f (k + m - 1) -/
def plcF (f : Nat → Int32) (x : Int32) : Nat → Nat → Int32
  | _, 0 => -9
  | k, m + 1 => if f k = x then nI k else plcF f x (k + 1) m
def plc (f : Nat → Int32) (sz : Nat) (x : Int32) : Int32 := plcF f x 0 sz
theorem c_Row_placeOf {E : EV} {h : HP} {a b cap sz n : Nat} {f : Nat → Int32} (hr : rowAt h a b cap f sz) (x : Int32) : PM E mX3_placeOf [.ref a, .int x] h n n 0 (QE (some (.int (plc f sz x))) h) := by
  obtain ⟨h1, h2, h3, h4⟩ := id hr
  have loop : ∀ m k, k + m = sz → plcF f x k m = plc f sz x → PW (KX E mX3_placeOf n (QE (some (.int (plc f sz x))) h)) 2 [.ref a, .int x, .int (nI k)] [] h n 0 := by
    intro m
    induction m with
    | zero =>
      intro k hk e
      refine pw_iload_n (pc := 2) dX3_placeOf_2 rfl ?_
      refine pw_aload_n (pc := 3) dX3_placeOf_3 rfl ?_
      refine pw_get (pc := 4) fg_X3_9 dX3_placeOf_4 (by first | assumption | (simp [va_up, *]; done)) (by rfl) ?_
      refine pw_icmp_ge_n (pc := 7) 28 dX3_placeOf_7 (by decide) (by omega) (by omega) (fun c => ?_) (fun c => ?_)
      · refine pw_bipush (pc := 28) (-9) dX3_placeOf_28 (by decide) ?_
        refine pw_iret dX3_placeOf_30 rfl ⟨?_, rfl⟩
        rw [← e]; rfl
      · omega
    | succ m ih =>
      intro k hk e
      refine pw_iload_n (pc := 2) dX3_placeOf_2 rfl ?_
      refine pw_aload_n (pc := 3) dX3_placeOf_3 rfl ?_
      refine pw_get (pc := 4) fg_X3_9 dX3_placeOf_4 (by first | assumption | (simp [va_up, *]; done)) (by rfl) ?_
      refine pw_icmp_ge_n (pc := 7) 28 dX3_placeOf_7 (by decide) (by omega) (by omega) (fun c => ?_) (fun c => ?_)
      · omega
      · refine pw_aload_n (pc := 10) dX3_placeOf_10 rfl ?_
        refine pw_get (pc := 11) fg_X3_21 dX3_placeOf_11 (by first | assumption | (simp [va_up, *]; done)) (by rfl) ?_
        refine pw_iload_n (pc := 14) dX3_placeOf_14 rfl ?_
        refine pw_iald (pc := 15) (k) dX3_placeOf_15 (by first | assumption | (simp [va_up, *]; done)) (by first | rfl | (simp only [nI_add, pk_mul, pk_sub, Nat.one_mul, Nat.mul_one, Nat.zero_add, Nat.add_zero, Nat.mul_zero]; done) | (congr 1; omega)) (by omega) (by omega) ?_
        refine pw_iload_n (pc := 16) dX3_placeOf_16 rfl ?_
        refine pw_icmp_ne (pc := 17) 22 dX3_placeOf_17 (by decide) (fun c => ?_) (fun c => ?_)
        · refine pw_iinc2 (pc := 22) (nI (k + 1)) dX3_placeOf_22 (Nat.le_of_ble_eq_true rfl) rfl (ni_inc _) ?_
          refine pw_goto (pc := 25) 2 dX3_placeOf_25 (by decide) ?_
          refine ih (k + 1) (by omega) ?_
          rw [← e, plcF, if_neg c]
        · refine pw_iload_n (pc := 20) dX3_placeOf_20 rfl ?_
          refine pw_iret dX3_placeOf_21 rfl ⟨?_, rfl⟩
          rw [← e, plcF, if_pos c]
  refine PM.of [.ref a, .int x, .null] rfl (Nat.le_of_ble_eq_true rfl) rfl ?_
  refine pw_iconst (pc := 0) (nI 0) dX3_placeOf_0 (by decide) ?_
  refine pw_ist2 (pc := 1) dX3_placeOf_1 (Nat.le_of_ble_eq_true rfl) rfl ?_
  exact loop sz 0 (by omega) rfl
theorem c_Row_placeOrEnd {E : EV} {h : HP} {a b cap sz n : Nat} {f : Nat → Int32} (hr : rowAt h a b cap f sz) (x : Int32) : PM E mX3_placeOrEnd [.ref a, .int x] h n n 0 (QE (some (.int (if plc f sz x = -9 then nI sz else plc f sz x))) h) := by
  obtain ⟨h1, h2, h3, h4⟩ := id hr
  refine PM.of [.ref a, .int x, .null] rfl (Nat.le_of_ble_eq_true rfl) rfl ?_
  refine pw_aload_n (pc := 0) dX3_placeOrEnd_0 rfl ?_
  refine pw_iload_n (pc := 1) dX3_placeOrEnd_1 rfl ?_
  refine pw_callV_i (pc := 2) cv_X3_29 dX3_placeOrEnd_2 (by first | assumption | (simp [va_up, *]; done)) rfl (c_Row_placeOf hr x) rfl rfl (Nat.le_of_ble_eq_true rfl) ⟨(Nat.le_of_ble_eq_true rfl), (Nat.le_of_ble_eq_true rfl)⟩ ?_
  refine pw_ist2 (pc := 5) dX3_placeOrEnd_5 (Nat.le_of_ble_eq_true rfl) rfl ?_
  refine pw_iload_n (pc := 6) dX3_placeOrEnd_6 rfl ?_
  refine pw_bipush (pc := 7) (-9) dX3_placeOrEnd_7 (by decide) ?_
  refine pw_icmp_ne (pc := 9) 19 dX3_placeOrEnd_9 (by decide) (fun c => ?_) (fun c => ?_)
  · refine pw_iload_n (pc := 19) dX3_placeOrEnd_19 rfl ?_
    refine pw_iret dX3_placeOrEnd_20 rfl ⟨?_, rfl⟩
    rw [if_neg c]
  · refine pw_aload_n (pc := 12) dX3_placeOrEnd_12 rfl ?_
    refine pw_get (pc := 13) fg_X3_9 dX3_placeOrEnd_13 (by first | assumption | (simp [va_up, *]; done)) (by rfl) ?_
    refine pw_goto (pc := 16) 20 dX3_placeOrEnd_16 (by decide) ?_
    refine pw_iret dX3_placeOrEnd_20 rfl ⟨?_, rfl⟩
    rw [if_pos c]
/-- the bits of the first k names -/
def bitsF (f : Nat → Int32) : Nat → Int32
  | 0 => 0
  | k + 1 => bitsF f k ||| ((1 : Int32) <<< (f k &&& 31))
theorem c_Row_bits {E : EV} {h : HP} {a b cap sz n : Nat} {f : Nat → Int32} (hr : rowAt h a b cap f sz) : PM E mX3_bits [.ref a] h n n 0 (QE (some (.int (bitsF f sz))) h) := by
  obtain ⟨h1, h2, h3, h4⟩ := id hr
  have loop : ∀ m k, k + m = sz → PW (KX E mX3_bits n (QE (some (.int (bitsF f sz))) h)) 4 [.ref a, .int (bitsF f k), .int (nI k)] [] h n 0 := by
    intro m
    induction m with
    | zero =>
      intro k hk
      refine pw_iload_n (pc := 4) dX3_bits_4 rfl ?_
      refine pw_aload_n (pc := 5) dX3_bits_5 rfl ?_
      refine pw_get (pc := 6) fg_X3_9 dX3_bits_6 (by first | assumption | (simp [va_up, *]; done)) (by rfl) ?_
      refine pw_icmp_ge_n (pc := 9) 29 dX3_bits_9 (by decide) (by omega) (by omega) (fun c => ?_) (fun c => ?_)
      · refine pw_iload_n (pc := 29) dX3_bits_29 rfl ?_
        obtain rfl : k = sz := by omega
        exact pw_iret dX3_bits_30 rfl ⟨rfl, rfl⟩
      · omega
    | succ m ih =>
      intro k hk
      refine pw_iload_n (pc := 4) dX3_bits_4 rfl ?_
      refine pw_aload_n (pc := 5) dX3_bits_5 rfl ?_
      refine pw_get (pc := 6) fg_X3_9 dX3_bits_6 (by first | assumption | (simp [va_up, *]; done)) (by rfl) ?_
      refine pw_icmp_ge_n (pc := 9) 29 dX3_bits_9 (by decide) (by omega) (by omega) (fun c => ?_) (fun c => ?_)
      · omega
      · refine pw_iload_n (pc := 12) dX3_bits_12 rfl ?_
        refine pw_iconst (pc := 13) (nI 1) dX3_bits_13 (by decide) ?_
        refine pw_aload_n (pc := 14) dX3_bits_14 rfl ?_
        refine pw_get (pc := 15) fg_X3_21 dX3_bits_15 (by first | assumption | (simp [va_up, *]; done)) (by rfl) ?_
        refine pw_iload_n (pc := 18) dX3_bits_18 rfl ?_
        refine pw_iald (pc := 19) (k) dX3_bits_19 (by first | assumption | (simp [va_up, *]; done)) (by first | rfl | (simp only [nI_add, pk_mul, pk_sub, Nat.one_mul, Nat.mul_one, Nat.zero_add, Nat.add_zero, Nat.mul_zero]; done) | (congr 1; omega)) (by omega) (by omega) ?_
        refine pw_ishl (pc := 20) dX3_bits_20 ?_
        refine pw_ior (pc := 21) dX3_bits_21 ?_
        refine pw_ist1 (pc := 22) dX3_bits_22 (Nat.le_of_ble_eq_true rfl) rfl ?_
        refine pw_iinc2 (pc := 23) (nI (k + 1)) dX3_bits_23 (Nat.le_of_ble_eq_true rfl) rfl (ni_inc _) ?_
        refine pw_goto (pc := 26) 4 dX3_bits_26 (by decide) ?_
        exact ih (k + 1) (by omega)
  refine PM.of [.ref a, .null, .null] rfl (Nat.le_of_ble_eq_true rfl) rfl ?_
  refine pw_iconst (pc := 0) (nI 0) dX3_bits_0 (by decide) ?_
  refine pw_ist1 (pc := 1) dX3_bits_1 (Nat.le_of_ble_eq_true rfl) rfl ?_
  refine pw_iconst (pc := 2) (nI 0) dX3_bits_2 (by decide) ?_
  refine pw_ist2 (pc := 3) dX3_bits_3 (Nat.le_of_ble_eq_true rfl) rfl ?_
  exact loop sz 0 (by omega)
