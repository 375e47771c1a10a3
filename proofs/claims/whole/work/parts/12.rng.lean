/-- x lies in lo .. hi -/
def rg (lo hi : Int) (x : Int32) : Bool := decide (lo ≤ x.toInt ∧ x.toInt ≤ hi)
theorem rg_t {lo hi : Int} {x : Int32} (h : rg lo hi x = true) : lo ≤ x.toInt ∧ x.toInt ≤ hi := by simpa [rg] using h
theorem rg_f {lo hi : Int} {x : Int32} (h : rg lo hi x = false) : ¬ (lo ≤ x.toInt ∧ x.toInt ≤ hi) := by simpa [rg] using h
theorem rg_yes {lo hi : Int} {x : Int32} (h1 : lo ≤ x.toInt) (h2 : x.toInt ≤ hi) : rg lo hi x = true := by simp [rg]; omega
theorem rg_no {lo hi : Int} {x : Int32} (h1 : ¬ (lo ≤ x.toInt ∧ x.toInt ≤ hi)) : rg lo hi x = false := by simp [rg]; omega
theorem rg_nat {hi : Nat} {x : Int32} (h : rg 0 hi x = true) : ∃ j : Nat, j ≤ hi ∧ x = nI j := by
  have h1 := rg_t h
  have h2 : x.toInt < 2147483648 := by have := x.toInt_lt; omega
  refine ⟨x.toInt.toNat, by omega, ?_⟩
  rw [i32_eq, nI_toInt (by omega)]
  omega
theorem rg_nI {j : Nat} {lo hi : Int} (hj : j < 1000000) : rg lo hi (nI j) = decide (lo ≤ (j : Int) ∧ (j : Int) ≤ hi) := by
  rw [rg, nI_toInt (by omega)]
theorem i32_0 : (0 : Int32).toInt = 0 := by decide
theorem bI_e {b : Bool} {v : Int32} (h : b = true) (hv : v = 1) : some (Value.int v) = some (Value.int (bI b)) := by rw [h, hv]; rfl
theorem bI_e0 {b : Bool} {v : Int32} (h : b = false) (hv : v = 0) : some (Value.int v) = some (Value.int (bI b)) := by rw [h, hv]; rfl
theorem c_isList {E : EV} {h : HP} {n : Nat} (x : Int32) : PM E mX7_isList [.int x] h n n 0 (QE (some (.int (bI (rg 0 3 x)))) h) := by
  have e1 : (nI 0).toInt = 0 := by decide
  have e2 : (nI 4).toInt = 4 := by decide
  refine PM.of [.int x] rfl (Nat.le_of_ble_eq_true rfl) rfl ?_
  refine pw_iload_n (pc := 0) dX7_isList_0 rfl ?_
  refine pw_if_lt (pc := 1) 13 dX7_isList_1 (by decide) (fun c => ?_) (fun c => ?_)
  · refine pw_iconst (pc := 13) (nI 0) dX7_isList_13 (by decide) ?_
    rw [i32_lt, i32_0] at c
    exact pw_zret dX7_isList_14 rfl (by decide) ⟨bI_e0 (rg_no (by omega)) (by decide), rfl⟩
  · rw [i32_lt, i32_0] at c
    refine pw_iload_n (pc := 4) dX7_isList_4 rfl ?_
    refine pw_iconst (pc := 5) (nI 4) dX7_isList_5 (by decide) ?_
    refine pw_icmp_ge (pc := 6) 13 dX7_isList_6 (by decide) (fun c2 => ?_) (fun c2 => ?_)
    · refine pw_iconst (pc := 13) (nI 0) dX7_isList_13 (by decide) ?_
      rw [i32_le, e2] at c2
      exact pw_zret dX7_isList_14 rfl (by decide) ⟨bI_e0 (rg_no (by omega)) (by decide), rfl⟩
    · rw [i32_le, e2] at c2
      refine pw_iconst (pc := 9) (nI 1) dX7_isList_9 (by decide) ?_
      refine pw_goto (pc := 10) 14 dX7_isList_10 (by decide) ?_
      exact pw_zret dX7_isList_14 rfl (by decide) ⟨bI_e (rg_yes (by omega) (by omega)) (by decide), rfl⟩
theorem c_isSet {E : EV} {h : HP} {n : Nat} (x : Int32) : PM E mX7_isSet [.int x] h n n 0 (QE (some (.int (bI (rg 1 15 x)))) h) := by
  have e1 : (nI 1).toInt = 1 := by decide
  have e2 : (nI 16).toInt = 16 := by decide
  refine PM.of [.int x] rfl (Nat.le_of_ble_eq_true rfl) rfl ?_
  refine pw_iload_n (pc := 0) dX7_isSet_0 rfl ?_
  refine pw_iconst (pc := 1) (nI 1) dX7_isSet_1 (by decide) ?_
  refine pw_icmp_lt (pc := 2) 15 dX7_isSet_2 (by decide) (fun c => ?_) (fun c => ?_)
  · refine pw_iconst (pc := 15) (nI 0) dX7_isSet_15 (by decide) ?_
    rw [i32_lt, e1] at c
    exact pw_zret dX7_isSet_16 rfl (by decide) ⟨bI_e0 (rg_no (by omega)) (by decide), rfl⟩
  · rw [i32_lt, e1] at c
    refine pw_iload_n (pc := 5) dX7_isSet_5 rfl ?_
    refine pw_bipush (pc := 6) (nI 16) dX7_isSet_6 (by decide) ?_
    refine pw_icmp_ge (pc := 8) 15 dX7_isSet_8 (by decide) (fun c2 => ?_) (fun c2 => ?_)
    · refine pw_iconst (pc := 15) (nI 0) dX7_isSet_15 (by decide) ?_
      rw [i32_le, e2] at c2
      exact pw_zret dX7_isSet_16 rfl (by decide) ⟨bI_e0 (rg_no (by omega)) (by decide), rfl⟩
    · rw [i32_le, e2] at c2
      refine pw_iconst (pc := 11) (nI 1) dX7_isSet_11 (by decide) ?_
      refine pw_goto (pc := 12) 16 dX7_isSet_12 (by decide) ?_
      exact pw_zret dX7_isSet_16 rfl (by decide) ⟨bI_e (rg_yes (by omega) (by omega)) (by decide), rfl⟩
theorem c_isName {E : EV} {h : HP} {n : Nat} (x : Int32) : PM E mX7_isName [.int x] h n n 0 (QE (some (.int (bI (rg 0 25 x)))) h) := by
  have e1 : (nI 0).toInt = 0 := by decide
  have e2 : (nI 26).toInt = 26 := by decide
  refine PM.of [.int x] rfl (Nat.le_of_ble_eq_true rfl) rfl ?_
  refine pw_iload_n (pc := 0) dX7_isName_0 rfl ?_
  refine pw_if_lt (pc := 1) 14 dX7_isName_1 (by decide) (fun c => ?_) (fun c => ?_)
  · refine pw_iconst (pc := 14) (nI 0) dX7_isName_14 (by decide) ?_
    rw [i32_lt, i32_0] at c
    exact pw_zret dX7_isName_15 rfl (by decide) ⟨bI_e0 (rg_no (by omega)) (by decide), rfl⟩
  · rw [i32_lt, i32_0] at c
    refine pw_iload_n (pc := 4) dX7_isName_4 rfl ?_
    refine pw_bipush (pc := 5) (nI 26) dX7_isName_5 (by decide) ?_
    refine pw_icmp_ge (pc := 7) 14 dX7_isName_7 (by decide) (fun c2 => ?_) (fun c2 => ?_)
    · refine pw_iconst (pc := 14) (nI 0) dX7_isName_14 (by decide) ?_
      rw [i32_le, e2] at c2
      exact pw_zret dX7_isName_15 rfl (by decide) ⟨bI_e0 (rg_no (by omega)) (by decide), rfl⟩
    · rw [i32_le, e2] at c2
      refine pw_iconst (pc := 10) (nI 1) dX7_isName_10 (by decide) ?_
      refine pw_goto (pc := 11) 15 dX7_isName_11 (by decide) ?_
      exact pw_zret dX7_isName_15 rfl (by decide) ⟨bI_e (rg_yes (by omega) (by omega)) (by decide), rfl⟩
theorem c_isHouse {E : EV} {h : HP} {n : Nat} (x : Int32) : PM E mX7_isHouse [.int x] h n n 0 (QE (some (.int (bI (rg 0 5 x)))) h) := by
  have e1 : (nI 0).toInt = 0 := by decide
  have e2 : (nI 6).toInt = 6 := by decide
  refine PM.of [.int x] rfl (Nat.le_of_ble_eq_true rfl) rfl ?_
  refine pw_iload_n (pc := 0) dX7_isHouse_0 rfl ?_
  refine pw_if_lt (pc := 1) 14 dX7_isHouse_1 (by decide) (fun c => ?_) (fun c => ?_)
  · refine pw_iconst (pc := 14) (nI 0) dX7_isHouse_14 (by decide) ?_
    rw [i32_lt, i32_0] at c
    exact pw_zret dX7_isHouse_15 rfl (by decide) ⟨bI_e0 (rg_no (by omega)) (by decide), rfl⟩
  · rw [i32_lt, i32_0] at c
    refine pw_iload_n (pc := 4) dX7_isHouse_4 rfl ?_
    refine pw_bipush (pc := 5) (nI 6) dX7_isHouse_5 (by decide) ?_
    refine pw_icmp_ge (pc := 7) 14 dX7_isHouse_7 (by decide) (fun c2 => ?_) (fun c2 => ?_)
    · refine pw_iconst (pc := 14) (nI 0) dX7_isHouse_14 (by decide) ?_
      rw [i32_le, e2] at c2
      exact pw_zret dX7_isHouse_15 rfl (by decide) ⟨bI_e0 (rg_no (by omega)) (by decide), rfl⟩
    · rw [i32_le, e2] at c2
      refine pw_iconst (pc := 10) (nI 1) dX7_isHouse_10 (by decide) ?_
      refine pw_goto (pc := 11) 15 dX7_isHouse_11 (by decide) ?_
      exact pw_zret dX7_isHouse_15 rfl (by decide) ⟨bI_e (rg_yes (by omega) (by omega)) (by decide), rfl⟩
theorem c_isStrength {E : EV} {h : HP} {n : Nat} (x : Int32) : PM E mX7_isStrength [.int x] h n n 0 (QE (some (.int (bI (rg 0 99 x)))) h) := by
  have e1 : (nI 0).toInt = 0 := by decide
  have e2 : (nI 99).toInt = 99 := by decide
  refine PM.of [.int x] rfl (Nat.le_of_ble_eq_true rfl) rfl ?_
  refine pw_iload_n (pc := 0) dX7_isStrength_0 rfl ?_
  refine pw_if_lt (pc := 1) 14 dX7_isStrength_1 (by decide) (fun c => ?_) (fun c => ?_)
  · refine pw_iconst (pc := 14) (nI 0) dX7_isStrength_14 (by decide) ?_
    rw [i32_lt, i32_0] at c
    exact pw_zret dX7_isStrength_15 rfl (by decide) ⟨bI_e0 (rg_no (by omega)) (by decide), rfl⟩
  · rw [i32_lt, i32_0] at c
    refine pw_iload_n (pc := 4) dX7_isStrength_4 rfl ?_
    refine pw_bipush (pc := 5) (nI 99) dX7_isStrength_5 (by decide) ?_
    refine pw_icmp_gt (pc := 7) 14 dX7_isStrength_7 (by decide) (fun c2 => ?_) (fun c2 => ?_)
    · refine pw_iconst (pc := 14) (nI 0) dX7_isStrength_14 (by decide) ?_
      rw [i32_lt, e2] at c2
      exact pw_zret dX7_isStrength_15 rfl (by decide) ⟨bI_e0 (rg_no (by omega)) (by decide), rfl⟩
    · rw [i32_lt, e2] at c2
      refine pw_iconst (pc := 10) (nI 1) dX7_isStrength_10 (by decide) ?_
      refine pw_goto (pc := 11) 15 dX7_isStrength_11 (by decide) ?_
      exact pw_zret dX7_isStrength_15 rfl (by decide) ⟨bI_e (rg_yes (by omega) (by omega)) (by decide), rfl⟩
theorem c_isLetter {E : EV} {h : HP} {n : Nat} (x : Int32) : PM E mX7_isLetter [.int x] h n n 0 (QE (some (.int (bI (rg 97 122 x)))) h) := by
  have e1 : (nI 97).toInt = 97 := by decide
  have e2 : (nI 122).toInt = 122 := by decide
  refine PM.of [.int x] rfl (Nat.le_of_ble_eq_true rfl) rfl ?_
  refine pw_iload_n (pc := 0) dX7_isLetter_0 rfl ?_
  refine pw_bipush (pc := 1) (nI 97) dX7_isLetter_1 (by decide) ?_
  refine pw_icmp_lt (pc := 3) 16 dX7_isLetter_3 (by decide) (fun c => ?_) (fun c => ?_)
  · refine pw_iconst (pc := 16) (nI 0) dX7_isLetter_16 (by decide) ?_
    rw [i32_lt, e1] at c
    exact pw_zret dX7_isLetter_17 rfl (by decide) ⟨bI_e0 (rg_no (by omega)) (by decide), rfl⟩
  · rw [i32_lt, e1] at c
    refine pw_iload_n (pc := 6) dX7_isLetter_6 rfl ?_
    refine pw_bipush (pc := 7) (nI 122) dX7_isLetter_7 (by decide) ?_
    refine pw_icmp_gt (pc := 9) 16 dX7_isLetter_9 (by decide) (fun c2 => ?_) (fun c2 => ?_)
    · refine pw_iconst (pc := 16) (nI 0) dX7_isLetter_16 (by decide) ?_
      rw [i32_lt, e2] at c2
      exact pw_zret dX7_isLetter_17 rfl (by decide) ⟨bI_e0 (rg_no (by omega)) (by decide), rfl⟩
    · rw [i32_lt, e2] at c2
      refine pw_iconst (pc := 12) (nI 1) dX7_isLetter_12 (by decide) ?_
      refine pw_goto (pc := 13) 17 dX7_isLetter_13 (by decide) ?_
      exact pw_zret dX7_isLetter_17 rfl (by decide) ⟨bI_e (rg_yes (by omega) (by omega)) (by decide), rfl⟩
theorem c_isDigit {E : EV} {h : HP} {n : Nat} (x : Int32) : PM E mX7_isDigit [.int x] h n n 0 (QE (some (.int (bI (rg 48 57 x)))) h) := by
  have e1 : (nI 48).toInt = 48 := by decide
  have e2 : (nI 57).toInt = 57 := by decide
  refine PM.of [.int x] rfl (Nat.le_of_ble_eq_true rfl) rfl ?_
  refine pw_iload_n (pc := 0) dX7_isDigit_0 rfl ?_
  refine pw_bipush (pc := 1) (nI 48) dX7_isDigit_1 (by decide) ?_
  refine pw_icmp_lt (pc := 3) 16 dX7_isDigit_3 (by decide) (fun c => ?_) (fun c => ?_)
  · refine pw_iconst (pc := 16) (nI 0) dX7_isDigit_16 (by decide) ?_
    rw [i32_lt, e1] at c
    exact pw_zret dX7_isDigit_17 rfl (by decide) ⟨bI_e0 (rg_no (by omega)) (by decide), rfl⟩
  · rw [i32_lt, e1] at c
    refine pw_iload_n (pc := 6) dX7_isDigit_6 rfl ?_
    refine pw_bipush (pc := 7) (nI 57) dX7_isDigit_7 (by decide) ?_
    refine pw_icmp_gt (pc := 9) 16 dX7_isDigit_9 (by decide) (fun c2 => ?_) (fun c2 => ?_)
    · refine pw_iconst (pc := 16) (nI 0) dX7_isDigit_16 (by decide) ?_
      rw [i32_lt, e2] at c2
      exact pw_zret dX7_isDigit_17 rfl (by decide) ⟨bI_e0 (rg_no (by omega)) (by decide), rfl⟩
    · rw [i32_lt, e2] at c2
      refine pw_iconst (pc := 12) (nI 1) dX7_isDigit_12 (by decide) ?_
      refine pw_goto (pc := 13) 17 dX7_isDigit_13 (by decide) ?_
      exact pw_zret dX7_isDigit_17 rfl (by decide) ⟨bI_e (rg_yes (by omega) (by omega)) (by decide), rfl⟩
theorem c_isNameOrNone {E : EV} {h : HP} {n : Nat} (x : Int32) : PM E mX7_isNameOrNone [.int x] h n n 0 (QE (some (.int (bI (decide (x = -9) || rg 0 25 x)))) h) := by
  refine PM.of [.int x] rfl (Nat.le_of_ble_eq_true rfl) rfl ?_
  refine pw_iload_n (pc := 0) dX7_isNameOrNone_0 rfl ?_
  refine pw_bipush (pc := 1) (-9) dX7_isNameOrNone_1 (by decide) ?_
  refine pw_icmp_eq (pc := 3) 13 dX7_isNameOrNone_3 (by decide) (fun c => ?_) (fun c => ?_)
  · refine pw_iconst (pc := 13) (nI 1) dX7_isNameOrNone_13 (by decide) ?_
    refine pw_goto (pc := 14) 18 dX7_isNameOrNone_14 (by decide) ?_
    exact pw_zret dX7_isNameOrNone_18 rfl (by decide) ⟨bI_e (by simp [c]) (by decide), rfl⟩
  · refine pw_iload_n (pc := 6) dX7_isNameOrNone_6 rfl ?_
    refine pw_callS_i (pc := 7) cs_X7_110 dX7_isNameOrNone_7 (c_isName x) rfl rfl (Nat.le_of_ble_eq_true rfl) ⟨(Nat.le_of_ble_eq_true rfl), (Nat.le_of_ble_eq_true rfl)⟩ ?_
    refine pw_if_eq_b (pc := 10) 17 dX7_isNameOrNone_10 (by decide) (fun c2 => ?_) (fun c2 => ?_)
    · refine pw_iconst (pc := 17) (nI 0) dX7_isNameOrNone_17 (by decide) ?_
      exact pw_zret dX7_isNameOrNone_18 rfl (by decide) ⟨bI_e0 (by simp [c, c2]) (by decide), rfl⟩
    · refine pw_iconst (pc := 13) (nI 1) dX7_isNameOrNone_13 (by decide) ?_
      refine pw_goto (pc := 14) 18 dX7_isNameOrNone_14 (by decide) ?_
      exact pw_zret dX7_isNameOrNone_18 rfl (by decide) ⟨bI_e (by simp [c2]) (by decide), rfl⟩
def inB (x k : Int32) : Bool := decide ((x >>> (k &&& 31)) &&& 1 ≠ 0)
theorem c_isIn {E : EV} {h : HP} {n : Nat} (x k : Int32) : PM E mX7_isIn [.int x, .int k] h n n 0 (QE (some (.int (bI (inB x k)))) h) := by
  have e1 : nI 1 = 1 := by decide
  refine PM.of [.int x, .int k] rfl (Nat.le_of_ble_eq_true rfl) rfl ?_
  refine pw_iload_n (pc := 0) dX7_isIn_0 rfl ?_
  refine pw_iload_n (pc := 1) dX7_isIn_1 rfl ?_
  refine pw_ishr (pc := 2) dX7_isIn_2 ?_
  refine pw_iconst (pc := 3) (nI 1) dX7_isIn_3 (by decide) ?_
  refine pw_iand (pc := 4) dX7_isIn_4 ?_
  refine pw_if_eq (pc := 5) 12 dX7_isIn_5 (by decide) (fun c => ?_) (fun c => ?_)
  · refine pw_iconst (pc := 12) (nI 0) dX7_isIn_12 (by decide) ?_
    rw [e1] at c
    exact pw_zret dX7_isIn_13 rfl (by decide) ⟨bI_e0 (by simp [inB, c]) (by decide), rfl⟩
  · refine pw_iconst (pc := 8) (nI 1) dX7_isIn_8 (by decide) ?_
    refine pw_goto (pc := 9) 13 dX7_isIn_9 (by decide) ?_
    rw [e1] at c
    exact pw_zret dX7_isIn_13 rfl (by decide) ⟨bI_e (by simp [inB, c]) (by decide), rfl⟩
theorem c_exchange {E : EV} {h : HP} {a N n : Nat} {f : Nat → Int32} (ha : h a = some (.inl (0, N, .inl f))) (hN : N < 1000) (j : Nat) (hj : j < N) (x : Int32) : PM E mX7_exchange [.ref a, .int (nI j), .int x] h n n 0 (QE (some (.int (f j))) (va_up h a (some (.inl (0, N, .inl (upd f j x)))))) := by
  refine PM.of [.ref a, .int (nI j), .int x, .null] rfl (Nat.le_of_ble_eq_true rfl) rfl ?_
  refine pw_aload_n (pc := 0) dX7_exchange_0 rfl ?_
  refine pw_iload_n (pc := 1) dX7_exchange_1 rfl ?_
  refine pw_iald (pc := 2) (j) dX7_exchange_2 (by first | assumption | exact va_up_self _ _ _ | exact lk1 (by first | assumption | (apply Ne.symm; assumption) | omega) (by assumption) | exact lk1 (by first | assumption | (apply Ne.symm; assumption) | omega) (va_up_self _ _ _) | exact lk1 (by first | assumption | (apply Ne.symm; assumption) | omega) (lk1 (by first | assumption | (apply Ne.symm; assumption) | omega) (by assumption)) | exact lk1 (by first | assumption | (apply Ne.symm; assumption) | omega) (lk1 (by first | assumption | (apply Ne.symm; assumption) | omega) (va_up_self _ _ _)) | exact lk1 (by first | assumption | (apply Ne.symm; assumption) | omega) (lk1 (by first | assumption | (apply Ne.symm; assumption) | omega) (lk1 (by first | assumption | (apply Ne.symm; assumption) | omega) (by assumption))) | exact lk1 (by first | assumption | (apply Ne.symm; assumption) | omega) (lk1 (by first | assumption | (apply Ne.symm; assumption) | omega) (lk1 (by first | assumption | (apply Ne.symm; assumption) | omega) (va_up_self _ _ _))) | exact lk1 (by first | assumption | (apply Ne.symm; assumption) | omega) (lk1 (by first | assumption | (apply Ne.symm; assumption) | omega) (lk1 (by first | assumption | (apply Ne.symm; assumption) | omega) (lk1 (by first | assumption | (apply Ne.symm; assumption) | omega) (by assumption)))) | exact lk1 (by first | assumption | (apply Ne.symm; assumption) | omega) (lk1 (by first | assumption | (apply Ne.symm; assumption) | omega) (lk1 (by first | assumption | (apply Ne.symm; assumption) | omega) (lk1 (by first | assumption | (apply Ne.symm; assumption) | omega) (va_up_self _ _ _))))) (by first | rfl | (simp only [nI_add, pk_mul, Nat.one_mul, Nat.mul_one, Nat.zero_add, Nat.add_zero, Nat.mul_zero]; done) | exact pk_sub (by omega) | (rw [pk_sub (by omega)]; first | done | (rw [nI_add]; done) | (rw [pk_sub (by omega)]; done) | (rw [pk_sub (by omega), nI_add]; done)) | (simp only [nI_add, pk_mul]; first | exact pk_sub (by omega) | (congr 1; omega)) | (congr 1; omega)) (by omega) (by omega) ?_
  refine pw_ist3 (pc := 3) dX7_exchange_3 (Nat.le_of_ble_eq_true rfl) rfl ?_
  refine pw_aload_n (pc := 4) dX7_exchange_4 rfl ?_
  refine pw_iload_n (pc := 5) dX7_exchange_5 rfl ?_
  refine pw_iload_n (pc := 6) dX7_exchange_6 rfl ?_
  refine pw_iast (pc := 7) (j) dX7_exchange_7 (by first | assumption | exact va_up_self _ _ _ | exact lk1 (by first | assumption | (apply Ne.symm; assumption) | omega) (by assumption) | exact lk1 (by first | assumption | (apply Ne.symm; assumption) | omega) (va_up_self _ _ _) | exact lk1 (by first | assumption | (apply Ne.symm; assumption) | omega) (lk1 (by first | assumption | (apply Ne.symm; assumption) | omega) (by assumption)) | exact lk1 (by first | assumption | (apply Ne.symm; assumption) | omega) (lk1 (by first | assumption | (apply Ne.symm; assumption) | omega) (va_up_self _ _ _)) | exact lk1 (by first | assumption | (apply Ne.symm; assumption) | omega) (lk1 (by first | assumption | (apply Ne.symm; assumption) | omega) (lk1 (by first | assumption | (apply Ne.symm; assumption) | omega) (by assumption))) | exact lk1 (by first | assumption | (apply Ne.symm; assumption) | omega) (lk1 (by first | assumption | (apply Ne.symm; assumption) | omega) (lk1 (by first | assumption | (apply Ne.symm; assumption) | omega) (va_up_self _ _ _))) | exact lk1 (by first | assumption | (apply Ne.symm; assumption) | omega) (lk1 (by first | assumption | (apply Ne.symm; assumption) | omega) (lk1 (by first | assumption | (apply Ne.symm; assumption) | omega) (lk1 (by first | assumption | (apply Ne.symm; assumption) | omega) (by assumption)))) | exact lk1 (by first | assumption | (apply Ne.symm; assumption) | omega) (lk1 (by first | assumption | (apply Ne.symm; assumption) | omega) (lk1 (by first | assumption | (apply Ne.symm; assumption) | omega) (lk1 (by first | assumption | (apply Ne.symm; assumption) | omega) (va_up_self _ _ _))))) (by first | rfl | (simp only [nI_add, pk_mul, Nat.one_mul, Nat.mul_one, Nat.zero_add, Nat.add_zero, Nat.mul_zero]; done) | exact pk_sub (by omega) | (rw [pk_sub (by omega)]; first | done | (rw [nI_add]; done) | (rw [pk_sub (by omega)]; done) | (rw [pk_sub (by omega), nI_add]; done)) | (simp only [nI_add, pk_mul]; first | exact pk_sub (by omega) | (congr 1; omega)) | (congr 1; omega)) (by omega) (by omega) ?_
  refine pw_iload_n (pc := 8) dX7_exchange_8 rfl ?_
  exact pw_iret dX7_exchange_9 rfl ⟨rfl, rfl⟩
/-- how many of the first k aren't -9 -/
def cntN (f : Nat → Int32) : Nat → Nat
  | 0 => 0
  | k + 1 => cntN f k + if f k = -9 then 0 else 1
theorem cntN_le (f : Nat → Int32) : ∀ k, cntN f k ≤ k
  | 0 => Nat.le_refl _
  | k + 1 => by have := cntN_le f k; unfold cntN; split <;> omega
theorem c_countThere {E : EV} {h : HP} {a N n : Nat} {f : Nat → Int32} (ha : h a = some (.inl (0, N, .inl f))) (hN : N < 1000) : PM E mX7_countThere [.ref a] h n n 0 (QE (some (.int (nI (cntN f N)))) h) := by
  have loop : ∀ m k z, k + m = N → PW (KX E mX7_countThere n (QE (some (.int (nI (cntN f N)))) h)) 10 [.ref a, .int (nI (cntN f k)), .ref a, .int (nI N), .int (nI k), z] [] h n 0 := by
    intro m
    induction m with
    | zero =>
      intro k z hk
      refine pw_iload (pc := 10) dX7_countThere_10 rfl ?_
      refine pw_iload_n (pc := 12) dX7_countThere_12 rfl ?_
      refine pw_icmp_ge_n (pc := 13) 38 dX7_countThere_13 (by decide) (by omega) (by omega) (fun c => ?_) (fun c => ?_)
      · obtain rfl : k = N := by omega
        refine pw_iload_n (pc := 38) dX7_countThere_38 rfl ?_
        exact pw_iret dX7_countThere_39 rfl ⟨rfl, rfl⟩
      · omega
    | succ m ih =>
      intro k z hk
      refine pw_iload (pc := 10) dX7_countThere_10 rfl ?_
      refine pw_iload_n (pc := 12) dX7_countThere_12 rfl ?_
      refine pw_icmp_ge_n (pc := 13) 38 dX7_countThere_13 (by decide) (by omega) (by omega) (fun c => ?_) (fun c => ?_)
      · omega
      · refine pw_aload_n (pc := 16) dX7_countThere_16 rfl ?_
        refine pw_iload (pc := 17) dX7_countThere_17 rfl ?_
        refine pw_iald (pc := 19) (k) dX7_countThere_19 (by first | assumption | exact va_up_self _ _ _ | exact lk1 (by first | assumption | (apply Ne.symm; assumption) | omega) (by assumption) | exact lk1 (by first | assumption | (apply Ne.symm; assumption) | omega) (va_up_self _ _ _) | exact lk1 (by first | assumption | (apply Ne.symm; assumption) | omega) (lk1 (by first | assumption | (apply Ne.symm; assumption) | omega) (by assumption)) | exact lk1 (by first | assumption | (apply Ne.symm; assumption) | omega) (lk1 (by first | assumption | (apply Ne.symm; assumption) | omega) (va_up_self _ _ _)) | exact lk1 (by first | assumption | (apply Ne.symm; assumption) | omega) (lk1 (by first | assumption | (apply Ne.symm; assumption) | omega) (lk1 (by first | assumption | (apply Ne.symm; assumption) | omega) (by assumption))) | exact lk1 (by first | assumption | (apply Ne.symm; assumption) | omega) (lk1 (by first | assumption | (apply Ne.symm; assumption) | omega) (lk1 (by first | assumption | (apply Ne.symm; assumption) | omega) (va_up_self _ _ _))) | exact lk1 (by first | assumption | (apply Ne.symm; assumption) | omega) (lk1 (by first | assumption | (apply Ne.symm; assumption) | omega) (lk1 (by first | assumption | (apply Ne.symm; assumption) | omega) (lk1 (by first | assumption | (apply Ne.symm; assumption) | omega) (by assumption)))) | exact lk1 (by first | assumption | (apply Ne.symm; assumption) | omega) (lk1 (by first | assumption | (apply Ne.symm; assumption) | omega) (lk1 (by first | assumption | (apply Ne.symm; assumption) | omega) (lk1 (by first | assumption | (apply Ne.symm; assumption) | omega) (va_up_self _ _ _))))) (by first | rfl | (simp only [nI_add, pk_mul, Nat.one_mul, Nat.mul_one, Nat.zero_add, Nat.add_zero, Nat.mul_zero]; done) | exact pk_sub (by omega) | (rw [pk_sub (by omega)]; first | done | (rw [nI_add]; done) | (rw [pk_sub (by omega)]; done) | (rw [pk_sub (by omega), nI_add]; done)) | (simp only [nI_add, pk_mul]; first | exact pk_sub (by omega) | (congr 1; omega)) | (congr 1; omega)) (by omega) (by omega) ?_
        refine pw_ist5 (pc := 20) dX7_countThere_20 (Nat.le_of_ble_eq_true rfl) rfl ?_
        refine pw_iload (pc := 22) dX7_countThere_22 rfl ?_
        refine pw_bipush (pc := 24) (-9) dX7_countThere_24 (by decide) ?_
        refine pw_icmp_eq (pc := 26) 32 dX7_countThere_26 (by decide) (fun c2 => ?_) (fun c2 => ?_)
        · refine pw_iinc4 (pc := 32) (nI (k + 1)) dX7_countThere_32 (Nat.le_of_ble_eq_true rfl) rfl (ni_inc _) ?_
          refine pw_goto (pc := 35) 10 dX7_countThere_35 (by decide) ?_
          have e : cntN f (k + 1) = cntN f k := by simp [cntN, c2]
          rw [← e]
          exact ih (k + 1) _ (by omega)
        · refine pw_iinc1 (pc := 29) (nI (cntN f k + 1)) dX7_countThere_29 (Nat.le_of_ble_eq_true rfl) rfl (ni_inc _) ?_
          refine pw_iinc4 (pc := 32) (nI (k + 1)) dX7_countThere_32 (Nat.le_of_ble_eq_true rfl) rfl (ni_inc _) ?_
          refine pw_goto (pc := 35) 10 dX7_countThere_35 (by decide) ?_
          have e : cntN f (k + 1) = cntN f k + 1 := by simp [cntN, c2]
          rw [← e]
          exact ih (k + 1) _ (by omega)
  refine PM.of [.ref a, .null, .null, .null, .null, .null] rfl (Nat.le_of_ble_eq_true rfl) rfl ?_
  refine pw_iconst (pc := 0) (nI 0) dX7_countThere_0 (by decide) ?_
  refine pw_ist1 (pc := 1) dX7_countThere_1 (Nat.le_of_ble_eq_true rfl) rfl ?_
  refine pw_aload_n (pc := 2) dX7_countThere_2 rfl ?_
  refine pw_ast2 (pc := 3) dX7_countThere_3 (Nat.le_of_ble_eq_true rfl) rfl ?_
  refine pw_aload_n (pc := 4) dX7_countThere_4 rfl ?_
  refine pw_alen (pc := 5) _ dX7_countThere_5 (by first | assumption | exact va_up_self _ _ _ | exact lk1 (by first | assumption | (apply Ne.symm; assumption) | omega) (by assumption) | exact lk1 (by first | assumption | (apply Ne.symm; assumption) | omega) (va_up_self _ _ _) | exact lk1 (by first | assumption | (apply Ne.symm; assumption) | omega) (lk1 (by first | assumption | (apply Ne.symm; assumption) | omega) (by assumption)) | exact lk1 (by first | assumption | (apply Ne.symm; assumption) | omega) (lk1 (by first | assumption | (apply Ne.symm; assumption) | omega) (va_up_self _ _ _)) | exact lk1 (by first | assumption | (apply Ne.symm; assumption) | omega) (lk1 (by first | assumption | (apply Ne.symm; assumption) | omega) (lk1 (by first | assumption | (apply Ne.symm; assumption) | omega) (by assumption))) | exact lk1 (by first | assumption | (apply Ne.symm; assumption) | omega) (lk1 (by first | assumption | (apply Ne.symm; assumption) | omega) (lk1 (by first | assumption | (apply Ne.symm; assumption) | omega) (va_up_self _ _ _))) | exact lk1 (by first | assumption | (apply Ne.symm; assumption) | omega) (lk1 (by first | assumption | (apply Ne.symm; assumption) | omega) (lk1 (by first | assumption | (apply Ne.symm; assumption) | omega) (lk1 (by first | assumption | (apply Ne.symm; assumption) | omega) (by assumption)))) | exact lk1 (by first | assumption | (apply Ne.symm; assumption) | omega) (lk1 (by first | assumption | (apply Ne.symm; assumption) | omega) (lk1 (by first | assumption | (apply Ne.symm; assumption) | omega) (lk1 (by first | assumption | (apply Ne.symm; assumption) | omega) (va_up_self _ _ _))))) (by decide) rfl ?_
  refine pw_ist3 (pc := 6) dX7_countThere_6 (Nat.le_of_ble_eq_true rfl) rfl ?_
  refine pw_iconst (pc := 7) (nI 0) dX7_countThere_7 (by decide) ?_
  refine pw_ist4 (pc := 8) dX7_countThere_8 (Nat.le_of_ble_eq_true rfl) rfl ?_
  exact loop N 0 .null (by omega)
