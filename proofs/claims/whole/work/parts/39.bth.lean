/-! two lists side by side: the longest that both have in one order -/
def ppM (L1 L2 : List Int32) : Nat → Nat → Nat
  | 0, _ => 0
  | a + 1, b => match ixL (L1.getD a 0) L2 with
    | some p => if p < b then max (ppM L1 L2 a b) (1 + ppM L1 L2 a p) else ppM L1 L2 a b
    | none => ppM L1 L2 a b
def ppD (L1 L2 : List Int32) (k : Nat) : Nat := match ixL (L1.getD k 0) L2 with
  | some p => 1 + ppM L1 L2 k p
  | none => 0
theorem ppM_le (L1 L2 : List Int32) : ∀ a b, ppM L1 L2 a b ≤ a
  | 0, _ => Nat.le_refl _
  | a + 1, b => by
    have h1 := ppM_le L1 L2 a b
    unfold ppM
    split
    · rename_i p _
      have h2 := ppM_le L1 L2 a p
      split <;> omega
    · omega
theorem ppD_le (L1 L2 : List Int32) (k : Nat) : ppD L1 L2 k ≤ k + 1 := by
  unfold ppD
  split
  · rename_i p _
    have h2 := ppM_le L1 L2 k p
    omega
  · omega
theorem ppM_no {L1 L2 : List Int32} {a b p : Nat} (h : ixL (L1.getD a 0) L2 = some p) (hp : ¬ p < b) : ppM L1 L2 (a + 1) b = ppM L1 L2 a b := by
  rw [ppM, h]; simp only []; rw [if_neg hp]
theorem ppM_yes {L1 L2 : List Int32} {a b p : Nat} (h : ixL (L1.getD a 0) L2 = some p) (hp : p < b) : ppM L1 L2 (a + 1) b = max (ppM L1 L2 a b) (ppD L1 L2 a) := by
  rw [ppM, ppD, h]; simp only []; rw [if_pos hp]
theorem ppM_none {L1 L2 : List Int32} {a b : Nat} (h : ixL (L1.getD a 0) L2 = none) : ppM L1 L2 (a + 1) b = ppM L1 L2 a b ∧ ppD L1 L2 a = 0 := by
  rw [ppM, ppD, h]; exact ⟨rfl, rfl⟩
theorem nI_mx {a b : Nat} (ha : a < 1000) (hb : b < 1000) : (if nI a < nI b then nI b else nI a) = nI (max a b) := by
  by_cases h : a < b
  · rw [if_pos ((nI_ltI (by omega) (by omega)).mpr h), Nat.max_eq_right (by omega)]
  · rw [if_neg (fun q => h ((nI_ltI (by omega) (by omega)).mp q)), Nat.max_eq_left (by omega)]
theorem oI_lt {o : Option Nat} {t : Nat} (ho : ∀ p, o = some p → p < 1000) (ht : t < 1000) : nI t ≤ oI o ↔ ∃ p, o = some p ∧ ¬ p < t := by
  cases o with
  | none =>
    have e9 : (-9 : Int32).toInt = -9 := by decide
    simp only [oI]
    rw [i32_le, nI_toInt (by omega), e9]
    constructor
    · intro h; omega
    · rintro ⟨p, hp, -⟩; cases hp
  | some p =>
    have := ho p rfl
    simp only [oI]
    rw [nI_leI (by omega) (by omega)]
    constructor
    · intro h; exact ⟨p, rfl, by omega⟩
    · rintro ⟨q, hq, h⟩; cases hq; omega
def bitsL (L : List Int32) : Int32 := bitsF (fun k => L.getD k 0) L.length
theorem bitsF_congr {f g : Nat → Int32} : ∀ k, (∀ j, j < k → f j = g j) → bitsF f k = bitsF g k
  | 0, _ => rfl
  | k + 1, h => by rw [bitsF, bitsF, bitsF_congr k (fun j hj => h j (by omega)), h k (by omega)]
/-- how many of the first k bits are set -/
def onesF (x : Int32) : Nat → Int32
  | 0 => nI 0
  | k + 1 => onesF x k + ((x >>> (nI k &&& 31)) &&& nI 1)
def shU (x : Int32) (k : Nat) : Int32 := (x.toUInt32 >>> ((nI k).toUInt32 &&& Int32.toUInt32 31)).toInt32
def bcA (x : Int32) : Int32 := x - (shU x 1 &&& 1431655765)
def bcB (x : Int32) : Int32 := (x &&& 858993459) + (shU x 2 &&& 858993459)
def bcC (x : Int32) : Int32 := (x + shU x 4) &&& 252645135
def bcD (x : Int32) : Int32 := x + shU x 8
def bcE (x : Int32) : Int32 := x + shU x 16
def bcI (x : Int32) : Int32 := bcE (bcD (bcC (bcB (bcA x)))) &&& nI 63
section B1
variable {E : EV} {h : HP} {n c q r1 b1 r2 b2 : Nat} {fs : List Value} {f : Nat → Int32} {L1 L2 : List Int32}
theorem c_bitCount (x : Int32) : PM E mJ6_bitCount_0f7a4 [.int x] h n n 0 (QE (some (.int (bcI x))) h) := by
  refine PM.of [.int x] rfl (Nat.le_of_ble_eq_true rfl) rfl ?_
  refine pw_iload_n (pc := 0) dJ6_bitCount_0f7a4_0 rfl ?_
  refine pw_iload_n (pc := 1) dJ6_bitCount_0f7a4_1 rfl ?_
  refine pw_iconst (pc := 2) (nI 1) dJ6_bitCount_0f7a4_2 (by decide) ?_
  refine pw_iushr (pc := 3) dJ6_bitCount_0f7a4_3 ?_
  refine pw_ldcw (pc := 4) (1431655765) dJ6_bitCount_0f7a4_4 lc_J6_265 ?_
  refine pw_iand (pc := 7) dJ6_bitCount_0f7a4_7 ?_
  refine pw_isub (pc := 8) dJ6_bitCount_0f7a4_8 ?_
  refine pw_ist0 (pc := 9) dJ6_bitCount_0f7a4_9 (Nat.le_of_ble_eq_true rfl) ?_
  refine pw_iload_n (pc := 10) dJ6_bitCount_0f7a4_10 rfl ?_
  refine pw_ldcw (pc := 11) (858993459) dJ6_bitCount_0f7a4_11 lc_J6_266 ?_
  refine pw_iand (pc := 14) dJ6_bitCount_0f7a4_14 ?_
  refine pw_iload_n (pc := 15) dJ6_bitCount_0f7a4_15 rfl ?_
  refine pw_iconst (pc := 16) (nI 2) dJ6_bitCount_0f7a4_16 (by decide) ?_
  refine pw_iushr (pc := 17) dJ6_bitCount_0f7a4_17 ?_
  refine pw_ldcw (pc := 18) (858993459) dJ6_bitCount_0f7a4_18 lc_J6_266 ?_
  refine pw_iand (pc := 21) dJ6_bitCount_0f7a4_21 ?_
  refine pw_iadd (pc := 22) dJ6_bitCount_0f7a4_22 ?_
  refine pw_ist0 (pc := 23) dJ6_bitCount_0f7a4_23 (Nat.le_of_ble_eq_true rfl) ?_
  refine pw_iload_n (pc := 24) dJ6_bitCount_0f7a4_24 rfl ?_
  refine pw_iload_n (pc := 25) dJ6_bitCount_0f7a4_25 rfl ?_
  refine pw_iconst (pc := 26) (nI 4) dJ6_bitCount_0f7a4_26 (by decide) ?_
  refine pw_iushr (pc := 27) dJ6_bitCount_0f7a4_27 ?_
  refine pw_iadd (pc := 28) dJ6_bitCount_0f7a4_28 ?_
  refine pw_ldcw (pc := 29) (252645135) dJ6_bitCount_0f7a4_29 lc_J6_267 ?_
  refine pw_iand (pc := 32) dJ6_bitCount_0f7a4_32 ?_
  refine pw_ist0 (pc := 33) dJ6_bitCount_0f7a4_33 (Nat.le_of_ble_eq_true rfl) ?_
  refine pw_iload_n (pc := 34) dJ6_bitCount_0f7a4_34 rfl ?_
  refine pw_iload_n (pc := 35) dJ6_bitCount_0f7a4_35 rfl ?_
  refine pw_bipush (pc := 36) (nI 8) dJ6_bitCount_0f7a4_36 (by decide) ?_
  refine pw_iushr (pc := 38) dJ6_bitCount_0f7a4_38 ?_
  refine pw_iadd (pc := 39) dJ6_bitCount_0f7a4_39 ?_
  refine pw_ist0 (pc := 40) dJ6_bitCount_0f7a4_40 (Nat.le_of_ble_eq_true rfl) ?_
  refine pw_iload_n (pc := 41) dJ6_bitCount_0f7a4_41 rfl ?_
  refine pw_iload_n (pc := 42) dJ6_bitCount_0f7a4_42 rfl ?_
  refine pw_bipush (pc := 43) (nI 16) dJ6_bitCount_0f7a4_43 (by decide) ?_
  refine pw_iushr (pc := 45) dJ6_bitCount_0f7a4_45 ?_
  refine pw_iadd (pc := 46) dJ6_bitCount_0f7a4_46 ?_
  refine pw_ist0 (pc := 47) dJ6_bitCount_0f7a4_47 (Nat.le_of_ble_eq_true rfl) ?_
  refine pw_iload_n (pc := 48) dJ6_bitCount_0f7a4_48 rfl ?_
  refine pw_bipush (pc := 49) (nI 63) dJ6_bitCount_0f7a4_49 (by decide) ?_
  refine pw_iand (pc := 51) dJ6_bitCount_0f7a4_51 ?_
  exact pw_iret dJ6_bitCount_0f7a4_52 rfl ⟨rfl, rfl⟩
theorem c_longestAhead (hc : h c = some (.inr (7, fs))) (h8 : fs[8]? = some (.ref q)) (hq : h q = some (.inl (0, 12, .inl f))) (hr1 : rowL h r1 b1 12 L1) (hr2 : rowL h r2 b2 12 L2) (k t : Nat) (hk : k ≤ L1.length) (ht : t ≤ 12) (hf : ∀ j, j < k → f j = nI (ppD L1 L2 j)) : PM E mX7_longestAhead [.ref c, .ref r1, .ref r2, .int (nI k), .int (nI t)] h n n 0 (QE (some (.int (nI (ppM L1 L2 k t)))) h) := by
  obtain ⟨g1, u1, hg1⟩ := id hr1
  obtain ⟨g2, u2, hg2⟩ := id hr2
  have hl1 := u1.2.2.1
  have hl2 := u2.2.2.1
  have u10 := u1.1
  have u20 := u2.1
  have loop : ∀ p j, j + p = k → PW (KX E mX7_longestAhead n (QE (some (.int (nI (ppM L1 L2 k t)))) h)) 6 [.ref c, .ref r1, .ref r2, .int (nI k), .int (nI t), .int (nI (ppM L1 L2 j t)), .int (nI j)] [] h n 0 := by
    intro p
    induction p with
    | zero =>
      intro j hj
      refine pw_iload (pc := 6) dX7_longestAhead_6 rfl ?_
      refine pw_iload_n (pc := 8) dX7_longestAhead_8 rfl ?_
      refine pw_icmp_ge_n (pc := 9) 54 dX7_longestAhead_9 (by decide) (by omega) (by omega) (fun cb => ?_) (fun cb => ?_)
      · obtain rfl : j = k := by omega
        refine pw_iload (pc := 54) dX7_longestAhead_54 rfl ?_
        exact pw_iret dX7_longestAhead_56 rfl ⟨rfl, rfl⟩
      · omega
    | succ p ih =>
      intro j hj
      refine pw_iload (pc := 6) dX7_longestAhead_6 rfl ?_
      refine pw_iload_n (pc := 8) dX7_longestAhead_8 rfl ?_
      refine pw_icmp_ge_n (pc := 9) 54 dX7_longestAhead_9 (by decide) (by omega) (by omega) (fun cb => ?_) (fun cb => ?_)
      · omega
      · refine pw_iload (pc := 12) dX7_longestAhead_12 rfl ?_
        refine pw_bipush (pc := 14) (nI 12) dX7_longestAhead_14 (by decide) ?_
        refine pw_icmp_ge_n (pc := 16) 54 dX7_longestAhead_16 (by decide) (by omega) (by omega) (fun cb2 => ?_) (fun cb2 => ?_)
        · omega
        · refine pw_aload_n (pc := 19) dX7_longestAhead_19 rfl ?_
          refine pw_aload_n (pc := 20) dX7_longestAhead_20 rfl ?_
          refine pw_iload (pc := 21) dX7_longestAhead_21 rfl ?_
          refine pw_callV_i (pc := 23) cv_X7_106 dX7_longestAhead_23 (by first | assumption | exact va_up_self _ _ _ | exact lk1 (by first | assumption | (apply Ne.symm; assumption) | (simp; done)) (by assumption) | exact lk1 (by first | assumption | (apply Ne.symm; assumption) | (simp; done)) (va_up_self _ _ _) | exact lk1 (by first | assumption | (apply Ne.symm; assumption) | (simp; done)) (lk1 (by first | assumption | (apply Ne.symm; assumption) | (simp; done)) (by assumption)) | exact lk1 (by first | assumption | (apply Ne.symm; assumption) | (simp; done)) (lk1 (by first | assumption | (apply Ne.symm; assumption) | (simp; done)) (va_up_self _ _ _)) | exact lk1 (by first | assumption | (apply Ne.symm; assumption) | (simp; done)) (lk1 (by first | assumption | (apply Ne.symm; assumption) | (simp; done)) (lk1 (by first | assumption | (apply Ne.symm; assumption) | (simp; done)) (by assumption))) | exact lk1 (by first | assumption | (apply Ne.symm; assumption) | (simp; done)) (lk1 (by first | assumption | (apply Ne.symm; assumption) | (simp; done)) (lk1 (by first | assumption | (apply Ne.symm; assumption) | (simp; done)) (va_up_self _ _ _))) | exact lk1 (by first | assumption | (apply Ne.symm; assumption) | (simp; done)) (lk1 (by first | assumption | (apply Ne.symm; assumption) | (simp; done)) (lk1 (by first | assumption | (apply Ne.symm; assumption) | (simp; done)) (lk1 (by first | assumption | (apply Ne.symm; assumption) | (simp; done)) (by assumption)))) | exact lk1 (by first | assumption | (apply Ne.symm; assumption) | (simp; done)) (lk1 (by first | assumption | (apply Ne.symm; assumption) | (simp; done)) (lk1 (by first | assumption | (apply Ne.symm; assumption) | (simp; done)) (lk1 (by first | assumption | (apply Ne.symm; assumption) | (simp; done)) (va_up_self _ _ _))))) rfl (c_Row_nameAt u1 (nI j)) rfl rfl (Nat.le_of_ble_eq_true rfl) ⟨(Nat.le_of_ble_eq_true rfl), (Nat.le_of_ble_eq_true rfl)⟩ ?_
          refine pw_callV_i (pc := 26) cv_X7_113 dX7_longestAhead_26 (by first | assumption | exact va_up_self _ _ _ | exact lk1 (by first | assumption | (apply Ne.symm; assumption) | (simp; done)) (by assumption) | exact lk1 (by first | assumption | (apply Ne.symm; assumption) | (simp; done)) (va_up_self _ _ _) | exact lk1 (by first | assumption | (apply Ne.symm; assumption) | (simp; done)) (lk1 (by first | assumption | (apply Ne.symm; assumption) | (simp; done)) (by assumption)) | exact lk1 (by first | assumption | (apply Ne.symm; assumption) | (simp; done)) (lk1 (by first | assumption | (apply Ne.symm; assumption) | (simp; done)) (va_up_self _ _ _)) | exact lk1 (by first | assumption | (apply Ne.symm; assumption) | (simp; done)) (lk1 (by first | assumption | (apply Ne.symm; assumption) | (simp; done)) (lk1 (by first | assumption | (apply Ne.symm; assumption) | (simp; done)) (by assumption))) | exact lk1 (by first | assumption | (apply Ne.symm; assumption) | (simp; done)) (lk1 (by first | assumption | (apply Ne.symm; assumption) | (simp; done)) (lk1 (by first | assumption | (apply Ne.symm; assumption) | (simp; done)) (va_up_self _ _ _))) | exact lk1 (by first | assumption | (apply Ne.symm; assumption) | (simp; done)) (lk1 (by first | assumption | (apply Ne.symm; assumption) | (simp; done)) (lk1 (by first | assumption | (apply Ne.symm; assumption) | (simp; done)) (lk1 (by first | assumption | (apply Ne.symm; assumption) | (simp; done)) (by assumption)))) | exact lk1 (by first | assumption | (apply Ne.symm; assumption) | (simp; done)) (lk1 (by first | assumption | (apply Ne.symm; assumption) | (simp; done)) (lk1 (by first | assumption | (apply Ne.symm; assumption) | (simp; done)) (lk1 (by first | assumption | (apply Ne.symm; assumption) | (simp; done)) (va_up_self _ _ _))))) rfl (c_Row_placeOf u2 _) rfl rfl (Nat.le_of_ble_eq_true rfl) ⟨(Nat.le_of_ble_eq_true rfl), (Nat.le_of_ble_eq_true rfl)⟩ ?_
          refine pw_iload (pc := 29) dX7_longestAhead_29 rfl ?_
          rw [nmA_in (by omega) (by omega), hg1.at (by omega), plc_L hg2]
          have hb : ∀ p, ixL (L1.getD j 0) L2 = some p → p < 1000 := fun p hp => by have := (ixL_lt hp).1; omega
          refine pw_icmp_ge (pc := 31) 48 dX7_longestAhead_31 (by decide) (fun y => ?_) (fun y => ?_)
          · obtain ⟨p', e1, e2⟩ := (oI_lt hb (by omega)).mp y
            refine pw_iinc6 (pc := 48) (nI (j + 1)) dX7_longestAhead_48 (Nat.le_of_ble_eq_true rfl) rfl (ni_inc _) ?_
            refine pw_goto (pc := 51) 6 dX7_longestAhead_51 (by decide) ?_
            have := ih (j + 1) (by omega)
            rw [ppM_no e1 e2] at this
            exact this
          · refine pw_iload (pc := 34) dX7_longestAhead_34 rfl ?_
            refine pw_aload_n (pc := 36) dX7_longestAhead_36 rfl ?_
            refine pw_get (pc := 37) fg_X7_53 dX7_longestAhead_37 (by first | assumption | exact va_up_self _ _ _ | exact lk1 (by first | assumption | (apply Ne.symm; assumption) | (simp; done)) (by assumption) | exact lk1 (by first | assumption | (apply Ne.symm; assumption) | (simp; done)) (va_up_self _ _ _) | exact lk1 (by first | assumption | (apply Ne.symm; assumption) | (simp; done)) (lk1 (by first | assumption | (apply Ne.symm; assumption) | (simp; done)) (by assumption)) | exact lk1 (by first | assumption | (apply Ne.symm; assumption) | (simp; done)) (lk1 (by first | assumption | (apply Ne.symm; assumption) | (simp; done)) (va_up_self _ _ _)) | exact lk1 (by first | assumption | (apply Ne.symm; assumption) | (simp; done)) (lk1 (by first | assumption | (apply Ne.symm; assumption) | (simp; done)) (lk1 (by first | assumption | (apply Ne.symm; assumption) | (simp; done)) (by assumption))) | exact lk1 (by first | assumption | (apply Ne.symm; assumption) | (simp; done)) (lk1 (by first | assumption | (apply Ne.symm; assumption) | (simp; done)) (lk1 (by first | assumption | (apply Ne.symm; assumption) | (simp; done)) (va_up_self _ _ _))) | exact lk1 (by first | assumption | (apply Ne.symm; assumption) | (simp; done)) (lk1 (by first | assumption | (apply Ne.symm; assumption) | (simp; done)) (lk1 (by first | assumption | (apply Ne.symm; assumption) | (simp; done)) (lk1 (by first | assumption | (apply Ne.symm; assumption) | (simp; done)) (by assumption)))) | exact lk1 (by first | assumption | (apply Ne.symm; assumption) | (simp; done)) (lk1 (by first | assumption | (apply Ne.symm; assumption) | (simp; done)) (lk1 (by first | assumption | (apply Ne.symm; assumption) | (simp; done)) (lk1 (by first | assumption | (apply Ne.symm; assumption) | (simp; done)) (va_up_self _ _ _))))) (by first | rfl | assumption) ?_
            refine pw_iload (pc := 40) dX7_longestAhead_40 rfl ?_
            refine pw_iald (pc := 42) (j) dX7_longestAhead_42 (by first | assumption | exact va_up_self _ _ _ | exact lk1 (by first | assumption | (apply Ne.symm; assumption) | (simp; done)) (by assumption) | exact lk1 (by first | assumption | (apply Ne.symm; assumption) | (simp; done)) (va_up_self _ _ _) | exact lk1 (by first | assumption | (apply Ne.symm; assumption) | (simp; done)) (lk1 (by first | assumption | (apply Ne.symm; assumption) | (simp; done)) (by assumption)) | exact lk1 (by first | assumption | (apply Ne.symm; assumption) | (simp; done)) (lk1 (by first | assumption | (apply Ne.symm; assumption) | (simp; done)) (va_up_self _ _ _)) | exact lk1 (by first | assumption | (apply Ne.symm; assumption) | (simp; done)) (lk1 (by first | assumption | (apply Ne.symm; assumption) | (simp; done)) (lk1 (by first | assumption | (apply Ne.symm; assumption) | (simp; done)) (by assumption))) | exact lk1 (by first | assumption | (apply Ne.symm; assumption) | (simp; done)) (lk1 (by first | assumption | (apply Ne.symm; assumption) | (simp; done)) (lk1 (by first | assumption | (apply Ne.symm; assumption) | (simp; done)) (va_up_self _ _ _))) | exact lk1 (by first | assumption | (apply Ne.symm; assumption) | (simp; done)) (lk1 (by first | assumption | (apply Ne.symm; assumption) | (simp; done)) (lk1 (by first | assumption | (apply Ne.symm; assumption) | (simp; done)) (lk1 (by first | assumption | (apply Ne.symm; assumption) | (simp; done)) (by assumption)))) | exact lk1 (by first | assumption | (apply Ne.symm; assumption) | (simp; done)) (lk1 (by first | assumption | (apply Ne.symm; assumption) | (simp; done)) (lk1 (by first | assumption | (apply Ne.symm; assumption) | (simp; done)) (lk1 (by first | assumption | (apply Ne.symm; assumption) | (simp; done)) (va_up_self _ _ _))))) (by first | assumption | rfl | (simp only [nI_add, pk_mul, Nat.one_mul, Nat.mul_one, Nat.zero_add, Nat.add_zero, Nat.mul_zero]; done) | exact pk_sub (by omega) | (rw [pk_sub (by omega)]; first | done | (rw [nI_add]; done) | (rw [pk_sub (by omega)]; done) | (rw [pk_sub (by omega), nI_add]; done)) | (simp only [nI_add, pk_mul]; first | exact pk_sub (by omega) | (congr 1; omega)) | (congr 1; omega)) (by omega) (by omega) ?_
            rw [hf j (by omega)]
            refine pw_mmax (pc := 43) lk_X7_279 dX7_longestAhead_43 (Nat.le_of_ble_eq_true rfl) (Nat.le_of_ble_eq_true rfl) ?_
            have h1 := ppM_le L1 L2 j t
            have h2 := ppD_le L1 L2 j
            rw [nI_mx (by omega) (by omega)]
            refine pw_ist5 (pc := 46) dX7_longestAhead_46 (Nat.le_of_ble_eq_true rfl) rfl ?_
            refine pw_iinc6 (pc := 48) (nI (j + 1)) dX7_longestAhead_48 (Nat.le_of_ble_eq_true rfl) rfl (ni_inc _) ?_
            refine pw_goto (pc := 51) 6 dX7_longestAhead_51 (by decide) ?_
            have := ih (j + 1) (by omega)
            cases e : ixL (L1.getD j 0) L2 with
            | none =>
              obtain ⟨e1, e2⟩ := ppM_none (b := t) e
              rw [e1] at this
              rw [e2, Nat.max_eq_left (Nat.zero_le _)]
              exact this
            | some p' =>
              have e2 : p' < t := by
                refine Decidable.byContradiction (fun q => y ((oI_lt hb (by omega)).mpr ⟨p', e, q⟩))
              rw [ppM_yes e e2] at this
              exact this
  refine PM.of [.ref c, .ref r1, .ref r2, .int (nI k), .int (nI t), .null, .null] rfl (Nat.le_of_ble_eq_true rfl) rfl ?_
  refine pw_iconst (pc := 0) (nI 0) dX7_longestAhead_0 (by decide) ?_
  refine pw_ist5 (pc := 1) dX7_longestAhead_1 (Nat.le_of_ble_eq_true rfl) rfl ?_
  refine pw_iconst (pc := 3) (nI 0) dX7_longestAhead_3 (by decide) ?_
  refine pw_ist6 (pc := 4) dX7_longestAhead_4 (Nat.le_of_ble_eq_true rfl) rfl ?_
  exact loop k 0 (by omega)
theorem c_sameOrder (hc : h c = some (.inr (7, fs))) (h8 : fs[8]? = some (.ref q)) (hq : h q = some (.inl (0, 12, .inl f))) (hr1 : rowL h r1 b1 12 L1) (hr2 : rowL h r2 b2 12 L2) (n0 : c ≠ q) (n1 : r1 ≠ q) (n2 : b1 ≠ q) (n3 : r2 ≠ q) (n4 : b2 ≠ q) : PM E mX7_sameOrder [.ref c, .ref r1, .ref r2] h n n 0 (fun v h' => v = some (.int (nI (ppM L1 L2 L1.length L2.length))) ∧ (∃ f', h' q = some (.inl (0, 12, .inl f'))) ∧ ∀ p, p ≠ q → h' p = h p) := by
  have loop : ∀ p k f' h' w5, k + p = L1.length → (∀ j, j < k → f' j = nI (ppD L1 L2 j)) → h' q = some (.inl (0, 12, .inl f')) → (∀ p, p ≠ q → h' p = h p) → PW (KX E mX7_sameOrder n (fun v h' => v = some (.int (nI (ppM L1 L2 L1.length L2.length))) ∧ (∃ f', h' q = some (.inl (0, 12, .inl f'))) ∧ ∀ p, p ≠ q → h' p = h p)) 5 [.ref c, .ref r1, .ref r2, .int (nI (ppM L1 L2 k L2.length)), .int (nI k), w5] [] h' n 0 := by
    intro p
    induction p with
    | zero =>
      intro k f' h' w5 hk hf xq xf
      have hr1' : rowL h' r1 b1 12 L1 := hr1.on (xf _ n1) (xf _ n2)
      obtain ⟨g1, u1, hg1⟩ := id hr1'
      have hl1 := u1.2.2.1
      have u10 := u1.1
      refine pw_iload (pc := 5) dX7_sameOrder_5 rfl ?_
      refine pw_aload_n (pc := 7) dX7_sameOrder_7 rfl ?_
      refine pw_get (pc := 8) fg_X7_99 dX7_sameOrder_8 (by first | assumption | exact va_up_self _ _ _ | exact lk1 (by first | assumption | (apply Ne.symm; assumption) | (simp; done)) (by assumption) | exact lk1 (by first | assumption | (apply Ne.symm; assumption) | (simp; done)) (va_up_self _ _ _) | exact lk1 (by first | assumption | (apply Ne.symm; assumption) | (simp; done)) (lk1 (by first | assumption | (apply Ne.symm; assumption) | (simp; done)) (by assumption)) | exact lk1 (by first | assumption | (apply Ne.symm; assumption) | (simp; done)) (lk1 (by first | assumption | (apply Ne.symm; assumption) | (simp; done)) (va_up_self _ _ _)) | exact lk1 (by first | assumption | (apply Ne.symm; assumption) | (simp; done)) (lk1 (by first | assumption | (apply Ne.symm; assumption) | (simp; done)) (lk1 (by first | assumption | (apply Ne.symm; assumption) | (simp; done)) (by assumption))) | exact lk1 (by first | assumption | (apply Ne.symm; assumption) | (simp; done)) (lk1 (by first | assumption | (apply Ne.symm; assumption) | (simp; done)) (lk1 (by first | assumption | (apply Ne.symm; assumption) | (simp; done)) (va_up_self _ _ _))) | exact lk1 (by first | assumption | (apply Ne.symm; assumption) | (simp; done)) (lk1 (by first | assumption | (apply Ne.symm; assumption) | (simp; done)) (lk1 (by first | assumption | (apply Ne.symm; assumption) | (simp; done)) (lk1 (by first | assumption | (apply Ne.symm; assumption) | (simp; done)) (by assumption)))) | exact lk1 (by first | assumption | (apply Ne.symm; assumption) | (simp; done)) (lk1 (by first | assumption | (apply Ne.symm; assumption) | (simp; done)) (lk1 (by first | assumption | (apply Ne.symm; assumption) | (simp; done)) (lk1 (by first | assumption | (apply Ne.symm; assumption) | (simp; done)) (va_up_self _ _ _))))) (by first | rfl | assumption) ?_
      refine pw_icmp_ge_n (pc := 11) 85 dX7_sameOrder_11 (by decide) (by omega) (by omega) (fun cb => ?_) (fun cb => ?_)
      · obtain rfl : k = L1.length := by omega
        refine pw_iload_n (pc := 85) dX7_sameOrder_85 rfl ?_
        exact pw_iret dX7_sameOrder_86 rfl ⟨rfl, ⟨f', xq⟩, xf⟩
      · omega
    | succ p ih =>
      intro k f' h' w5 hk hf xq xf
      have hr1' : rowL h' r1 b1 12 L1 := hr1.on (xf _ n1) (xf _ n2)
      have hr2' : rowL h' r2 b2 12 L2 := hr2.on (xf _ n3) (xf _ n4)
      obtain ⟨g1, u1, hg1⟩ := id hr1'
      obtain ⟨g2, u2, hg2⟩ := id hr2'
      have hl1 := u1.2.2.1
      have hl2 := u2.2.2.1
      have u10 := u1.1
      have xc := (xf _ n0).trans hc
      refine pw_iload (pc := 5) dX7_sameOrder_5 rfl ?_
      refine pw_aload_n (pc := 7) dX7_sameOrder_7 rfl ?_
      refine pw_get (pc := 8) fg_X7_99 dX7_sameOrder_8 (by first | assumption | exact va_up_self _ _ _ | exact lk1 (by first | assumption | (apply Ne.symm; assumption) | (simp; done)) (by assumption) | exact lk1 (by first | assumption | (apply Ne.symm; assumption) | (simp; done)) (va_up_self _ _ _) | exact lk1 (by first | assumption | (apply Ne.symm; assumption) | (simp; done)) (lk1 (by first | assumption | (apply Ne.symm; assumption) | (simp; done)) (by assumption)) | exact lk1 (by first | assumption | (apply Ne.symm; assumption) | (simp; done)) (lk1 (by first | assumption | (apply Ne.symm; assumption) | (simp; done)) (va_up_self _ _ _)) | exact lk1 (by first | assumption | (apply Ne.symm; assumption) | (simp; done)) (lk1 (by first | assumption | (apply Ne.symm; assumption) | (simp; done)) (lk1 (by first | assumption | (apply Ne.symm; assumption) | (simp; done)) (by assumption))) | exact lk1 (by first | assumption | (apply Ne.symm; assumption) | (simp; done)) (lk1 (by first | assumption | (apply Ne.symm; assumption) | (simp; done)) (lk1 (by first | assumption | (apply Ne.symm; assumption) | (simp; done)) (va_up_self _ _ _))) | exact lk1 (by first | assumption | (apply Ne.symm; assumption) | (simp; done)) (lk1 (by first | assumption | (apply Ne.symm; assumption) | (simp; done)) (lk1 (by first | assumption | (apply Ne.symm; assumption) | (simp; done)) (lk1 (by first | assumption | (apply Ne.symm; assumption) | (simp; done)) (by assumption)))) | exact lk1 (by first | assumption | (apply Ne.symm; assumption) | (simp; done)) (lk1 (by first | assumption | (apply Ne.symm; assumption) | (simp; done)) (lk1 (by first | assumption | (apply Ne.symm; assumption) | (simp; done)) (lk1 (by first | assumption | (apply Ne.symm; assumption) | (simp; done)) (va_up_self _ _ _))))) (by first | rfl | assumption) ?_
      refine pw_icmp_ge_n (pc := 11) 85 dX7_sameOrder_11 (by decide) (by omega) (by omega) (fun cb => ?_) (fun cb => ?_)
      · omega
      · refine pw_iload (pc := 14) dX7_sameOrder_14 rfl ?_
        refine pw_bipush (pc := 16) (nI 12) dX7_sameOrder_16 (by decide) ?_
        refine pw_icmp_ge_n (pc := 18) 85 dX7_sameOrder_18 (by decide) (by omega) (by omega) (fun cb2 => ?_) (fun cb2 => ?_)
        · omega
        · refine pw_aload_n (pc := 21) dX7_sameOrder_21 rfl ?_
          refine pw_get (pc := 22) fg_X7_53 dX7_sameOrder_22 (by first | assumption | exact va_up_self _ _ _ | exact lk1 (by first | assumption | (apply Ne.symm; assumption) | (simp; done)) (by assumption) | exact lk1 (by first | assumption | (apply Ne.symm; assumption) | (simp; done)) (va_up_self _ _ _) | exact lk1 (by first | assumption | (apply Ne.symm; assumption) | (simp; done)) (lk1 (by first | assumption | (apply Ne.symm; assumption) | (simp; done)) (by assumption)) | exact lk1 (by first | assumption | (apply Ne.symm; assumption) | (simp; done)) (lk1 (by first | assumption | (apply Ne.symm; assumption) | (simp; done)) (va_up_self _ _ _)) | exact lk1 (by first | assumption | (apply Ne.symm; assumption) | (simp; done)) (lk1 (by first | assumption | (apply Ne.symm; assumption) | (simp; done)) (lk1 (by first | assumption | (apply Ne.symm; assumption) | (simp; done)) (by assumption))) | exact lk1 (by first | assumption | (apply Ne.symm; assumption) | (simp; done)) (lk1 (by first | assumption | (apply Ne.symm; assumption) | (simp; done)) (lk1 (by first | assumption | (apply Ne.symm; assumption) | (simp; done)) (va_up_self _ _ _))) | exact lk1 (by first | assumption | (apply Ne.symm; assumption) | (simp; done)) (lk1 (by first | assumption | (apply Ne.symm; assumption) | (simp; done)) (lk1 (by first | assumption | (apply Ne.symm; assumption) | (simp; done)) (lk1 (by first | assumption | (apply Ne.symm; assumption) | (simp; done)) (by assumption)))) | exact lk1 (by first | assumption | (apply Ne.symm; assumption) | (simp; done)) (lk1 (by first | assumption | (apply Ne.symm; assumption) | (simp; done)) (lk1 (by first | assumption | (apply Ne.symm; assumption) | (simp; done)) (lk1 (by first | assumption | (apply Ne.symm; assumption) | (simp; done)) (va_up_self _ _ _))))) (by first | rfl | assumption) ?_
          refine pw_iload (pc := 25) dX7_sameOrder_25 rfl ?_
          refine pw_iconst (pc := 27) (nI 0) dX7_sameOrder_27 (by decide) ?_
          refine pw_iast (pc := 28) (k) dX7_sameOrder_28 (by first | assumption | exact va_up_self _ _ _ | exact lk1 (by first | assumption | (apply Ne.symm; assumption) | (simp; done)) (by assumption) | exact lk1 (by first | assumption | (apply Ne.symm; assumption) | (simp; done)) (va_up_self _ _ _) | exact lk1 (by first | assumption | (apply Ne.symm; assumption) | (simp; done)) (lk1 (by first | assumption | (apply Ne.symm; assumption) | (simp; done)) (by assumption)) | exact lk1 (by first | assumption | (apply Ne.symm; assumption) | (simp; done)) (lk1 (by first | assumption | (apply Ne.symm; assumption) | (simp; done)) (va_up_self _ _ _)) | exact lk1 (by first | assumption | (apply Ne.symm; assumption) | (simp; done)) (lk1 (by first | assumption | (apply Ne.symm; assumption) | (simp; done)) (lk1 (by first | assumption | (apply Ne.symm; assumption) | (simp; done)) (by assumption))) | exact lk1 (by first | assumption | (apply Ne.symm; assumption) | (simp; done)) (lk1 (by first | assumption | (apply Ne.symm; assumption) | (simp; done)) (lk1 (by first | assumption | (apply Ne.symm; assumption) | (simp; done)) (va_up_self _ _ _))) | exact lk1 (by first | assumption | (apply Ne.symm; assumption) | (simp; done)) (lk1 (by first | assumption | (apply Ne.symm; assumption) | (simp; done)) (lk1 (by first | assumption | (apply Ne.symm; assumption) | (simp; done)) (lk1 (by first | assumption | (apply Ne.symm; assumption) | (simp; done)) (by assumption)))) | exact lk1 (by first | assumption | (apply Ne.symm; assumption) | (simp; done)) (lk1 (by first | assumption | (apply Ne.symm; assumption) | (simp; done)) (lk1 (by first | assumption | (apply Ne.symm; assumption) | (simp; done)) (lk1 (by first | assumption | (apply Ne.symm; assumption) | (simp; done)) (va_up_self _ _ _))))) (by first | assumption | rfl | (simp only [nI_add, pk_mul, Nat.one_mul, Nat.mul_one, Nat.zero_add, Nat.add_zero, Nat.mul_zero]; done) | exact pk_sub (by omega) | (rw [pk_sub (by omega)]; first | done | (rw [nI_add]; done) | (rw [pk_sub (by omega)]; done) | (rw [pk_sub (by omega), nI_add]; done)) | (simp only [nI_add, pk_mul]; first | exact pk_sub (by omega) | (congr 1; omega)) | (congr 1; omega)) (by omega) (by omega) ?_
          have xf2 : ∀ p, p ≠ q → (va_up h' q (some (.inl (0, 12, .inl (upd f' k (nI 0)))))) p = h p := fun p hp => by rw [va_up_ne _ _ hp]; exact xf p hp
          have xq2 : (va_up h' q (some (.inl (0, 12, .inl (upd f' k (nI 0)))))) q = some (.inl (0, 12, .inl (upd f' k (nI 0)))) := va_up_self _ _ _
          generalize (va_up h' q (some (.inl (0, 12, .inl (upd f' k (nI 0)))))) = h2 at xf2 xq2 ⊢
          have hr1'' : rowL h2 r1 b1 12 L1 := hr1.on (xf2 _ n1) (xf2 _ n2)
          have hr2'' : rowL h2 r2 b2 12 L2 := hr2.on (xf2 _ n3) (xf2 _ n4)
          obtain ⟨g3, u3, hg3⟩ := id hr1''
          obtain ⟨g4, u4, hg4⟩ := id hr2''
          have xc2 := (xf2 _ n0).trans hc
          have u30 := u3.1
          have u40 := u4.1
          refine pw_aload_n (pc := 29) dX7_sameOrder_29 rfl ?_
          refine pw_aload_n (pc := 30) dX7_sameOrder_30 rfl ?_
          refine pw_iload (pc := 31) dX7_sameOrder_31 rfl ?_
          refine pw_callV_i (pc := 33) cv_X7_106 dX7_sameOrder_33 (by first | assumption | exact va_up_self _ _ _ | exact lk1 (by first | assumption | (apply Ne.symm; assumption) | (simp; done)) (by assumption) | exact lk1 (by first | assumption | (apply Ne.symm; assumption) | (simp; done)) (va_up_self _ _ _) | exact lk1 (by first | assumption | (apply Ne.symm; assumption) | (simp; done)) (lk1 (by first | assumption | (apply Ne.symm; assumption) | (simp; done)) (by assumption)) | exact lk1 (by first | assumption | (apply Ne.symm; assumption) | (simp; done)) (lk1 (by first | assumption | (apply Ne.symm; assumption) | (simp; done)) (va_up_self _ _ _)) | exact lk1 (by first | assumption | (apply Ne.symm; assumption) | (simp; done)) (lk1 (by first | assumption | (apply Ne.symm; assumption) | (simp; done)) (lk1 (by first | assumption | (apply Ne.symm; assumption) | (simp; done)) (by assumption))) | exact lk1 (by first | assumption | (apply Ne.symm; assumption) | (simp; done)) (lk1 (by first | assumption | (apply Ne.symm; assumption) | (simp; done)) (lk1 (by first | assumption | (apply Ne.symm; assumption) | (simp; done)) (va_up_self _ _ _))) | exact lk1 (by first | assumption | (apply Ne.symm; assumption) | (simp; done)) (lk1 (by first | assumption | (apply Ne.symm; assumption) | (simp; done)) (lk1 (by first | assumption | (apply Ne.symm; assumption) | (simp; done)) (lk1 (by first | assumption | (apply Ne.symm; assumption) | (simp; done)) (by assumption)))) | exact lk1 (by first | assumption | (apply Ne.symm; assumption) | (simp; done)) (lk1 (by first | assumption | (apply Ne.symm; assumption) | (simp; done)) (lk1 (by first | assumption | (apply Ne.symm; assumption) | (simp; done)) (lk1 (by first | assumption | (apply Ne.symm; assumption) | (simp; done)) (va_up_self _ _ _))))) rfl (c_Row_nameAt u3 (nI k)) rfl rfl (Nat.le_of_ble_eq_true rfl) ⟨(Nat.le_of_ble_eq_true rfl), (Nat.le_of_ble_eq_true rfl)⟩ ?_
          refine pw_callV_i (pc := 36) cv_X7_113 dX7_sameOrder_36 (by first | assumption | exact va_up_self _ _ _ | exact lk1 (by first | assumption | (apply Ne.symm; assumption) | (simp; done)) (by assumption) | exact lk1 (by first | assumption | (apply Ne.symm; assumption) | (simp; done)) (va_up_self _ _ _) | exact lk1 (by first | assumption | (apply Ne.symm; assumption) | (simp; done)) (lk1 (by first | assumption | (apply Ne.symm; assumption) | (simp; done)) (by assumption)) | exact lk1 (by first | assumption | (apply Ne.symm; assumption) | (simp; done)) (lk1 (by first | assumption | (apply Ne.symm; assumption) | (simp; done)) (va_up_self _ _ _)) | exact lk1 (by first | assumption | (apply Ne.symm; assumption) | (simp; done)) (lk1 (by first | assumption | (apply Ne.symm; assumption) | (simp; done)) (lk1 (by first | assumption | (apply Ne.symm; assumption) | (simp; done)) (by assumption))) | exact lk1 (by first | assumption | (apply Ne.symm; assumption) | (simp; done)) (lk1 (by first | assumption | (apply Ne.symm; assumption) | (simp; done)) (lk1 (by first | assumption | (apply Ne.symm; assumption) | (simp; done)) (va_up_self _ _ _))) | exact lk1 (by first | assumption | (apply Ne.symm; assumption) | (simp; done)) (lk1 (by first | assumption | (apply Ne.symm; assumption) | (simp; done)) (lk1 (by first | assumption | (apply Ne.symm; assumption) | (simp; done)) (lk1 (by first | assumption | (apply Ne.symm; assumption) | (simp; done)) (by assumption)))) | exact lk1 (by first | assumption | (apply Ne.symm; assumption) | (simp; done)) (lk1 (by first | assumption | (apply Ne.symm; assumption) | (simp; done)) (lk1 (by first | assumption | (apply Ne.symm; assumption) | (simp; done)) (lk1 (by first | assumption | (apply Ne.symm; assumption) | (simp; done)) (va_up_self _ _ _))))) rfl (c_Row_placeOf u4 _) rfl rfl (Nat.le_of_ble_eq_true rfl) ⟨(Nat.le_of_ble_eq_true rfl), (Nat.le_of_ble_eq_true rfl)⟩ ?_
          rw [nmA_in (by omega) (by omega), hg3.at (by omega), plc_L hg4]
          refine pw_ist5 (pc := 39) dX7_sameOrder_39 (Nat.le_of_ble_eq_true rfl) rfl ?_
          refine pw_iload (pc := 41) dX7_sameOrder_41 rfl ?_
          refine pw_bipush (pc := 43) (-9) dX7_sameOrder_43 (by decide) ?_
          cases e : ixL (L1.getD k 0) L2 with
          | none =>
            refine pw_icmp_eq (pc := 45) 79 dX7_sameOrder_45 (by decide) (fun y => ?_) (fun y => absurd rfl y)
            obtain ⟨e1, e2⟩ := ppM_none (b := L2.length) e
            refine pw_iinc4 (pc := 79) (nI (k + 1)) dX7_sameOrder_79 (Nat.le_of_ble_eq_true rfl) rfl (ni_inc _) ?_
            refine pw_goto (pc := 82) 5 dX7_sameOrder_82 (by decide) ?_
            have := ih (k + 1) (upd f' k (nI 0)) h2 (.int (oI none)) (by omega) (fun j hj => ?_) xq2 xf2
            · rw [e1] at this
              exact this
            · by_cases hjk : j = k
              · subst hjk; rw [pk_us, e2]
              · rw [pk_un hjk]; exact hf j (by omega)
          | some p' =>
            have hp' := (ixL_lt e).1
            refine pw_icmp_eq (pc := 45) 79 dX7_sameOrder_45 (by decide) (fun y => absurd y (ni_ne9 (by omega))) (fun y => ?_)
            have hD : ppD L1 L2 k = 1 + ppM L1 L2 k p' := by rw [ppD, e]
            refine pw_aload_n (pc := 48) dX7_sameOrder_48 rfl ?_
            refine pw_get (pc := 49) fg_X7_53 dX7_sameOrder_49 (by first | assumption | exact va_up_self _ _ _ | exact lk1 (by first | assumption | (apply Ne.symm; assumption) | (simp; done)) (by assumption) | exact lk1 (by first | assumption | (apply Ne.symm; assumption) | (simp; done)) (va_up_self _ _ _) | exact lk1 (by first | assumption | (apply Ne.symm; assumption) | (simp; done)) (lk1 (by first | assumption | (apply Ne.symm; assumption) | (simp; done)) (by assumption)) | exact lk1 (by first | assumption | (apply Ne.symm; assumption) | (simp; done)) (lk1 (by first | assumption | (apply Ne.symm; assumption) | (simp; done)) (va_up_self _ _ _)) | exact lk1 (by first | assumption | (apply Ne.symm; assumption) | (simp; done)) (lk1 (by first | assumption | (apply Ne.symm; assumption) | (simp; done)) (lk1 (by first | assumption | (apply Ne.symm; assumption) | (simp; done)) (by assumption))) | exact lk1 (by first | assumption | (apply Ne.symm; assumption) | (simp; done)) (lk1 (by first | assumption | (apply Ne.symm; assumption) | (simp; done)) (lk1 (by first | assumption | (apply Ne.symm; assumption) | (simp; done)) (va_up_self _ _ _))) | exact lk1 (by first | assumption | (apply Ne.symm; assumption) | (simp; done)) (lk1 (by first | assumption | (apply Ne.symm; assumption) | (simp; done)) (lk1 (by first | assumption | (apply Ne.symm; assumption) | (simp; done)) (lk1 (by first | assumption | (apply Ne.symm; assumption) | (simp; done)) (by assumption)))) | exact lk1 (by first | assumption | (apply Ne.symm; assumption) | (simp; done)) (lk1 (by first | assumption | (apply Ne.symm; assumption) | (simp; done)) (lk1 (by first | assumption | (apply Ne.symm; assumption) | (simp; done)) (lk1 (by first | assumption | (apply Ne.symm; assumption) | (simp; done)) (va_up_self _ _ _))))) (by first | rfl | assumption) ?_
            refine pw_iload (pc := 52) dX7_sameOrder_52 rfl ?_
            refine pw_iconst (pc := 54) (nI 1) dX7_sameOrder_54 (by decide) ?_
            refine pw_aload_n (pc := 55) dX7_sameOrder_55 rfl ?_
            refine pw_aload_n (pc := 56) dX7_sameOrder_56 rfl ?_
            refine pw_aload_n (pc := 57) dX7_sameOrder_57 rfl ?_
            refine pw_iload (pc := 58) dX7_sameOrder_58 rfl ?_
            refine pw_iload (pc := 60) dX7_sameOrder_60 rfl ?_
            refine pw_callV_i (pc := 62) cv_X7_275 dX7_sameOrder_62 (by first | assumption | exact va_up_self _ _ _ | exact lk1 (by first | assumption | (apply Ne.symm; assumption) | (simp; done)) (by assumption) | exact lk1 (by first | assumption | (apply Ne.symm; assumption) | (simp; done)) (va_up_self _ _ _) | exact lk1 (by first | assumption | (apply Ne.symm; assumption) | (simp; done)) (lk1 (by first | assumption | (apply Ne.symm; assumption) | (simp; done)) (by assumption)) | exact lk1 (by first | assumption | (apply Ne.symm; assumption) | (simp; done)) (lk1 (by first | assumption | (apply Ne.symm; assumption) | (simp; done)) (va_up_self _ _ _)) | exact lk1 (by first | assumption | (apply Ne.symm; assumption) | (simp; done)) (lk1 (by first | assumption | (apply Ne.symm; assumption) | (simp; done)) (lk1 (by first | assumption | (apply Ne.symm; assumption) | (simp; done)) (by assumption))) | exact lk1 (by first | assumption | (apply Ne.symm; assumption) | (simp; done)) (lk1 (by first | assumption | (apply Ne.symm; assumption) | (simp; done)) (lk1 (by first | assumption | (apply Ne.symm; assumption) | (simp; done)) (va_up_self _ _ _))) | exact lk1 (by first | assumption | (apply Ne.symm; assumption) | (simp; done)) (lk1 (by first | assumption | (apply Ne.symm; assumption) | (simp; done)) (lk1 (by first | assumption | (apply Ne.symm; assumption) | (simp; done)) (lk1 (by first | assumption | (apply Ne.symm; assumption) | (simp; done)) (by assumption)))) | exact lk1 (by first | assumption | (apply Ne.symm; assumption) | (simp; done)) (lk1 (by first | assumption | (apply Ne.symm; assumption) | (simp; done)) (lk1 (by first | assumption | (apply Ne.symm; assumption) | (simp; done)) (lk1 (by first | assumption | (apply Ne.symm; assumption) | (simp; done)) (va_up_self _ _ _))))) rfl (c_longestAhead xc2 h8 xq2 hr1'' hr2'' k p' (by omega) (by omega) (fun j hj => (pk_un (by omega)).trans (hf j hj))) rfl rfl (Nat.le_of_ble_eq_true rfl) ⟨(Nat.le_of_ble_eq_true rfl), (Nat.le_of_ble_eq_true rfl)⟩ ?_
            refine pw_iadd (pc := 65) dX7_sameOrder_65 ?_
            rw [nI_add, ← hD]
            refine pw_iast (pc := 66) (k) dX7_sameOrder_66 (by first | assumption | exact va_up_self _ _ _ | exact lk1 (by first | assumption | (apply Ne.symm; assumption) | (simp; done)) (by assumption) | exact lk1 (by first | assumption | (apply Ne.symm; assumption) | (simp; done)) (va_up_self _ _ _) | exact lk1 (by first | assumption | (apply Ne.symm; assumption) | (simp; done)) (lk1 (by first | assumption | (apply Ne.symm; assumption) | (simp; done)) (by assumption)) | exact lk1 (by first | assumption | (apply Ne.symm; assumption) | (simp; done)) (lk1 (by first | assumption | (apply Ne.symm; assumption) | (simp; done)) (va_up_self _ _ _)) | exact lk1 (by first | assumption | (apply Ne.symm; assumption) | (simp; done)) (lk1 (by first | assumption | (apply Ne.symm; assumption) | (simp; done)) (lk1 (by first | assumption | (apply Ne.symm; assumption) | (simp; done)) (by assumption))) | exact lk1 (by first | assumption | (apply Ne.symm; assumption) | (simp; done)) (lk1 (by first | assumption | (apply Ne.symm; assumption) | (simp; done)) (lk1 (by first | assumption | (apply Ne.symm; assumption) | (simp; done)) (va_up_self _ _ _))) | exact lk1 (by first | assumption | (apply Ne.symm; assumption) | (simp; done)) (lk1 (by first | assumption | (apply Ne.symm; assumption) | (simp; done)) (lk1 (by first | assumption | (apply Ne.symm; assumption) | (simp; done)) (lk1 (by first | assumption | (apply Ne.symm; assumption) | (simp; done)) (by assumption)))) | exact lk1 (by first | assumption | (apply Ne.symm; assumption) | (simp; done)) (lk1 (by first | assumption | (apply Ne.symm; assumption) | (simp; done)) (lk1 (by first | assumption | (apply Ne.symm; assumption) | (simp; done)) (lk1 (by first | assumption | (apply Ne.symm; assumption) | (simp; done)) (va_up_self _ _ _))))) (by first | assumption | rfl | (simp only [nI_add, pk_mul, Nat.one_mul, Nat.mul_one, Nat.zero_add, Nat.add_zero, Nat.mul_zero]; done) | exact pk_sub (by omega) | (rw [pk_sub (by omega)]; first | done | (rw [nI_add]; done) | (rw [pk_sub (by omega)]; done) | (rw [pk_sub (by omega), nI_add]; done)) | (simp only [nI_add, pk_mul]; first | exact pk_sub (by omega) | (congr 1; omega)) | (congr 1; omega)) (by omega) (by omega) ?_
            refine pw_iload_n (pc := 67) dX7_sameOrder_67 rfl ?_
            refine pw_aload_n (pc := 68) dX7_sameOrder_68 rfl ?_
            refine pw_get (pc := 69) fg_X7_53 dX7_sameOrder_69 (by first | assumption | exact va_up_self _ _ _ | exact lk1 (by first | assumption | (apply Ne.symm; assumption) | (simp; done)) (by assumption) | exact lk1 (by first | assumption | (apply Ne.symm; assumption) | (simp; done)) (va_up_self _ _ _) | exact lk1 (by first | assumption | (apply Ne.symm; assumption) | (simp; done)) (lk1 (by first | assumption | (apply Ne.symm; assumption) | (simp; done)) (by assumption)) | exact lk1 (by first | assumption | (apply Ne.symm; assumption) | (simp; done)) (lk1 (by first | assumption | (apply Ne.symm; assumption) | (simp; done)) (va_up_self _ _ _)) | exact lk1 (by first | assumption | (apply Ne.symm; assumption) | (simp; done)) (lk1 (by first | assumption | (apply Ne.symm; assumption) | (simp; done)) (lk1 (by first | assumption | (apply Ne.symm; assumption) | (simp; done)) (by assumption))) | exact lk1 (by first | assumption | (apply Ne.symm; assumption) | (simp; done)) (lk1 (by first | assumption | (apply Ne.symm; assumption) | (simp; done)) (lk1 (by first | assumption | (apply Ne.symm; assumption) | (simp; done)) (va_up_self _ _ _))) | exact lk1 (by first | assumption | (apply Ne.symm; assumption) | (simp; done)) (lk1 (by first | assumption | (apply Ne.symm; assumption) | (simp; done)) (lk1 (by first | assumption | (apply Ne.symm; assumption) | (simp; done)) (lk1 (by first | assumption | (apply Ne.symm; assumption) | (simp; done)) (by assumption)))) | exact lk1 (by first | assumption | (apply Ne.symm; assumption) | (simp; done)) (lk1 (by first | assumption | (apply Ne.symm; assumption) | (simp; done)) (lk1 (by first | assumption | (apply Ne.symm; assumption) | (simp; done)) (lk1 (by first | assumption | (apply Ne.symm; assumption) | (simp; done)) (va_up_self _ _ _))))) (by first | rfl | assumption) ?_
            refine pw_iload (pc := 72) dX7_sameOrder_72 rfl ?_
            refine pw_iald (pc := 74) (k) dX7_sameOrder_74 (by first | assumption | exact va_up_self _ _ _ | exact lk1 (by first | assumption | (apply Ne.symm; assumption) | (simp; done)) (by assumption) | exact lk1 (by first | assumption | (apply Ne.symm; assumption) | (simp; done)) (va_up_self _ _ _) | exact lk1 (by first | assumption | (apply Ne.symm; assumption) | (simp; done)) (lk1 (by first | assumption | (apply Ne.symm; assumption) | (simp; done)) (by assumption)) | exact lk1 (by first | assumption | (apply Ne.symm; assumption) | (simp; done)) (lk1 (by first | assumption | (apply Ne.symm; assumption) | (simp; done)) (va_up_self _ _ _)) | exact lk1 (by first | assumption | (apply Ne.symm; assumption) | (simp; done)) (lk1 (by first | assumption | (apply Ne.symm; assumption) | (simp; done)) (lk1 (by first | assumption | (apply Ne.symm; assumption) | (simp; done)) (by assumption))) | exact lk1 (by first | assumption | (apply Ne.symm; assumption) | (simp; done)) (lk1 (by first | assumption | (apply Ne.symm; assumption) | (simp; done)) (lk1 (by first | assumption | (apply Ne.symm; assumption) | (simp; done)) (va_up_self _ _ _))) | exact lk1 (by first | assumption | (apply Ne.symm; assumption) | (simp; done)) (lk1 (by first | assumption | (apply Ne.symm; assumption) | (simp; done)) (lk1 (by first | assumption | (apply Ne.symm; assumption) | (simp; done)) (lk1 (by first | assumption | (apply Ne.symm; assumption) | (simp; done)) (by assumption)))) | exact lk1 (by first | assumption | (apply Ne.symm; assumption) | (simp; done)) (lk1 (by first | assumption | (apply Ne.symm; assumption) | (simp; done)) (lk1 (by first | assumption | (apply Ne.symm; assumption) | (simp; done)) (lk1 (by first | assumption | (apply Ne.symm; assumption) | (simp; done)) (va_up_self _ _ _))))) (by first | assumption | rfl | (simp only [nI_add, pk_mul, Nat.one_mul, Nat.mul_one, Nat.zero_add, Nat.add_zero, Nat.mul_zero]; done) | exact pk_sub (by omega) | (rw [pk_sub (by omega)]; first | done | (rw [nI_add]; done) | (rw [pk_sub (by omega)]; done) | (rw [pk_sub (by omega), nI_add]; done)) | (simp only [nI_add, pk_mul]; first | exact pk_sub (by omega) | (congr 1; omega)) | (congr 1; omega)) (by omega) (by omega) ?_
            rw [pk_us]
            have h1 := ppM_le L1 L2 k L2.length
            have h2 := ppD_le L1 L2 k
            refine pw_mmax (pc := 75) lk_X7_279 dX7_sameOrder_75 (Nat.le_of_ble_eq_true rfl) (Nat.le_of_ble_eq_true rfl) ?_
            rw [nI_mx (by omega) (by omega), ← ppM_yes e hp']
            refine pw_ist3 (pc := 78) dX7_sameOrder_78 (Nat.le_of_ble_eq_true rfl) rfl ?_
            refine pw_iinc4 (pc := 79) (nI (k + 1)) dX7_sameOrder_79 (Nat.le_of_ble_eq_true rfl) rfl (ni_inc _) ?_
            refine pw_goto (pc := 82) 5 dX7_sameOrder_82 (by decide) ?_
            refine ih (k + 1) _ _ _ (by omega) (fun j hj => ?_) (va_up_self _ _ _) (fun p hp => by rw [va_up_ne _ _ hp]; exact xf2 p hp)
            by_cases hjk : j = k
            · subst hjk; rw [pk_us]
            · rw [pk_un hjk, pk_un hjk]; exact hf j (by omega)
  refine PM.of [.ref c, .ref r1, .ref r2, .null, .null, .null] rfl (Nat.le_of_ble_eq_true rfl) rfl ?_
  refine pw_iconst (pc := 0) (nI 0) dX7_sameOrder_0 (by decide) ?_
  refine pw_ist3 (pc := 1) dX7_sameOrder_1 (Nat.le_of_ble_eq_true rfl) rfl ?_
  refine pw_iconst (pc := 2) (nI 0) dX7_sameOrder_2 (by decide) ?_
  refine pw_ist4 (pc := 3) dX7_sameOrder_3 (Nat.le_of_ble_eq_true rfl) rfl ?_
  exact loop L1.length 0 f h _ (by omega) (fun j hj => absurd hj (Nat.not_lt_zero j)) hq (fun _ _ => rfl)
end B1
