/-! bits of an int -/
def bt (x : Int32) (k : Nat) : Bool := x.toBitVec.getLsbD k
theorem bt_ext {a b : Int32} (h : ∀ k, k < 32 → bt a k = bt b k) : a = b := by
  apply Int32.toBitVec_inj.mp
  apply BitVec.eq_of_getLsbD_eq
  intro i hi
  exact h i hi
theorem bt_or (a b : Int32) (k : Nat) : bt (a ||| b) k = (bt a k || bt b k) := by
  simp [bt, Int32.toBitVec_or]
theorem bt_and (a b : Int32) (k : Nat) : bt (a &&& b) k = (bt a k && bt b k) := by
  simp [bt, Int32.toBitVec_and]
theorem bt_0 (k : Nat) : bt 0 k = false := by simp [bt]
theorem bt_ge (a : Int32) {k : Nat} (hk : 32 ≤ k) : bt a k = false := BitVec.getLsbD_of_ge _ _ hk
theorem bt_not (a : Int32) {k : Nat} (hk : k < 32) : bt (a ^^^ -1) k = !bt a k := by
  have e : (-1 : Int32).toBitVec = BitVec.allOnes 32 := by decide
  simp only [bt, Int32.toBitVec_xor, e, BitVec.getLsbD_xor, BitVec.getLsbD_allOnes, hk, decide_true, Bool.xor_true]
theorem sh_amt {k : Nat} (hk : k < 32) : ((nI k &&& 31).toBitVec.smod 32).toNat = k := by
  exact (by decide : ∀ k : Fin 32, ((nI k.1 &&& 31).toBitVec.smod 32).toNat = k.1) ⟨k, hk⟩
theorem shr_bv (x : Int32) {k : Nat} (hk : k < 32) : (x >>> (nI k &&& 31)).toBitVec = x.toBitVec.sshiftRight k := by
  rw [Int32.toBitVec_shiftRight]
  show x.toBitVec.sshiftRight (((nI k &&& 31).toBitVec.smod 32).toNat) = _
  rw [sh_amt hk]
theorem bt_shr1 (x : Int32) {k : Nat} (hk : k < 32) : (x >>> (nI k &&& 31)) &&& nI 1 = nI (bt x k).toNat := by
  apply Int32.toBitVec_inj.mp
  rw [Int32.toBitVec_and, shr_bv x hk]
  apply BitVec.eq_of_getLsbD_eq
  intro i hi
  rw [BitVec.getLsbD_and, BitVec.getLsbD_sshiftRight]
  have e1 : (nI 1).toBitVec.getLsbD i = decide (i = 0) := (by decide : ∀ i : Fin 32, (nI 1).toBitVec.getLsbD i.1 = decide (i.1 = 0)) ⟨i, hi⟩
  have e0 : (nI 0).toBitVec.getLsbD i = false := (by decide : ∀ i : Fin 32, (nI 0).toBitVec.getLsbD i.1 = false) ⟨i, hi⟩
  rw [e1]
  by_cases h0 : i = 0
  · subst h0
    have : (k + 0 < 32) := by omega
    simp only [Nat.add_zero, hk, if_true, decide_true, Bool.and_true]
    show _ = (nI (x.toBitVec.getLsbD k).toNat).toBitVec.getLsbD 0
    cases x.toBitVec.getLsbD k <;> decide
  · simp only [h0, decide_false, Bool.and_false]
    cases bt x k
    · exact e0.symm
    · show false = (nI 1).toBitVec.getLsbD i
      rw [e1]; simp [h0]
theorem inB_bt (x : Int32) {k : Nat} (hk : k < 32) : inB x (nI k) = bt x k := by
  have h := bt_shr1 x hk
  rw [show nI 1 = 1 from rfl] at h
  rw [inB, h]
  cases bt x k <;> decide
theorem bt_bit1 {j k : Nat} (hj : j < 32) (hk : k < 32) : bt (bit1 (nI j)) k = decide (k = j) := by
  exact (by decide : ∀ j k : Fin 32, bt (bit1 (nI j.1)) k.1 = decide (k.1 = j.1)) ⟨j, hj⟩ ⟨k, hk⟩
theorem bt_nat (x : Int32) (k : Nat) : x.toBitVec.toNat.testBit k = bt x k := by rw [bt, BitVec.testBit_toNat]
/-- how many of the first k bits of X are set -/
def popN (X : Nat) : Nat → Nat
  | 0 => 0
  | k + 1 => popN X k + (X.testBit k).toNat
theorem popN_le (X : Nat) : ∀ k, popN X k ≤ k
  | 0 => Nat.le_refl _
  | k + 1 => by
    have := popN_le X k
    rw [popN]
    have : (X.testBit k).toNat ≤ 1 := by cases X.testBit k <;> decide
    omega
theorem onesF_pop (x : Int32) : ∀ k, k ≤ 32 → onesF x k = nI (popN x.toBitVec.toNat k)
  | 0, _ => rfl
  | k + 1, h => by rw [onesF, onesF_pop x k (by omega), bt_shr1 x (by omega), popN, bt_nat, nI_add]
theorem popN_s (X k : Nat) : popN X (k + 1) = popN X k + (X.testBit k).toNat := rfl
theorem popN_lo {s hi lo : Nat} (hl : lo < 2 ^ s) : ∀ k, k ≤ s → popN (2 ^ s * hi + lo) k = popN lo k
  | 0, _ => rfl
  | k + 1, h => by rw [popN_s, popN_s, popN_lo hl k (by omega), Nat.testBit_two_pow_mul_add _ hl, if_pos (by omega)]
theorem popN_hi {s hi lo : Nat} (hl : lo < 2 ^ s) : ∀ k, popN (2 ^ s * hi + lo) (s + k) = popN lo s + popN hi k
  | 0 => popN_lo hl s (Nat.le_refl _)
  | k + 1 => by
    rw [show s + (k + 1) = (s + k) + 1 by omega, popN_s, popN_hi hl k, Nat.testBit_two_pow_mul_add _ hl, if_neg (by omega), popN_s hi k, show s + k - s = k by omega]
    omega
theorem popN_small {X : Nat} {a : Nat} (hX : X < 2 ^ a) : ∀ k, popN X (a + k) = popN X a
  | 0 => rfl
  | k + 1 => by
    rw [show a + (k + 1) = (a + k) + 1 by omega, popN_s, popN_small hX k, Nat.testBit_lt_two_pow (Nat.lt_of_lt_of_le hX (Nat.pow_le_pow_right (by omega) (by omega)))]
    rfl
theorem sp_and {hi lo m m' k : Nat} (hl : lo < 2 ^ 8) (hk : k ≤ 8) (hm : m < 2 ^ (8 - k)) : ((2 ^ 8 * hi + lo) >>> k) &&& (2 ^ 8 * m' + m) = 2 ^ 8 * ((hi >>> k) &&& m') + ((lo >>> k) &&& m) := by
  have hm16 : m < 2 ^ 8 := Nat.lt_of_lt_of_le hm (Nat.pow_le_pow_right (by omega) (by omega))
  apply Nat.eq_of_testBit_eq
  intro i
  rw [Nat.testBit_and, Nat.testBit_shiftRight, Nat.testBit_two_pow_mul_add _ hl, Nat.testBit_two_pow_mul_add _ hm16, Nat.testBit_two_pow_mul_add _ (Nat.and_lt_two_pow _ hm16), Nat.testBit_and, Nat.testBit_and, Nat.testBit_shiftRight, Nat.testBit_shiftRight]
  by_cases h1 : i < 8
  · rw [if_pos h1, if_pos h1]
    by_cases h2 : k + i < 8
    · rw [if_pos h2]
    · rw [if_neg h2, Nat.testBit_lt_two_pow (Nat.lt_of_lt_of_le hm (Nat.pow_le_pow_right (by omega) (by omega))), Bool.and_false, Bool.and_false]
  · rw [if_neg h1, if_neg h1, if_neg (by omega), show k + i - 8 = k + (i - 8) by omega]
def mk8 (c : Nat) : Nat → Nat
  | 0 => 0
  | n + 1 => 2 ^ 8 * mk8 c n + c
def SA (n x : Nat) : Nat := x - ((x >>> 1) &&& mk8 0x55 n)
def SB (n x : Nat) : Nat := (x &&& mk8 0x33 n) + ((x >>> 2) &&& mk8 0x33 n)
def SC (n x : Nat) : Nat := (x + (x >>> 4)) &&& mk8 0x0f n
def hA (x : Nat) : Nat := x - ((x >>> 1) &&& 0x55)
def hB (x : Nat) : Nat := (x &&& 0x33) + ((x >>> 2) &&& 0x33)
def PB : Nat → Nat → Nat
  | 0, _ => 0
  | n + 1, x => 2 ^ 8 * PB n (x / 256) + popN (x % 256) 8
def hT (x : Nat) : Bool := decide (((x >>> 1) &&& 0x55) ≤ x ∧ hA x < 256 ∧ hB (hA x) ≤ 68 ∧ hB (hA x) % 16 ≤ 4 ∧ (hB (hA x) + (hB (hA x) >>> 4)) % 16 = popN x 8)
theorem hT_all : ((List.range 16).all fun i => (List.range 16).all fun j => hT (16 * i + j)) = true := by decide +kernel
theorem hT_at {x : Nat} (hx : x < 256) : ((x >>> 1) &&& 0x55) ≤ x ∧ hA x < 256 ∧ hB (hA x) ≤ 68 ∧ hB (hA x) % 16 ≤ 4 ∧ (hB (hA x) + (hB (hA x) >>> 4)) % 16 = popN x 8 := by
  have h := List.all_eq_true.mp hT_all (x / 16) (List.mem_range.mpr (by omega))
  have h2 := List.all_eq_true.mp h (x % 16) (List.mem_range.mpr (by omega))
  rw [show 16 * (x / 16) + x % 16 = x by omega] at h2
  exact of_decide_eq_true h2
theorem SC_all : ∀ n x, x < 2 ^ (8 * n) → SC n (SB n (SA n x)) = PB n x ∧ SB n (SA n x) % 16 ≤ 4
  | 0, x, hx => by
    obtain rfl : x = 0 := by simpa using hx
    decide
  | n + 1, x, hx => by
    have e : x = 2 ^ 8 * (x / 256) + x % 256 := by omega
    have hhi : x / 256 < 2 ^ (8 * n) := by
      rw [show 8 * (n + 1) = 8 * n + 8 by omega, Nat.pow_add] at hx
      omega
    obtain ⟨i1, i2⟩ := SC_all n (x / 256) hhi
    obtain ⟨t1, t2, t3, t4, t5⟩ := hT_at (x := x % 256) (by omega)
    generalize hh : x / 256 = hi at *
    generalize hl : x % 256 = lo at *
    have hlo : lo < 2 ^ 8 := by omega
    have eA : SA (n + 1) x = 2 ^ 8 * SA n hi + hA lo := by
      rw [e, SA, mk8, sp_and hlo (by omega) (by decide), SA, hA]
      have : (hi >>> 1) &&& mk8 0x55 n ≤ hi := Nat.le_trans Nat.and_le_left (by rw [Nat.shiftRight_eq_div_pow]; exact Nat.div_le_self _ _)
      omega
    have eB : SB (n + 1) (SA (n + 1) x) = 2 ^ 8 * SB n (SA n hi) + hB (hA lo) := by
      rw [eA, SB, mk8]
      have q0 := sp_and (hi := SA n hi) (lo := hA lo) (m := 0x33) (m' := mk8 0x33 n) (k := 0) t2 (by omega) (by decide)
      have q2 := sp_and (hi := SA n hi) (lo := hA lo) (m := 0x33) (m' := mk8 0x33 n) (k := 2) t2 (by omega) (by decide)
      rw [Nat.shiftRight_zero, Nat.shiftRight_zero, Nat.shiftRight_zero] at q0
      rw [q0, q2, SB, hB]
      omega
    rw [eB]
    generalize SB n (SA n hi) = u at *
    generalize hB (hA lo) = v at *
    constructor
    · rw [SC, mk8]
      have e4 : (2 ^ 8 * u + v) + ((2 ^ 8 * u + v) >>> 4) = 2 ^ 8 * (u + (u >>> 4)) + (v + (v >>> 4) + 16 * (u % 16)) := by
        simp only [Nat.shiftRight_eq_div_pow]
        omega
      have hv : v >>> 4 ≤ 4 := by rw [Nat.shiftRight_eq_div_pow]; omega
      rw [e4]
      have q0 := sp_and (hi := u + (u >>> 4)) (lo := v + (v >>> 4) + 16 * (u % 16)) (m := 0x0f) (m' := mk8 0x0f n) (k := 0) (by omega) (by omega) (by decide)
      rw [Nat.shiftRight_zero, Nat.shiftRight_zero, Nat.shiftRight_zero] at q0
      rw [q0, PB, hh, hl, ← i1, ← t5, SC]
      have q15 : ∀ y : Nat, y &&& 0x0f = y % 16 := fun y => Nat.and_two_pow_sub_one_eq_mod y 4
      rw [q15]
      omega
    · have q : ∀ u v : Nat, (2 ^ 8 * u + v) % 16 = v % 16 := by intro u v; omega
      rw [q]; exact t4
theorem bt_26 {x : Int32} (h : ∀ k, 26 ≤ k → k < 32 → bt x k = false) : x.toBitVec.toNat < 2 ^ 26 := by
  apply Nat.lt_pow_two_of_testBit
  intro i hi
  rw [bt_nat]
  by_cases h2 : i < 32
  · exact h i hi h2
  · exact bt_ge x (by omega)
theorem shU_nat (x : Int32) {k : Nat} (hk : k < 32) : (shU x k).toBitVec.toNat = x.toBitVec.toNat >>> k := by
  have e : ((nI k).toUInt32 &&& Int32.toUInt32 31).toBitVec.toNat % 32 = k := (by decide : ∀ k : Fin 32, ((nI k.1).toUInt32 &&& Int32.toUInt32 31).toBitVec.toNat % 32 = k.1) ⟨k, hk⟩
  rw [shU, UInt32.toBitVec_toInt32, UInt32.toBitVec_shiftRight, Int32.toBitVec_toUInt32]
  show (x.toBitVec >>> (((nI k).toUInt32 &&& Int32.toUInt32 31).toBitVec % 32).toNat).toNat = _
  rw [BitVec.toNat_ushiftRight, BitVec.toNat_umod]
  rw [show (32 : BitVec 32).toNat = 32 from rfl, e]
theorem nI_bv {k : Nat} (hk : k < 2 ^ 32) : (nI k).toBitVec.toNat = k := by
  show (BitVec.ofNat 32 k).toNat = k
  rw [BitVec.toNat_ofNat, Nat.mod_eq_of_lt hk]
theorem bcI_pop {x : Int32} (hx : x.toBitVec.toNat < 2 ^ 26) : bcI x = onesF x 26 := by
  show bcE (bcD (bcC (bcB (bcA x)))) &&& nI 63 = _
  rw [onesF_pop x 26 (by omega)]
  have k5 : mk8 0x55 4 = 0x55555555 := by decide
  have k3 : mk8 0x33 4 = 0x33333333 := by decide
  have k0 : mk8 0x0f 4 = 0x0f0f0f0f := by decide
  have c5 : (1431655765 : Int32).toBitVec.toNat = 0x55555555 := by decide
  have c3 : (858993459 : Int32).toBitVec.toNat = 0x33333333 := by decide
  have c0 : (252645135 : Int32).toBitVec.toNat = 0x0f0f0f0f := by decide
  have c63 : (nI 63).toBitVec.toNat = 63 := by decide
  generalize hX : x.toBitVec.toNat = X at hx
  have e1 : (bcA x).toBitVec.toNat = SA 4 X := by
    rw [bcA, Int32.toBitVec_sub, BitVec.toNat_sub, Int32.toBitVec_and, BitVec.toNat_and, shU_nat x (by omega), c5, hX, SA, k5]
    have : (X >>> 1) &&& 0x55555555 ≤ X := Nat.le_trans Nat.and_le_left (by rw [Nat.shiftRight_eq_div_pow]; exact Nat.div_le_self _ _)
    omega
  have e2 : (bcB (bcA x)).toBitVec.toNat = SB 4 (SA 4 X) := by
    rw [bcB, Int32.toBitVec_add, BitVec.toNat_add, Int32.toBitVec_and, BitVec.toNat_and, Int32.toBitVec_and, BitVec.toNat_and, shU_nat _ (by omega), c3, e1, SB, k3]
    have a1 : SA 4 X &&& 0x33333333 ≤ 0x33333333 := Nat.and_le_right
    have a2 : (SA 4 X >>> 2) &&& 0x33333333 ≤ 0x33333333 := Nat.and_le_right
    omega
  have l2 : SB 4 (SA 4 X) ≤ 0x66666666 := by
    rw [SB, k3]
    have a1 : SA 4 X &&& 0x33333333 ≤ 0x33333333 := Nat.and_le_right
    have a2 : (SA 4 X >>> 2) &&& 0x33333333 ≤ 0x33333333 := Nat.and_le_right
    omega
  have e3 : (bcC (bcB (bcA x))).toBitVec.toNat = PB 4 X := by
    rw [← (SC_all 4 X (by omega)).1, bcC, Int32.toBitVec_and, BitVec.toNat_and, Int32.toBitVec_add, BitVec.toNat_add, shU_nat _ (by omega), c0, e2, SC, k0]
    rw [Nat.mod_eq_of_lt (by rw [Nat.shiftRight_eq_div_pow]; omega)]
  generalize bcC (bcB (bcA x)) = w3 at e3
  have p0 := popN_le (X % 256) 8
  have p1 := popN_le (X / 256 % 256) 8
  have p2 := popN_le (X / 256 / 256 % 256) 8
  have p3 := popN_le (X / 256 / 256 / 256 % 256) 8
  have eP : PB 4 X = popN (X % 256) 8 + 256 * popN (X / 256 % 256) 8 + 65536 * popN (X / 256 / 256 % 256) 8 + 16777216 * popN (X / 256 / 256 / 256 % 256) 8 := by
    simp only [PB]; omega
  have split : ∀ Y k, popN Y (8 + k) = popN (Y % 256) 8 + popN (Y / 256) k := by
    intro Y k
    have := popN_hi (s := 8) (hi := Y / 256) (lo := Y % 256) (by omega) k
    rwa [show 2 ^ 8 * (Y / 256) + Y % 256 = Y by omega] at this
  have eN : popN X 26 = popN (X % 256) 8 + popN (X / 256 % 256) 8 + popN (X / 256 / 256 % 256) 8 + popN (X / 256 / 256 / 256 % 256) 8 := by
    have h0 := popN_small hx 6
    have h1 := split X 24
    have h2 := split (X / 256) 16
    have h3 := split (X / 256 / 256) 8
    have h4 := split (X / 256 / 256 / 256) 0
    rw [show 26 + 6 = 8 + 24 from rfl] at h0
    rw [show 8 + 16 = 24 from rfl] at h2
    rw [show 8 + 8 = 16 from rfl] at h3
    rw [show 8 + 0 = 8 from rfl, show ∀ Y, popN Y 0 = 0 from fun _ => rfl] at h4
    omega
  generalize popN (X % 256) 8 = q0 at *
  generalize popN (X / 256 % 256) 8 = q1 at *
  generalize popN (X / 256 / 256 % 256) 8 = q2 at *
  generalize popN (X / 256 / 256 / 256 % 256) 8 = q3 at *
  have e4 : (bcD w3).toBitVec.toNat = (q0 + q1) + 256 * (q1 + q2) + 65536 * (q2 + q3) + 16777216 * q3 := by
    rw [bcD, Int32.toBitVec_add, BitVec.toNat_add, shU_nat _ (by omega), e3, eP, Nat.shiftRight_eq_div_pow]
    omega
  have e5 : (bcE (bcD w3)).toBitVec.toNat = (q0 + q1 + q2 + q3) + 256 * (q1 + q2 + q3) + 65536 * (q2 + q3) + 16777216 * q3 := by
    rw [bcE, Int32.toBitVec_add, BitVec.toNat_add, shU_nat _ (by omega), e4, Nat.shiftRight_eq_div_pow]
    have dv : ∀ a b : Nat, a < 65536 → (a + 65536 * b) / 2 ^ 16 = b := by intro a b h; omega
    rw [show (q0 + q1) + 256 * (q1 + q2) + 65536 * (q2 + q3) + 16777216 * q3 = (q0 + q1 + 256 * (q1 + q2)) + 65536 * (q2 + q3 + 256 * q3) by omega, dv _ _ (by omega), Nat.mod_eq_of_lt (by omega)]
    omega
  apply Int32.toBitVec_inj.mp
  apply BitVec.eq_of_toNat_eq
  rw [eN, nI_bv (by omega), Int32.toBitVec_and, BitVec.toNat_and, e5, c63]
  rw [show ∀ y : Nat, y &&& 63 = y % 64 from fun y => Nat.and_two_pow_sub_one_eq_mod y 6]
  omega
