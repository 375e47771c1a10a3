/-! names numbered anew, sets of them as masks -/
theorem bt_nI {X k : Nat} (hX : X < 2 ^ 32) : bt (nI X) k = X.testBit k := by rw [← bt_nat, nI_bv hX]
theorem nI_or_bit {P j : Nat} (hP : P < 2 ^ j) (hj : j < 31) : nI P ||| bit1 (nI j) = nI (2 ^ j + P) := by
  have h31 : 2 ^ j ≤ 2 ^ 30 := Nat.pow_le_pow_right (by omega) (by omega)
  apply bt_ext
  intro k hk
  rw [bt_or, bt_nI (by omega), bt_bit1 (by omega) hk, bt_nI (by omega)]
  have := Nat.testBit_two_pow_mul_add 1 hP k
  rw [Nat.mul_one] at this
  rw [this]
  by_cases h1 : k < j
  · rw [if_pos h1, decide_eq_false (by omega), Bool.or_false]
  · rw [if_neg h1, Nat.testBit_lt_two_pow (Nat.lt_of_lt_of_le hP (Nat.pow_le_pow_right (by omega) (by omega))), Bool.false_or]
    by_cases h2 : k = j
    · subst h2; simp
    · rw [decide_eq_false h2]
      have : k - j ≠ 0 := by omega
      cases e : k - j with
      | zero => omega
      | succ q => simp [Nat.testBit_succ]
def subN (a b : Nat) : Bool := decide (a &&& b = a)
theorem sub_bits {a b : Nat} : subN a b = true ↔ ∀ j, a.testBit j = true → b.testBit j = true := by
  rw [subN, decide_eq_true_iff]
  constructor
  · intro h j hj
    have := congrArg (fun x => Nat.testBit x j) h
    simp only [Nat.testBit_and, hj, Bool.true_and] at this
    exact this
  · intro h
    apply Nat.eq_of_testBit_eq
    intro j
    rw [Nat.testBit_and]
    cases e : a.testBit j with
    | false => rfl
    | true => rw [h j e]; rfl
theorem and_not0 {x y : Int32} : (x &&& (y ^^^ -1) = 0) ↔ ∀ j, j < 32 → bt x j = true → bt y j = true := by
  constructor
  · intro h j hj hx
    have := congrArg (fun z => bt z j) h
    simp only [bt_and, bt_not y hj, bt_0, hx, Bool.true_and] at this
    simpa using this
  · intro h
    apply bt_ext
    intro j hj
    rw [bt_and, bt_not y hj, bt_0]
    cases e : bt x j with
    | false => rfl
    | true => rw [h j hj e]; rfl
theorem and_notN {a b : Nat} (ha : a < 2 ^ 32) (hb : b < 2 ^ 32) : (nI a &&& (nI b ^^^ -1) = 0) ↔ subN a b = true := by
  rw [and_not0, sub_bits]
  constructor
  · intro h j hj
    by_cases h32 : j < 32
    · have := h j h32
      rw [bt_nI ha, bt_nI hb] at this
      exact this hj
    · rw [Nat.testBit_lt_two_pow (Nat.lt_of_lt_of_le ha (Nat.pow_le_pow_right (by omega) (by omega)))] at hj; cases hj
  · intro h j hj
    rw [bt_nI ha, bt_nI hb]; exact h j
def nmL (al : Int32) : Nat → List Nat
  | 0 => []
  | k + 1 => if bt al k then nmL al k ++ [k] else nmL al k
theorem nmL_pre (al : Int32) (k : Nat) : ∀ j, ∃ r, nmL al (k + j) = nmL al k ++ r
  | 0 => ⟨[], by simp⟩
  | j + 1 => by
    obtain ⟨r, hr⟩ := nmL_pre al k j
    rw [show k + (j + 1) = (k + j) + 1 by omega, nmL]
    split
    · exact ⟨r ++ [k + j], by rw [hr, List.append_assoc]⟩
    · exact ⟨r, hr⟩
theorem nmL_len (al : Int32) : ∀ k, (nmL al k).length = popN al.toBitVec.toNat k
  | 0 => rfl
  | k + 1 => by
    rw [nmL, popN_s, bt_nat, ← nmL_len al k]
    cases bt al k <;> simp
def pkF (al bits : Int32) : Nat → Nat
  | 0 => 0
  | k + 1 => if bt al k then (if bt bits k then 2 ^ (nmL al k).length + pkF al bits k else pkF al bits k) else pkF al bits k
theorem pkF_lt (al bits : Int32) : ∀ k, pkF al bits k < 2 ^ (nmL al k).length
  | 0 => Nat.one_pos
  | k + 1 => by
    have := pkF_lt al bits k
    rw [pkF, nmL]
    cases bt al k with
    | false => simpa using this
    | true =>
      simp only [if_true, List.length_append, List.length_singleton, Nat.pow_succ]
      split <;> omega
theorem nmL_le (al : Int32) (k : Nat) : (nmL al k).length ≤ k := by rw [nmL_len]; exact popN_le _ _
section S2
variable {E : EV} {h : HP} {n s : Nat} {f : Nat → Int32} {al : Int32}
theorem c_withoutGaps (hs : sidB h s f al) (bits : Int32) : PM E mX5_withoutGaps [.ref s, .int bits] h n n 0 (QE (some (.int (nI (pkF al bits 26)))) h) := by
  obtain ⟨s0, -⟩ := id hs
  have loop : ∀ j k, k + j = 26 → PW (KX E mX5_withoutGaps n (QE (some (.int (nI (pkF al bits 26)))) h)) 7 [.ref s, .int bits, .int (nI (pkF al bits k)), .int (nI (nmL al k).length), .int (nI k)] [] h n 0 := by
    intro j
    induction j with
    | zero =>
      intro k hk
      refine pw_iload (pc := 7) dX5_withoutGaps_7 rfl ?_
      refine pw_bipush (pc := 9) (nI 26) dX5_withoutGaps_9 (by decide) ?_
      refine pw_icmp_ge_n (pc := 11) 54 dX5_withoutGaps_11 (by decide) (by omega) (by omega) (fun cb => ?_) (fun cb => ?_)
      · obtain rfl : k = 26 := by omega
        refine pw_iload_n (pc := 54) dX5_withoutGaps_54 rfl ?_
        exact pw_iret dX5_withoutGaps_55 rfl ⟨rfl, rfl⟩
      · omega
    | succ j ih =>
      intro k hk
      have hle := nmL_le al k
      have hlt := pkF_lt al bits k
      have nx := ih (k + 1) (by omega)
      refine pw_iload (pc := 7) dX5_withoutGaps_7 rfl ?_
      refine pw_bipush (pc := 9) (nI 26) dX5_withoutGaps_9 (by decide) ?_
      refine pw_icmp_ge_n (pc := 11) 54 dX5_withoutGaps_11 (by decide) (by omega) (by omega) (fun cb => ?_) (fun cb => ?_)
      · omega
      · refine pw_aload_n (pc := 14) dX5_withoutGaps_14 rfl ?_
        refine pw_get (pc := 15) fg_X5_22 dX5_withoutGaps_15 (by first | assumption | exact va_up_self _ _ _ | exact lk1 (by first | assumption | (apply Ne.symm; assumption) | (simp; done)) (by assumption) | exact lk1 (by first | assumption | (apply Ne.symm; assumption) | (simp; done)) (va_up_self _ _ _) | exact lk1 (by first | assumption | (apply Ne.symm; assumption) | (simp; done)) (lk1 (by first | assumption | (apply Ne.symm; assumption) | (simp; done)) (by assumption)) | exact lk1 (by first | assumption | (apply Ne.symm; assumption) | (simp; done)) (lk1 (by first | assumption | (apply Ne.symm; assumption) | (simp; done)) (va_up_self _ _ _)) | exact lk1 (by first | assumption | (apply Ne.symm; assumption) | (simp; done)) (lk1 (by first | assumption | (apply Ne.symm; assumption) | (simp; done)) (lk1 (by first | assumption | (apply Ne.symm; assumption) | (simp; done)) (by assumption))) | exact lk1 (by first | assumption | (apply Ne.symm; assumption) | (simp; done)) (lk1 (by first | assumption | (apply Ne.symm; assumption) | (simp; done)) (lk1 (by first | assumption | (apply Ne.symm; assumption) | (simp; done)) (va_up_self _ _ _))) | exact lk1 (by first | assumption | (apply Ne.symm; assumption) | (simp; done)) (lk1 (by first | assumption | (apply Ne.symm; assumption) | (simp; done)) (lk1 (by first | assumption | (apply Ne.symm; assumption) | (simp; done)) (lk1 (by first | assumption | (apply Ne.symm; assumption) | (simp; done)) (by assumption)))) | exact lk1 (by first | assumption | (apply Ne.symm; assumption) | (simp; done)) (lk1 (by first | assumption | (apply Ne.symm; assumption) | (simp; done)) (lk1 (by first | assumption | (apply Ne.symm; assumption) | (simp; done)) (lk1 (by first | assumption | (apply Ne.symm; assumption) | (simp; done)) (va_up_self _ _ _))))) (by first | rfl | assumption) ?_
        refine pw_iload (pc := 18) dX5_withoutGaps_18 rfl ?_
        refine pw_callSN_i (pc := 20) csn_X5_32 dX5_withoutGaps_20 (c_isIn al (nI k)) rfl rfl (Nat.le_of_ble_eq_true rfl) ⟨(Nat.le_of_ble_eq_true rfl), (Nat.le_of_ble_eq_true rfl)⟩ ?_
        rw [inB_bt al (by omega)]
        refine pw_if_eq_b (pc := 23) 48 dX5_withoutGaps_23 (by decide) (fun z => ?_) (fun z => ?_)
        · rw [show pkF al bits (k + 1) = pkF al bits k from if_neg (by rw [z]; simp), show nmL al (k + 1) = nmL al k from if_neg (by rw [z]; simp)] at nx
          refine pw_iinc4 (pc := 48) (nI (k + 1)) dX5_withoutGaps_48 (Nat.le_of_ble_eq_true rfl) rfl (ni_inc _) ?_
          refine pw_goto (pc := 51) 7 dX5_withoutGaps_51 (by decide) ?_
          exact nx
        · rw [show pkF al bits (k + 1) = (if bt bits k then 2 ^ (nmL al k).length + pkF al bits k else pkF al bits k) from if_pos z, show nmL al (k + 1) = nmL al k ++ [k] from if_pos z, List.length_append, List.length_singleton] at nx
          refine pw_iload_n (pc := 26) dX5_withoutGaps_26 rfl ?_
          refine pw_iload_n (pc := 27) dX5_withoutGaps_27 rfl ?_
          refine pw_iload (pc := 28) dX5_withoutGaps_28 rfl ?_
          refine pw_callSN_i (pc := 30) csn_X5_32 dX5_withoutGaps_30 (c_isIn bits (nI k)) rfl rfl (Nat.le_of_ble_eq_true rfl) ⟨(Nat.le_of_ble_eq_true rfl), (Nat.le_of_ble_eq_true rfl)⟩ ?_
          rw [inB_bt bits (by omega)]
          refine pw_if_eq_b (pc := 33) 42 dX5_withoutGaps_33 (by decide) (fun y => ?_) (fun y => ?_)
          · rw [y] at nx
            refine pw_iconst (pc := 42) (nI 0) dX5_withoutGaps_42 (by decide) ?_
            refine pw_ior (pc := 43) dX5_withoutGaps_43 ?_
            rw [show ∀ v : Int32, v ||| nI 0 = v from fun v => Int32.or_zero]
            refine pw_ist2 (pc := 44) dX5_withoutGaps_44 (Nat.le_of_ble_eq_true rfl) rfl ?_
            refine pw_iinc3 (pc := 45) (nI ((nmL al k).length + 1)) dX5_withoutGaps_45 (Nat.le_of_ble_eq_true rfl) rfl (ni_inc _) ?_
            refine pw_iinc4 (pc := 48) (nI (k + 1)) dX5_withoutGaps_48 (Nat.le_of_ble_eq_true rfl) rfl (ni_inc _) ?_
            refine pw_goto (pc := 51) 7 dX5_withoutGaps_51 (by decide) ?_
            exact nx
          · rw [y, if_pos rfl] at nx
            refine pw_iconst (pc := 36) (nI 1) dX5_withoutGaps_36 (by decide) ?_
            refine pw_iload_n (pc := 37) dX5_withoutGaps_37 rfl ?_
            refine pw_ishl (pc := 38) dX5_withoutGaps_38 ?_
            refine pw_goto (pc := 39) 43 dX5_withoutGaps_39 (by decide) ?_
            refine pw_ior (pc := 43) dX5_withoutGaps_43 ?_
            rw [show nI (pkF al bits k) ||| nI 1 <<< (nI (nmL al k).length &&& 31) = nI (2 ^ (nmL al k).length + pkF al bits k) from nI_or_bit hlt (by omega)]
            refine pw_ist2 (pc := 44) dX5_withoutGaps_44 (Nat.le_of_ble_eq_true rfl) rfl ?_
            refine pw_iinc3 (pc := 45) (nI ((nmL al k).length + 1)) dX5_withoutGaps_45 (Nat.le_of_ble_eq_true rfl) rfl (ni_inc _) ?_
            refine pw_iinc4 (pc := 48) (nI (k + 1)) dX5_withoutGaps_48 (Nat.le_of_ble_eq_true rfl) rfl (ni_inc _) ?_
            refine pw_goto (pc := 51) 7 dX5_withoutGaps_51 (by decide) ?_
            exact nx
  refine PM.of [.ref s, .int bits, .null, .null, .null] rfl (Nat.le_of_ble_eq_true rfl) rfl ?_
  refine pw_iconst (pc := 0) (nI 0) dX5_withoutGaps_0 (by decide) ?_
  refine pw_ist2 (pc := 1) dX5_withoutGaps_1 (Nat.le_of_ble_eq_true rfl) rfl ?_
  refine pw_iconst (pc := 2) (nI 0) dX5_withoutGaps_2 (by decide) ?_
  refine pw_ist3 (pc := 3) dX5_withoutGaps_3 (Nat.le_of_ble_eq_true rfl) rfl ?_
  refine pw_iconst (pc := 4) (nI 0) dX5_withoutGaps_4 (by decide) ?_
  refine pw_ist4 (pc := 5) dX5_withoutGaps_5 (Nat.le_of_ble_eq_true rfl) rfl ?_
  exact loop 26 0 (by omega)
theorem c_fillNeeded (hs : sidB h s f al) (h12 : (nmL al 26).length ≤ 12) : PM E mX5_fillNeeded [.ref s] h n n 0 (fun v h' => v = some (.int (nI (nmL al 26).length)) ∧ (∃ g, h' (s + 2) = some (.inl (0, 12, .inl g)) ∧ ∀ j, j < (nmL al 26).length → g j = nI (pkF al (f ((nmL al 26).getD j 0)) 26)) ∧ ∀ q, q ≠ s + 2 → h' q = h q) := by
  obtain ⟨s0, ⟨f0, s1, hf0⟩, ⟨g2, s2⟩, w3, s3⟩ := id hs
  have fin : ∀ k g h' w2, k ≤ 26 → nmL al 26 = nmL al k → (∀ j, j < (nmL al k).length → g j = nI (pkF al (f ((nmL al k).getD j 0)) 26)) → h' (s + 2) = some (.inl (0, 12, .inl g)) → (∀ q, q ≠ s + 2 → h' q = h q) → PW (KX E mX5_fillNeeded n (fun v h' => v = some (.int (nI (nmL al 26).length)) ∧ (∃ g, h' (s + 2) = some (.inl (0, 12, .inl g)) ∧ ∀ j, j < (nmL al 26).length → g j = nI (pkF al (f ((nmL al 26).getD j 0)) 26)) ∧ ∀ q, q ≠ s + 2 → h' q = h q)) 52 [.ref s, .int (nI (nmL al k).length), w2] [] h' n 0 := by
    intro k g h' w2 hk e hg x2 xf
    rw [← e] at hg ⊢
    refine pw_iload_n (pc := 52) dX5_fillNeeded_52 rfl ?_
    exact pw_iret dX5_fillNeeded_53 rfl ⟨rfl, ⟨g, x2, hg⟩, xf⟩
  have loop : ∀ p k g h', k + p = 26 → (∀ j, j < (nmL al k).length → g j = nI (pkF al (f ((nmL al k).getD j 0)) 26)) → h' (s + 2) = some (.inl (0, 12, .inl g)) → (∀ q, q ≠ s + 2 → h' q = h q) → PW (KX E mX5_fillNeeded n (fun v h' => v = some (.int (nI (nmL al 26).length)) ∧ (∃ g, h' (s + 2) = some (.inl (0, 12, .inl g)) ∧ ∀ j, j < (nmL al 26).length → g j = nI (pkF al (f ((nmL al 26).getD j 0)) 26)) ∧ ∀ q, q ≠ s + 2 → h' q = h q)) 4 [.ref s, .int (nI (nmL al k).length), .int (nI k)] [] h' n 0 := by
    intro p
    induction p with
    | zero =>
      intro k g h' hk hg x2 xf
      obtain rfl : k = 26 := by omega
      refine pw_iload_n (pc := 4) dX5_fillNeeded_4 rfl ?_
      refine pw_bipush (pc := 5) (nI 26) dX5_fillNeeded_5 (by decide) ?_
      refine pw_icmp_ge_n (pc := 7) 52 dX5_fillNeeded_7 (by decide) (by omega) (by omega) (fun cb => ?_) (fun cb => ?_)
      · exact fin 26 g h' _ (Nat.le_refl _) rfl hg x2 xf
      · omega
    | succ p ih =>
      intro k g h' hk hg x2 xf
      have x0 := (xf s (by omega)).trans s0
      have x1 := (xf (s + 1) (by omega)).trans s1
      have x3 := (xf (s + 3) (by omega)).trans s3
      have hs' : sidB h' s f al := ⟨x0, ⟨f0, x1, hf0⟩, ⟨g, x2⟩, w3, x3⟩
      obtain ⟨r, hr⟩ := nmL_pre al k (26 - k)
      rw [show k + (26 - k) = 26 by omega] at hr
      have hrl := congrArg List.length hr
      rw [List.length_append] at hrl
      refine pw_iload_n (pc := 4) dX5_fillNeeded_4 rfl ?_
      refine pw_bipush (pc := 5) (nI 26) dX5_fillNeeded_5 (by decide) ?_
      refine pw_icmp_ge_n (pc := 7) 52 dX5_fillNeeded_7 (by decide) (by omega) (by omega) (fun cb => ?_) (fun cb => ?_)
      · omega
      · refine pw_iload_n (pc := 10) dX5_fillNeeded_10 rfl ?_
        refine pw_bipush (pc := 11) (nI 12) dX5_fillNeeded_11 (by decide) ?_
        refine pw_icmp_ge_n (pc := 13) 52 dX5_fillNeeded_13 (by decide) (by omega) (by omega) (fun cb2 => ?_) (fun cb2 => ?_)
        · have hr0 : r = [] := List.eq_nil_of_length_eq_zero (by omega)
          exact fin k g h' _ (by omega) (by rw [hr, hr0, List.append_nil]) hg x2 xf
        · refine pw_aload_n (pc := 16) dX5_fillNeeded_16 rfl ?_
          refine pw_get (pc := 17) fg_X5_22 dX5_fillNeeded_17 (by first | assumption | exact va_up_self _ _ _ | exact lk1 (by first | assumption | (apply Ne.symm; assumption) | (simp; done)) (by assumption) | exact lk1 (by first | assumption | (apply Ne.symm; assumption) | (simp; done)) (va_up_self _ _ _) | exact lk1 (by first | assumption | (apply Ne.symm; assumption) | (simp; done)) (lk1 (by first | assumption | (apply Ne.symm; assumption) | (simp; done)) (by assumption)) | exact lk1 (by first | assumption | (apply Ne.symm; assumption) | (simp; done)) (lk1 (by first | assumption | (apply Ne.symm; assumption) | (simp; done)) (va_up_self _ _ _)) | exact lk1 (by first | assumption | (apply Ne.symm; assumption) | (simp; done)) (lk1 (by first | assumption | (apply Ne.symm; assumption) | (simp; done)) (lk1 (by first | assumption | (apply Ne.symm; assumption) | (simp; done)) (by assumption))) | exact lk1 (by first | assumption | (apply Ne.symm; assumption) | (simp; done)) (lk1 (by first | assumption | (apply Ne.symm; assumption) | (simp; done)) (lk1 (by first | assumption | (apply Ne.symm; assumption) | (simp; done)) (va_up_self _ _ _))) | exact lk1 (by first | assumption | (apply Ne.symm; assumption) | (simp; done)) (lk1 (by first | assumption | (apply Ne.symm; assumption) | (simp; done)) (lk1 (by first | assumption | (apply Ne.symm; assumption) | (simp; done)) (lk1 (by first | assumption | (apply Ne.symm; assumption) | (simp; done)) (by assumption)))) | exact lk1 (by first | assumption | (apply Ne.symm; assumption) | (simp; done)) (lk1 (by first | assumption | (apply Ne.symm; assumption) | (simp; done)) (lk1 (by first | assumption | (apply Ne.symm; assumption) | (simp; done)) (lk1 (by first | assumption | (apply Ne.symm; assumption) | (simp; done)) (va_up_self _ _ _))))) (by first | rfl | assumption) ?_
          refine pw_iload_n (pc := 20) dX5_fillNeeded_20 rfl ?_
          refine pw_callSN_i (pc := 21) csn_X5_32 dX5_fillNeeded_21 (c_isIn al (nI k)) rfl rfl (Nat.le_of_ble_eq_true rfl) ⟨(Nat.le_of_ble_eq_true rfl), (Nat.le_of_ble_eq_true rfl)⟩ ?_
          rw [inB_bt al (by omega)]
          refine pw_if_eq_b (pc := 24) 46 dX5_fillNeeded_24 (by decide) (fun z => ?_) (fun z => ?_)
          · have e : nmL al (k + 1) = nmL al k := if_neg (by rw [z]; simp)
            refine pw_iinc2 (pc := 46) (nI (k + 1)) dX5_fillNeeded_46 (Nat.le_of_ble_eq_true rfl) rfl (ni_inc _) ?_
            refine pw_goto (pc := 49) 4 dX5_fillNeeded_49 (by decide) ?_
            have := ih (k + 1) g h' (by omega) (by rw [e]; exact hg) x2 xf
            rw [e] at this
            exact this
          · have e : nmL al (k + 1) = nmL al k ++ [k] := if_pos z
            refine pw_aload_n (pc := 27) dX5_fillNeeded_27 rfl ?_
            refine pw_get (pc := 28) fg_X5_15 dX5_fillNeeded_28 (by first | assumption | exact va_up_self _ _ _ | exact lk1 (by first | assumption | (apply Ne.symm; assumption) | (simp; done)) (by assumption) | exact lk1 (by first | assumption | (apply Ne.symm; assumption) | (simp; done)) (va_up_self _ _ _) | exact lk1 (by first | assumption | (apply Ne.symm; assumption) | (simp; done)) (lk1 (by first | assumption | (apply Ne.symm; assumption) | (simp; done)) (by assumption)) | exact lk1 (by first | assumption | (apply Ne.symm; assumption) | (simp; done)) (lk1 (by first | assumption | (apply Ne.symm; assumption) | (simp; done)) (va_up_self _ _ _)) | exact lk1 (by first | assumption | (apply Ne.symm; assumption) | (simp; done)) (lk1 (by first | assumption | (apply Ne.symm; assumption) | (simp; done)) (lk1 (by first | assumption | (apply Ne.symm; assumption) | (simp; done)) (by assumption))) | exact lk1 (by first | assumption | (apply Ne.symm; assumption) | (simp; done)) (lk1 (by first | assumption | (apply Ne.symm; assumption) | (simp; done)) (lk1 (by first | assumption | (apply Ne.symm; assumption) | (simp; done)) (va_up_self _ _ _))) | exact lk1 (by first | assumption | (apply Ne.symm; assumption) | (simp; done)) (lk1 (by first | assumption | (apply Ne.symm; assumption) | (simp; done)) (lk1 (by first | assumption | (apply Ne.symm; assumption) | (simp; done)) (lk1 (by first | assumption | (apply Ne.symm; assumption) | (simp; done)) (by assumption)))) | exact lk1 (by first | assumption | (apply Ne.symm; assumption) | (simp; done)) (lk1 (by first | assumption | (apply Ne.symm; assumption) | (simp; done)) (lk1 (by first | assumption | (apply Ne.symm; assumption) | (simp; done)) (lk1 (by first | assumption | (apply Ne.symm; assumption) | (simp; done)) (va_up_self _ _ _))))) (by first | rfl | assumption) ?_
            refine pw_iload_n (pc := 31) dX5_fillNeeded_31 rfl ?_
            refine pw_aload_n (pc := 32) dX5_fillNeeded_32 rfl ?_
            refine pw_aload_n (pc := 33) dX5_fillNeeded_33 rfl ?_
            refine pw_get (pc := 34) fg_X5_9 dX5_fillNeeded_34 (by first | assumption | exact va_up_self _ _ _ | exact lk1 (by first | assumption | (apply Ne.symm; assumption) | (simp; done)) (by assumption) | exact lk1 (by first | assumption | (apply Ne.symm; assumption) | (simp; done)) (va_up_self _ _ _) | exact lk1 (by first | assumption | (apply Ne.symm; assumption) | (simp; done)) (lk1 (by first | assumption | (apply Ne.symm; assumption) | (simp; done)) (by assumption)) | exact lk1 (by first | assumption | (apply Ne.symm; assumption) | (simp; done)) (lk1 (by first | assumption | (apply Ne.symm; assumption) | (simp; done)) (va_up_self _ _ _)) | exact lk1 (by first | assumption | (apply Ne.symm; assumption) | (simp; done)) (lk1 (by first | assumption | (apply Ne.symm; assumption) | (simp; done)) (lk1 (by first | assumption | (apply Ne.symm; assumption) | (simp; done)) (by assumption))) | exact lk1 (by first | assumption | (apply Ne.symm; assumption) | (simp; done)) (lk1 (by first | assumption | (apply Ne.symm; assumption) | (simp; done)) (lk1 (by first | assumption | (apply Ne.symm; assumption) | (simp; done)) (va_up_self _ _ _))) | exact lk1 (by first | assumption | (apply Ne.symm; assumption) | (simp; done)) (lk1 (by first | assumption | (apply Ne.symm; assumption) | (simp; done)) (lk1 (by first | assumption | (apply Ne.symm; assumption) | (simp; done)) (lk1 (by first | assumption | (apply Ne.symm; assumption) | (simp; done)) (by assumption)))) | exact lk1 (by first | assumption | (apply Ne.symm; assumption) | (simp; done)) (lk1 (by first | assumption | (apply Ne.symm; assumption) | (simp; done)) (lk1 (by first | assumption | (apply Ne.symm; assumption) | (simp; done)) (lk1 (by first | assumption | (apply Ne.symm; assumption) | (simp; done)) (va_up_self _ _ _))))) (by first | rfl | assumption) ?_
            refine pw_iload_n (pc := 37) dX5_fillNeeded_37 rfl ?_
            refine pw_iald (pc := 38) (k) dX5_fillNeeded_38 (by first | assumption | exact va_up_self _ _ _ | exact lk1 (by first | assumption | (apply Ne.symm; assumption) | (simp; done)) (by assumption) | exact lk1 (by first | assumption | (apply Ne.symm; assumption) | (simp; done)) (va_up_self _ _ _) | exact lk1 (by first | assumption | (apply Ne.symm; assumption) | (simp; done)) (lk1 (by first | assumption | (apply Ne.symm; assumption) | (simp; done)) (by assumption)) | exact lk1 (by first | assumption | (apply Ne.symm; assumption) | (simp; done)) (lk1 (by first | assumption | (apply Ne.symm; assumption) | (simp; done)) (va_up_self _ _ _)) | exact lk1 (by first | assumption | (apply Ne.symm; assumption) | (simp; done)) (lk1 (by first | assumption | (apply Ne.symm; assumption) | (simp; done)) (lk1 (by first | assumption | (apply Ne.symm; assumption) | (simp; done)) (by assumption))) | exact lk1 (by first | assumption | (apply Ne.symm; assumption) | (simp; done)) (lk1 (by first | assumption | (apply Ne.symm; assumption) | (simp; done)) (lk1 (by first | assumption | (apply Ne.symm; assumption) | (simp; done)) (va_up_self _ _ _))) | exact lk1 (by first | assumption | (apply Ne.symm; assumption) | (simp; done)) (lk1 (by first | assumption | (apply Ne.symm; assumption) | (simp; done)) (lk1 (by first | assumption | (apply Ne.symm; assumption) | (simp; done)) (lk1 (by first | assumption | (apply Ne.symm; assumption) | (simp; done)) (by assumption)))) | exact lk1 (by first | assumption | (apply Ne.symm; assumption) | (simp; done)) (lk1 (by first | assumption | (apply Ne.symm; assumption) | (simp; done)) (lk1 (by first | assumption | (apply Ne.symm; assumption) | (simp; done)) (lk1 (by first | assumption | (apply Ne.symm; assumption) | (simp; done)) (va_up_self _ _ _))))) (by first | assumption | rfl | (simp only [nI_add, pk_mul, Nat.one_mul, Nat.mul_one, Nat.zero_add, Nat.add_zero, Nat.mul_zero]; done) | exact pk_sub (by omega) | (rw [pk_sub (by omega)]; first | done | (rw [nI_add]; done) | (rw [pk_sub (by omega)]; done) | (rw [pk_sub (by omega), nI_add]; done)) | (simp only [nI_add, pk_mul]; first | exact pk_sub (by omega) | (congr 1; omega)) | (congr 1; omega)) (by omega) (by omega) ?_
            rw [hf0 k (by omega)]
            refine pw_callV_i (pc := 39) cv_X5_86 dX5_fillNeeded_39 (by first | assumption | exact va_up_self _ _ _ | exact lk1 (by first | assumption | (apply Ne.symm; assumption) | (simp; done)) (by assumption) | exact lk1 (by first | assumption | (apply Ne.symm; assumption) | (simp; done)) (va_up_self _ _ _) | exact lk1 (by first | assumption | (apply Ne.symm; assumption) | (simp; done)) (lk1 (by first | assumption | (apply Ne.symm; assumption) | (simp; done)) (by assumption)) | exact lk1 (by first | assumption | (apply Ne.symm; assumption) | (simp; done)) (lk1 (by first | assumption | (apply Ne.symm; assumption) | (simp; done)) (va_up_self _ _ _)) | exact lk1 (by first | assumption | (apply Ne.symm; assumption) | (simp; done)) (lk1 (by first | assumption | (apply Ne.symm; assumption) | (simp; done)) (lk1 (by first | assumption | (apply Ne.symm; assumption) | (simp; done)) (by assumption))) | exact lk1 (by first | assumption | (apply Ne.symm; assumption) | (simp; done)) (lk1 (by first | assumption | (apply Ne.symm; assumption) | (simp; done)) (lk1 (by first | assumption | (apply Ne.symm; assumption) | (simp; done)) (va_up_self _ _ _))) | exact lk1 (by first | assumption | (apply Ne.symm; assumption) | (simp; done)) (lk1 (by first | assumption | (apply Ne.symm; assumption) | (simp; done)) (lk1 (by first | assumption | (apply Ne.symm; assumption) | (simp; done)) (lk1 (by first | assumption | (apply Ne.symm; assumption) | (simp; done)) (by assumption)))) | exact lk1 (by first | assumption | (apply Ne.symm; assumption) | (simp; done)) (lk1 (by first | assumption | (apply Ne.symm; assumption) | (simp; done)) (lk1 (by first | assumption | (apply Ne.symm; assumption) | (simp; done)) (lk1 (by first | assumption | (apply Ne.symm; assumption) | (simp; done)) (va_up_self _ _ _))))) rfl (c_withoutGaps hs' (f k)) rfl rfl (Nat.le_of_ble_eq_true rfl) ⟨(Nat.le_of_ble_eq_true rfl), (Nat.le_of_ble_eq_true rfl)⟩ ?_
            refine pw_iast (pc := 42) ((nmL al k).length) dX5_fillNeeded_42 (by first | assumption | exact va_up_self _ _ _ | exact lk1 (by first | assumption | (apply Ne.symm; assumption) | (simp; done)) (by assumption) | exact lk1 (by first | assumption | (apply Ne.symm; assumption) | (simp; done)) (va_up_self _ _ _) | exact lk1 (by first | assumption | (apply Ne.symm; assumption) | (simp; done)) (lk1 (by first | assumption | (apply Ne.symm; assumption) | (simp; done)) (by assumption)) | exact lk1 (by first | assumption | (apply Ne.symm; assumption) | (simp; done)) (lk1 (by first | assumption | (apply Ne.symm; assumption) | (simp; done)) (va_up_self _ _ _)) | exact lk1 (by first | assumption | (apply Ne.symm; assumption) | (simp; done)) (lk1 (by first | assumption | (apply Ne.symm; assumption) | (simp; done)) (lk1 (by first | assumption | (apply Ne.symm; assumption) | (simp; done)) (by assumption))) | exact lk1 (by first | assumption | (apply Ne.symm; assumption) | (simp; done)) (lk1 (by first | assumption | (apply Ne.symm; assumption) | (simp; done)) (lk1 (by first | assumption | (apply Ne.symm; assumption) | (simp; done)) (va_up_self _ _ _))) | exact lk1 (by first | assumption | (apply Ne.symm; assumption) | (simp; done)) (lk1 (by first | assumption | (apply Ne.symm; assumption) | (simp; done)) (lk1 (by first | assumption | (apply Ne.symm; assumption) | (simp; done)) (lk1 (by first | assumption | (apply Ne.symm; assumption) | (simp; done)) (by assumption)))) | exact lk1 (by first | assumption | (apply Ne.symm; assumption) | (simp; done)) (lk1 (by first | assumption | (apply Ne.symm; assumption) | (simp; done)) (lk1 (by first | assumption | (apply Ne.symm; assumption) | (simp; done)) (lk1 (by first | assumption | (apply Ne.symm; assumption) | (simp; done)) (va_up_self _ _ _))))) (by first | assumption | rfl | (simp only [nI_add, pk_mul, Nat.one_mul, Nat.mul_one, Nat.zero_add, Nat.add_zero, Nat.mul_zero]; done) | exact pk_sub (by omega) | (rw [pk_sub (by omega)]; first | done | (rw [nI_add]; done) | (rw [pk_sub (by omega)]; done) | (rw [pk_sub (by omega), nI_add]; done)) | (simp only [nI_add, pk_mul]; first | exact pk_sub (by omega) | (congr 1; omega)) | (congr 1; omega)) (by omega) (by omega) ?_
            refine pw_iinc1 (pc := 43) (nI ((nmL al k).length + 1)) dX5_fillNeeded_43 (Nat.le_of_ble_eq_true rfl) rfl (ni_inc _) ?_
            refine pw_iinc2 (pc := 46) (nI (k + 1)) dX5_fillNeeded_46 (Nat.le_of_ble_eq_true rfl) rfl (ni_inc _) ?_
            refine pw_goto (pc := 49) 4 dX5_fillNeeded_49 (by decide) ?_
            have := ih (k + 1) (upd g (nmL al k).length (nI (pkF al (f k) 26))) _ (by omega) (fun j hj => ?_) (va_up_self h' (s + 2) _) (fun q hq => by rw [va_up_ne _ _ hq]; exact xf q hq)
            · rw [e, List.length_append, List.length_singleton] at this
              exact this
            · rw [e] at hj ⊢
              rw [List.length_append, List.length_singleton] at hj
              by_cases ej : j = (nmL al k).length
              · subst ej
                rw [pk_us]
                simp [List.getD_eq_getElem?_getD]
              · rw [pk_un ej, hg j (by omega)]
                rw [List.getD_eq_getElem?_getD, List.getD_eq_getElem?_getD, List.getElem?_append_left (by omega)]
  refine PM.of [.ref s, .null, .null] rfl (Nat.le_of_ble_eq_true rfl) rfl ?_
  refine pw_iconst (pc := 0) (nI 0) dX5_fillNeeded_0 (by decide) ?_
  refine pw_ist1 (pc := 1) dX5_fillNeeded_1 (Nat.le_of_ble_eq_true rfl) rfl ?_
  refine pw_iconst (pc := 2) (nI 0) dX5_fillNeeded_2 (by decide) ?_
  refine pw_ist2 (pc := 3) dX5_fillNeeded_3 (Nat.le_of_ble_eq_true rfl) rfl ?_
  exact loop 26 0 g2 h (by omega) (fun j hj => absurd hj (Nat.not_lt_zero j)) s2 (fun _ _ => rfl)
end S2
