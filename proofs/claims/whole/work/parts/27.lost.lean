/-- the fewest links more, from al on -/
def lbF (lo hi m : Nat) (z : Int32) : Nat → Nat → Int32
  | _, 0 => -2
  | al, f + 1 => if (al : Int) ≤ z.toInt then (if ((al * lo : Nat) : Int) ≤ z.toInt ∧ z.toInt ≤ ((al * hi : Nat) : Int) then nI al - nI m else lbF lo hi m z (al + 1) f) else -2
def lbX (lo hi m : Nat) (z : Int32) : Int32 := lbF lo hi m z m 3000
theorem c_lostBetween {E : EV} {h : HP} {c n : Nat} {S : AS} (hc : clsP h c S) (lo hi m : Nat) (z : Int32) (el : sLo S = nI lo) (eh : sHi S = nI hi) (hl : lo ≤ 60) (hh : hi ≤ 60) (hm : m ≤ 100) (hz : z.toInt ≤ 2000) : PM E mX7_lostBetween [.ref c, .int (nI m), .int z] h n n 0 (QE (some (.int (lbX lo hi m z))) h) := by
  obtain ⟨c1, -⟩ := id hc
  rw [el, eh] at c1
  have loop : ∀ (f al : Nat), z.toInt < (al : Int) + f → m ≤ al → al ≤ 2001 + m → lbF lo hi m z al f = lbX lo hi m z → PW (KX E mX7_lostBetween n (QE (some (.int (lbX lo hi m z))) h)) 2 [.ref c, .int (nI m), .int z, .int (nI al)] [] h n 0 := by
    intro f
    induction f with
    | zero =>
      intro al h1 h2 h3 e
      refine pw_iload_n (pc := 2) dX7_lostBetween_2 rfl ?_
      refine pw_iload_n (pc := 3) dX7_lostBetween_3 rfl ?_
      refine pw_icmp_gt (pc := 4) 37 dX7_lostBetween_4 (by decide) (fun w => ?_) (fun w => ?_)
      · refine pw_bipush (pc := 37) (-2) dX7_lostBetween_37 (by decide) ?_
        refine pw_iret dX7_lostBetween_39 rfl ⟨?_, rfl⟩
        rw [← e]; rfl
      · rw [i32_lt, nI_toInt (by omega)] at w
        omega
    | succ f ih =>
      intro al h1 h2 h3 e
      have b1 : al * lo ≤ 2101 * 60 := Nat.mul_le_mul (by omega) hl
      have b2 : al * hi ≤ 2101 * 60 := Nat.mul_le_mul (by omega) hh
      refine pw_iload_n (pc := 2) dX7_lostBetween_2 rfl ?_
      refine pw_iload_n (pc := 3) dX7_lostBetween_3 rfl ?_
      refine pw_icmp_gt (pc := 4) 37 dX7_lostBetween_4 (by decide) (fun w => ?_) (fun w => ?_)
      · rw [i32_lt, nI_toInt (by omega)] at w
        refine pw_bipush (pc := 37) (-2) dX7_lostBetween_37 (by decide) ?_
        refine pw_iret dX7_lostBetween_39 rfl ⟨?_, rfl⟩
        rw [← e, lbF, if_neg (by omega)]
      · rw [i32_lt, nI_toInt (by omega)] at w
        refine pw_iload_n (pc := 7) dX7_lostBetween_7 rfl ?_
        refine pw_aload_n (pc := 8) dX7_lostBetween_8 rfl ?_
        refine pw_get (pc := 9) fg_X7_57 dX7_lostBetween_9 (by first | assumption | exact va_up_self _ _ _ | exact lk1 (by first | assumption | (apply Ne.symm; assumption) | (simp; done)) (by assumption) | exact lk1 (by first | assumption | (apply Ne.symm; assumption) | (simp; done)) (va_up_self _ _ _) | exact lk1 (by first | assumption | (apply Ne.symm; assumption) | (simp; done)) (lk1 (by first | assumption | (apply Ne.symm; assumption) | (simp; done)) (by assumption)) | exact lk1 (by first | assumption | (apply Ne.symm; assumption) | (simp; done)) (lk1 (by first | assumption | (apply Ne.symm; assumption) | (simp; done)) (va_up_self _ _ _)) | exact lk1 (by first | assumption | (apply Ne.symm; assumption) | (simp; done)) (lk1 (by first | assumption | (apply Ne.symm; assumption) | (simp; done)) (lk1 (by first | assumption | (apply Ne.symm; assumption) | (simp; done)) (by assumption))) | exact lk1 (by first | assumption | (apply Ne.symm; assumption) | (simp; done)) (lk1 (by first | assumption | (apply Ne.symm; assumption) | (simp; done)) (lk1 (by first | assumption | (apply Ne.symm; assumption) | (simp; done)) (va_up_self _ _ _))) | exact lk1 (by first | assumption | (apply Ne.symm; assumption) | (simp; done)) (lk1 (by first | assumption | (apply Ne.symm; assumption) | (simp; done)) (lk1 (by first | assumption | (apply Ne.symm; assumption) | (simp; done)) (lk1 (by first | assumption | (apply Ne.symm; assumption) | (simp; done)) (by assumption)))) | exact lk1 (by first | assumption | (apply Ne.symm; assumption) | (simp; done)) (lk1 (by first | assumption | (apply Ne.symm; assumption) | (simp; done)) (lk1 (by first | assumption | (apply Ne.symm; assumption) | (simp; done)) (lk1 (by first | assumption | (apply Ne.symm; assumption) | (simp; done)) (va_up_self _ _ _))))) (by rfl) ?_
        refine pw_imul (pc := 12) dX7_lostBetween_12 ?_
        refine pw_iload_n (pc := 13) dX7_lostBetween_13 rfl ?_
        refine pw_icmp_gt (pc := 14) 31 dX7_lostBetween_14 (by decide) (fun w2 => ?_) (fun w2 => ?_)
        · rw [i32_lt, pk_mul, nI_toInt (by omega)] at w2
          refine pw_iinc3 (pc := 31) (nI (al + 1)) dX7_lostBetween_31 (Nat.le_of_ble_eq_true rfl) rfl (ni_inc _) ?_
          refine pw_goto (pc := 34) 2 dX7_lostBetween_34 (by decide) ?_
          refine ih (al + 1) (by omega) (by omega) (by omega) ?_
          rw [← e, lbF, if_pos (by omega), if_neg (by omega)]
        · rw [i32_lt, pk_mul, nI_toInt (by omega)] at w2
          refine pw_iload_n (pc := 17) dX7_lostBetween_17 rfl ?_
          refine pw_iload_n (pc := 18) dX7_lostBetween_18 rfl ?_
          refine pw_aload_n (pc := 19) dX7_lostBetween_19 rfl ?_
          refine pw_get (pc := 20) fg_X7_61 dX7_lostBetween_20 (by first | assumption | exact va_up_self _ _ _ | exact lk1 (by first | assumption | (apply Ne.symm; assumption) | (simp; done)) (by assumption) | exact lk1 (by first | assumption | (apply Ne.symm; assumption) | (simp; done)) (va_up_self _ _ _) | exact lk1 (by first | assumption | (apply Ne.symm; assumption) | (simp; done)) (lk1 (by first | assumption | (apply Ne.symm; assumption) | (simp; done)) (by assumption)) | exact lk1 (by first | assumption | (apply Ne.symm; assumption) | (simp; done)) (lk1 (by first | assumption | (apply Ne.symm; assumption) | (simp; done)) (va_up_self _ _ _)) | exact lk1 (by first | assumption | (apply Ne.symm; assumption) | (simp; done)) (lk1 (by first | assumption | (apply Ne.symm; assumption) | (simp; done)) (lk1 (by first | assumption | (apply Ne.symm; assumption) | (simp; done)) (by assumption))) | exact lk1 (by first | assumption | (apply Ne.symm; assumption) | (simp; done)) (lk1 (by first | assumption | (apply Ne.symm; assumption) | (simp; done)) (lk1 (by first | assumption | (apply Ne.symm; assumption) | (simp; done)) (va_up_self _ _ _))) | exact lk1 (by first | assumption | (apply Ne.symm; assumption) | (simp; done)) (lk1 (by first | assumption | (apply Ne.symm; assumption) | (simp; done)) (lk1 (by first | assumption | (apply Ne.symm; assumption) | (simp; done)) (lk1 (by first | assumption | (apply Ne.symm; assumption) | (simp; done)) (by assumption)))) | exact lk1 (by first | assumption | (apply Ne.symm; assumption) | (simp; done)) (lk1 (by first | assumption | (apply Ne.symm; assumption) | (simp; done)) (lk1 (by first | assumption | (apply Ne.symm; assumption) | (simp; done)) (lk1 (by first | assumption | (apply Ne.symm; assumption) | (simp; done)) (va_up_self _ _ _))))) (by rfl) ?_
          refine pw_imul (pc := 23) dX7_lostBetween_23 ?_
          refine pw_icmp_gt (pc := 24) 31 dX7_lostBetween_24 (by decide) (fun w3 => ?_) (fun w3 => ?_)
          · rw [i32_lt, pk_mul, nI_toInt (by omega)] at w3
            refine pw_iinc3 (pc := 31) (nI (al + 1)) dX7_lostBetween_31 (Nat.le_of_ble_eq_true rfl) rfl (ni_inc _) ?_
            refine pw_goto (pc := 34) 2 dX7_lostBetween_34 (by decide) ?_
            refine ih (al + 1) (by omega) (by omega) (by omega) ?_
            rw [← e, lbF, if_pos (by omega), if_neg (by omega)]
          · rw [i32_lt, pk_mul, nI_toInt (by omega)] at w3
            refine pw_iload_n (pc := 27) dX7_lostBetween_27 rfl ?_
            refine pw_iload_n (pc := 28) dX7_lostBetween_28 rfl ?_
            refine pw_isub (pc := 29) dX7_lostBetween_29 ?_
            refine pw_iret dX7_lostBetween_30 rfl ⟨?_, rfl⟩
            rw [← e, lbF, if_pos (by omega), if_pos (by omega)]
  refine PM.of [.ref c, .int (nI m), .int z, .null] rfl (Nat.le_of_ble_eq_true rfl) rfl ?_
  refine pw_iload_n (pc := 0) dX7_lostBetween_0 rfl ?_
  refine pw_ist3 (pc := 1) dX7_lostBetween_1 (Nat.le_of_ble_eq_true rfl) rfl ?_
  exact loop 3000 m (by omega) (Nat.le_refl _) (by omega) rfl
def lsF (R : RecS) (lo hi i : Nat) : Option Nat → Int32 → Nat → Nat → Int32
  | _, sm, _, 0 => sm
  | lst, sm, j, m + 1 => if dtA R i j = -9 then lsF R lo hi i lst sm (j + 1) m else match lst with
    | none => lsF R lo hi i (some j) sm (j + 1) m
    | some l => if lbX lo hi (j - l) (dtA R i j - dtA R i l) = -2 then -2 else lsF R lo hi i (some j) (sm + lbX lo hi (j - l) (dtA R i j - dtA R i l)) (j + 1) m
def a_lost (S : AS) (i : Int32) : Int32 := if rg 0 3 i then lsF (sN S) (ixN (sLo S)) (ixN (sHi S)) (ixN i) none (nI 0) 0 (sLs S (ixN i)).length else -1
theorem dtA_rng {R : RecS} (hw : wfR R) {i k : Nat} (hi : i < 4) (hk : k < (R.1 i).length) : dtA R i k = -9 ∨ rg 0 2000 (dtA R i k) = true := by
  have hnm := (hw.1 i hi).2.2 _ (getD_mem hk)
  obtain ⟨j, hj, ej, ej2⟩ := rg_ix (hi := 25) hnm
  rw [dtA, ej2]
  exact hw.2.2.2 j (by omega)
theorem i32_sub {a b : Int32} (ha : 0 ≤ a.toInt ∧ a.toInt ≤ 100000) (hb : 0 ≤ b.toInt ∧ b.toInt ≤ 100000) : (a - b).toInt = a.toInt - b.toInt := by
  rw [Int32.toInt_sub]
  rw [Int.bmod_eq_of_le] <;> omega
theorem k_lost {E : EV} {h : HP} {c n : Nat} {S : AS} (hc : clsP h c S) (hws : wfS S) (i : Int32) : PM E mX7_lost [.ref c, .int i] h n n 0 (QE (some (.int (a_lost S i))) h) := by
  obtain ⟨c1, c2, c3, ⟨r1, ⟨q, r2, r3⟩, r4, r5, r6⟩, -⟩ := id hc
  have hw := hws.2.2.2.1
  obtain ⟨lo, hlo, el, el2⟩ := rg_ix (hi := 60) (rg_wide hws.2.2.2.2.2.2.1 (by omega) (by omega))
  obtain ⟨hi, hhi, eh, eh2⟩ := rg_ix (hi := 60) (rg_wide hws.2.2.2.2.2.2.2.1 (by omega) (by omega))
  have e9 : (-9 : Int32).toInt = -9 := by decide
  refine PM.of [.ref c, .int i, .null, .null, .null, .null, .null] rfl (Nat.le_of_ble_eq_true rfl) rfl ?_
  refine pw_iload_n (pc := 0) dX7_lost_0 rfl ?_
  refine pw_callS_i (pc := 1) cs_X7_83 dX7_lost_1 (c_isList i) rfl rfl (Nat.le_of_ble_eq_true rfl) ⟨(Nat.le_of_ble_eq_true rfl), (Nat.le_of_ble_eq_true rfl)⟩ ?_
  refine pw_if_ne_b (pc := 4) 9 dX7_lost_4 (by decide) (fun z => ?_) (fun z => ?_)
  · obtain ⟨p, hp, ei, ep⟩ := rg_ix (hi := 3) z
    obtain ⟨g, hr, hg⟩ := r6 p (by omega)
    obtain ⟨u1, u2, u3, u4⟩ := id hr
    have hq := r3 p (by omega)
    have loop : ∀ m j lst sm w1, j + m = ((sN S).1 p).length → (∀ l, lst = some l → l < j ∧ dtA (sN S) p l ≠ -9) → lsF (sN S) lo hi p lst sm j m = a_lost S i → PW (KX E mX7_lost n (QE (some (.int (a_lost S i))) h)) 28 [.ref c, .int i, .ref (c + 6 + 6 + 2 * p), .int sm, .int (oI lst), .int (nI j), w1] [] h n 0 := by
      intro m
      induction m with
      | zero =>
        intro j lst sm w1 hj hl e
        refine pw_iload (pc := 28) dX7_lost_28 rfl ?_
        refine pw_aload_n (pc := 30) dX7_lost_30 rfl ?_
        refine pw_get (pc := 31) fg_X7_99 dX7_lost_31 (by first | assumption | exact va_up_self _ _ _ | exact lk1 (by first | assumption | (apply Ne.symm; assumption) | (simp; done)) (by assumption) | exact lk1 (by first | assumption | (apply Ne.symm; assumption) | (simp; done)) (va_up_self _ _ _) | exact lk1 (by first | assumption | (apply Ne.symm; assumption) | (simp; done)) (lk1 (by first | assumption | (apply Ne.symm; assumption) | (simp; done)) (by assumption)) | exact lk1 (by first | assumption | (apply Ne.symm; assumption) | (simp; done)) (lk1 (by first | assumption | (apply Ne.symm; assumption) | (simp; done)) (va_up_self _ _ _)) | exact lk1 (by first | assumption | (apply Ne.symm; assumption) | (simp; done)) (lk1 (by first | assumption | (apply Ne.symm; assumption) | (simp; done)) (lk1 (by first | assumption | (apply Ne.symm; assumption) | (simp; done)) (by assumption))) | exact lk1 (by first | assumption | (apply Ne.symm; assumption) | (simp; done)) (lk1 (by first | assumption | (apply Ne.symm; assumption) | (simp; done)) (lk1 (by first | assumption | (apply Ne.symm; assumption) | (simp; done)) (va_up_self _ _ _))) | exact lk1 (by first | assumption | (apply Ne.symm; assumption) | (simp; done)) (lk1 (by first | assumption | (apply Ne.symm; assumption) | (simp; done)) (lk1 (by first | assumption | (apply Ne.symm; assumption) | (simp; done)) (lk1 (by first | assumption | (apply Ne.symm; assumption) | (simp; done)) (by assumption)))) | exact lk1 (by first | assumption | (apply Ne.symm; assumption) | (simp; done)) (lk1 (by first | assumption | (apply Ne.symm; assumption) | (simp; done)) (lk1 (by first | assumption | (apply Ne.symm; assumption) | (simp; done)) (lk1 (by first | assumption | (apply Ne.symm; assumption) | (simp; done)) (va_up_self _ _ _))))) (by rfl) ?_
        refine pw_icmp_ge_n (pc := 34) 110 dX7_lost_34 (by decide) (by omega) (by omega) (fun zb => ?_) (fun zb => ?_)
        · refine pw_iload_n (pc := 110) dX7_lost_110 rfl ?_
          refine pw_iret dX7_lost_111 rfl ⟨?_, rfl⟩
          rw [← e]; rfl
        · omega
      | succ m ih =>
        intro j lst sm w1 hj hl e
        have hjl : j < ((sN S).1 p).length := by omega
        refine pw_iload (pc := 28) dX7_lost_28 rfl ?_
        refine pw_aload_n (pc := 30) dX7_lost_30 rfl ?_
        refine pw_get (pc := 31) fg_X7_99 dX7_lost_31 (by first | assumption | exact va_up_self _ _ _ | exact lk1 (by first | assumption | (apply Ne.symm; assumption) | (simp; done)) (by assumption) | exact lk1 (by first | assumption | (apply Ne.symm; assumption) | (simp; done)) (va_up_self _ _ _) | exact lk1 (by first | assumption | (apply Ne.symm; assumption) | (simp; done)) (lk1 (by first | assumption | (apply Ne.symm; assumption) | (simp; done)) (by assumption)) | exact lk1 (by first | assumption | (apply Ne.symm; assumption) | (simp; done)) (lk1 (by first | assumption | (apply Ne.symm; assumption) | (simp; done)) (va_up_self _ _ _)) | exact lk1 (by first | assumption | (apply Ne.symm; assumption) | (simp; done)) (lk1 (by first | assumption | (apply Ne.symm; assumption) | (simp; done)) (lk1 (by first | assumption | (apply Ne.symm; assumption) | (simp; done)) (by assumption))) | exact lk1 (by first | assumption | (apply Ne.symm; assumption) | (simp; done)) (lk1 (by first | assumption | (apply Ne.symm; assumption) | (simp; done)) (lk1 (by first | assumption | (apply Ne.symm; assumption) | (simp; done)) (va_up_self _ _ _))) | exact lk1 (by first | assumption | (apply Ne.symm; assumption) | (simp; done)) (lk1 (by first | assumption | (apply Ne.symm; assumption) | (simp; done)) (lk1 (by first | assumption | (apply Ne.symm; assumption) | (simp; done)) (lk1 (by first | assumption | (apply Ne.symm; assumption) | (simp; done)) (by assumption)))) | exact lk1 (by first | assumption | (apply Ne.symm; assumption) | (simp; done)) (lk1 (by first | assumption | (apply Ne.symm; assumption) | (simp; done)) (lk1 (by first | assumption | (apply Ne.symm; assumption) | (simp; done)) (lk1 (by first | assumption | (apply Ne.symm; assumption) | (simp; done)) (va_up_self _ _ _))))) (by rfl) ?_
        refine pw_icmp_ge_n (pc := 34) 110 dX7_lost_34 (by decide) (by omega) (by omega) (fun zb => ?_) (fun zb => ?_)
        · omega
        · refine pw_aload_n (pc := 37) dX7_lost_37 rfl ?_
          refine pw_aload_n (pc := 38) dX7_lost_38 rfl ?_
          refine pw_iload (pc := 39) dX7_lost_39 rfl ?_
          refine pw_callV_i (pc := 41) cv_X7_230 dX7_lost_41 (by first | assumption | exact va_up_self _ _ _ | exact lk1 (by first | assumption | (apply Ne.symm; assumption) | (simp; done)) (by assumption) | exact lk1 (by first | assumption | (apply Ne.symm; assumption) | (simp; done)) (va_up_self _ _ _) | exact lk1 (by first | assumption | (apply Ne.symm; assumption) | (simp; done)) (lk1 (by first | assumption | (apply Ne.symm; assumption) | (simp; done)) (by assumption)) | exact lk1 (by first | assumption | (apply Ne.symm; assumption) | (simp; done)) (lk1 (by first | assumption | (apply Ne.symm; assumption) | (simp; done)) (va_up_self _ _ _)) | exact lk1 (by first | assumption | (apply Ne.symm; assumption) | (simp; done)) (lk1 (by first | assumption | (apply Ne.symm; assumption) | (simp; done)) (lk1 (by first | assumption | (apply Ne.symm; assumption) | (simp; done)) (by assumption))) | exact lk1 (by first | assumption | (apply Ne.symm; assumption) | (simp; done)) (lk1 (by first | assumption | (apply Ne.symm; assumption) | (simp; done)) (lk1 (by first | assumption | (apply Ne.symm; assumption) | (simp; done)) (va_up_self _ _ _))) | exact lk1 (by first | assumption | (apply Ne.symm; assumption) | (simp; done)) (lk1 (by first | assumption | (apply Ne.symm; assumption) | (simp; done)) (lk1 (by first | assumption | (apply Ne.symm; assumption) | (simp; done)) (lk1 (by first | assumption | (apply Ne.symm; assumption) | (simp; done)) (by assumption)))) | exact lk1 (by first | assumption | (apply Ne.symm; assumption) | (simp; done)) (lk1 (by first | assumption | (apply Ne.symm; assumption) | (simp; done)) (lk1 (by first | assumption | (apply Ne.symm; assumption) | (simp; done)) (lk1 (by first | assumption | (apply Ne.symm; assumption) | (simp; done)) (va_up_self _ _ _))))) rfl (c_dateAt hc hw p j (by omega) hjl) rfl rfl (Nat.le_of_ble_eq_true rfl) ⟨(Nat.le_of_ble_eq_true rfl), (Nat.le_of_ble_eq_true rfl)⟩ ?_
          refine pw_bipush (pc := 44) (-9) dX7_lost_44 (by decide) ?_
          refine pw_icmp_ne (pc := 46) 52 dX7_lost_46 (by decide) (fun z1 => ?_) (fun z1 => ?_)
          · have dj := rg_t ((dtA_rng hw (by omega) hjl).resolve_left z1)
            cases lst with
            | none =>
              refine pw_iload (pc := 52) dX7_lost_52 rfl ?_
              refine pw_bipush (pc := 54) (-9) dX7_lost_54 (by decide) ?_
              refine pw_icmp_eq (pc := 56) 100 dX7_lost_56 (by decide) (fun z2 => ?_) (fun z2 => ?_)
              · refine pw_iload (pc := 100) dX7_lost_100 rfl ?_
                refine pw_ist4 (pc := 102) dX7_lost_102 (Nat.le_of_ble_eq_true rfl) rfl ?_
                refine pw_iinc5 (pc := 104) (nI (j + 1)) dX7_lost_104 (Nat.le_of_ble_eq_true rfl) rfl (ni_inc _) ?_
                refine pw_goto (pc := 107) 28 dX7_lost_107 (by decide) ?_
                refine ih (j + 1) (some j) sm _ (by omega) (fun l hl2 => by cases hl2; exact ⟨by omega, z1⟩) ?_
                rw [← e, lsF, if_neg z1]
              · exact absurd rfl z2
            | some l =>
              obtain ⟨hlj, hld⟩ := hl l rfl
              have dl := rg_t ((dtA_rng hw (by omega) (show l < ((sN S).1 p).length by omega)).resolve_left hld)
              have hsub := i32_sub (a := dtA (sN S) p j) (b := dtA (sN S) p l) (by omega) (by omega)
              refine pw_iload (pc := 52) dX7_lost_52 rfl ?_
              refine pw_bipush (pc := 54) (-9) dX7_lost_54 (by decide) ?_
              refine pw_icmp_eq (pc := 56) 100 dX7_lost_56 (by decide) (fun z2 => ?_) (fun z2 => ?_)
              · exact absurd z2 (ni_ne9 (by omega))
              · refine pw_aload_n (pc := 59) dX7_lost_59 rfl ?_
                refine pw_iload (pc := 60) dX7_lost_60 rfl ?_
                refine pw_iload (pc := 62) dX7_lost_62 rfl ?_
                refine pw_isub (pc := 64) dX7_lost_64 ?_
                show PW (KX E mX7_lost n (QE (some (.int (a_lost S i))) h)) 65 _ (.int (nI j - nI l) :: _) h n 0
                rw [pk_sub (by omega)]
                refine pw_aload_n (pc := 65) dX7_lost_65 rfl ?_
                refine pw_aload_n (pc := 66) dX7_lost_66 rfl ?_
                refine pw_iload (pc := 67) dX7_lost_67 rfl ?_
                refine pw_callV_i (pc := 69) cv_X7_230 dX7_lost_69 (by first | assumption | exact va_up_self _ _ _ | exact lk1 (by first | assumption | (apply Ne.symm; assumption) | (simp; done)) (by assumption) | exact lk1 (by first | assumption | (apply Ne.symm; assumption) | (simp; done)) (va_up_self _ _ _) | exact lk1 (by first | assumption | (apply Ne.symm; assumption) | (simp; done)) (lk1 (by first | assumption | (apply Ne.symm; assumption) | (simp; done)) (by assumption)) | exact lk1 (by first | assumption | (apply Ne.symm; assumption) | (simp; done)) (lk1 (by first | assumption | (apply Ne.symm; assumption) | (simp; done)) (va_up_self _ _ _)) | exact lk1 (by first | assumption | (apply Ne.symm; assumption) | (simp; done)) (lk1 (by first | assumption | (apply Ne.symm; assumption) | (simp; done)) (lk1 (by first | assumption | (apply Ne.symm; assumption) | (simp; done)) (by assumption))) | exact lk1 (by first | assumption | (apply Ne.symm; assumption) | (simp; done)) (lk1 (by first | assumption | (apply Ne.symm; assumption) | (simp; done)) (lk1 (by first | assumption | (apply Ne.symm; assumption) | (simp; done)) (va_up_self _ _ _))) | exact lk1 (by first | assumption | (apply Ne.symm; assumption) | (simp; done)) (lk1 (by first | assumption | (apply Ne.symm; assumption) | (simp; done)) (lk1 (by first | assumption | (apply Ne.symm; assumption) | (simp; done)) (lk1 (by first | assumption | (apply Ne.symm; assumption) | (simp; done)) (by assumption)))) | exact lk1 (by first | assumption | (apply Ne.symm; assumption) | (simp; done)) (lk1 (by first | assumption | (apply Ne.symm; assumption) | (simp; done)) (lk1 (by first | assumption | (apply Ne.symm; assumption) | (simp; done)) (lk1 (by first | assumption | (apply Ne.symm; assumption) | (simp; done)) (va_up_self _ _ _))))) rfl (c_dateAt hc hw p j (by omega) hjl) rfl rfl (Nat.le_of_ble_eq_true rfl) ⟨(Nat.le_of_ble_eq_true rfl), (Nat.le_of_ble_eq_true rfl)⟩ ?_
                refine pw_aload_n (pc := 72) dX7_lost_72 rfl ?_
                refine pw_aload_n (pc := 73) dX7_lost_73 rfl ?_
                refine pw_iload (pc := 74) dX7_lost_74 rfl ?_
                refine pw_callV_i (pc := 76) cv_X7_230 dX7_lost_76 (by first | assumption | exact va_up_self _ _ _ | exact lk1 (by first | assumption | (apply Ne.symm; assumption) | (simp; done)) (by assumption) | exact lk1 (by first | assumption | (apply Ne.symm; assumption) | (simp; done)) (va_up_self _ _ _) | exact lk1 (by first | assumption | (apply Ne.symm; assumption) | (simp; done)) (lk1 (by first | assumption | (apply Ne.symm; assumption) | (simp; done)) (by assumption)) | exact lk1 (by first | assumption | (apply Ne.symm; assumption) | (simp; done)) (lk1 (by first | assumption | (apply Ne.symm; assumption) | (simp; done)) (va_up_self _ _ _)) | exact lk1 (by first | assumption | (apply Ne.symm; assumption) | (simp; done)) (lk1 (by first | assumption | (apply Ne.symm; assumption) | (simp; done)) (lk1 (by first | assumption | (apply Ne.symm; assumption) | (simp; done)) (by assumption))) | exact lk1 (by first | assumption | (apply Ne.symm; assumption) | (simp; done)) (lk1 (by first | assumption | (apply Ne.symm; assumption) | (simp; done)) (lk1 (by first | assumption | (apply Ne.symm; assumption) | (simp; done)) (va_up_self _ _ _))) | exact lk1 (by first | assumption | (apply Ne.symm; assumption) | (simp; done)) (lk1 (by first | assumption | (apply Ne.symm; assumption) | (simp; done)) (lk1 (by first | assumption | (apply Ne.symm; assumption) | (simp; done)) (lk1 (by first | assumption | (apply Ne.symm; assumption) | (simp; done)) (by assumption)))) | exact lk1 (by first | assumption | (apply Ne.symm; assumption) | (simp; done)) (lk1 (by first | assumption | (apply Ne.symm; assumption) | (simp; done)) (lk1 (by first | assumption | (apply Ne.symm; assumption) | (simp; done)) (lk1 (by first | assumption | (apply Ne.symm; assumption) | (simp; done)) (va_up_self _ _ _))))) rfl (c_dateAt hc hw p l (by omega) (by omega)) rfl rfl (Nat.le_of_ble_eq_true rfl) ⟨(Nat.le_of_ble_eq_true rfl), (Nat.le_of_ble_eq_true rfl)⟩ ?_
                refine pw_isub (pc := 79) dX7_lost_79 ?_
                refine pw_callV_i (pc := 80) cv_X7_233 dX7_lost_80 (by first | assumption | exact va_up_self _ _ _ | exact lk1 (by first | assumption | (apply Ne.symm; assumption) | (simp; done)) (by assumption) | exact lk1 (by first | assumption | (apply Ne.symm; assumption) | (simp; done)) (va_up_self _ _ _) | exact lk1 (by first | assumption | (apply Ne.symm; assumption) | (simp; done)) (lk1 (by first | assumption | (apply Ne.symm; assumption) | (simp; done)) (by assumption)) | exact lk1 (by first | assumption | (apply Ne.symm; assumption) | (simp; done)) (lk1 (by first | assumption | (apply Ne.symm; assumption) | (simp; done)) (va_up_self _ _ _)) | exact lk1 (by first | assumption | (apply Ne.symm; assumption) | (simp; done)) (lk1 (by first | assumption | (apply Ne.symm; assumption) | (simp; done)) (lk1 (by first | assumption | (apply Ne.symm; assumption) | (simp; done)) (by assumption))) | exact lk1 (by first | assumption | (apply Ne.symm; assumption) | (simp; done)) (lk1 (by first | assumption | (apply Ne.symm; assumption) | (simp; done)) (lk1 (by first | assumption | (apply Ne.symm; assumption) | (simp; done)) (va_up_self _ _ _))) | exact lk1 (by first | assumption | (apply Ne.symm; assumption) | (simp; done)) (lk1 (by first | assumption | (apply Ne.symm; assumption) | (simp; done)) (lk1 (by first | assumption | (apply Ne.symm; assumption) | (simp; done)) (lk1 (by first | assumption | (apply Ne.symm; assumption) | (simp; done)) (by assumption)))) | exact lk1 (by first | assumption | (apply Ne.symm; assumption) | (simp; done)) (lk1 (by first | assumption | (apply Ne.symm; assumption) | (simp; done)) (lk1 (by first | assumption | (apply Ne.symm; assumption) | (simp; done)) (lk1 (by first | assumption | (apply Ne.symm; assumption) | (simp; done)) (va_up_self _ _ _))))) rfl (c_lostBetween hc lo hi (j - l) _ el eh (by omega) (by omega) (by omega) (by omega)) rfl rfl (Nat.le_of_ble_eq_true rfl) ⟨(Nat.le_of_ble_eq_true rfl), (Nat.le_of_ble_eq_true rfl)⟩ ?_
                refine pw_ist6 (pc := 83) dX7_lost_83 (Nat.le_of_ble_eq_true rfl) rfl ?_
                refine pw_iload (pc := 85) dX7_lost_85 rfl ?_
                refine pw_bipush (pc := 87) (-2) dX7_lost_87 (by decide) ?_
                refine pw_icmp_ne (pc := 89) 95 dX7_lost_89 (by decide) (fun z3 => ?_) (fun z3 => ?_)
                · refine pw_iload_n (pc := 95) dX7_lost_95 rfl ?_
                  refine pw_iload (pc := 96) dX7_lost_96 rfl ?_
                  refine pw_iadd (pc := 98) dX7_lost_98 ?_
                  refine pw_ist3 (pc := 99) dX7_lost_99 (Nat.le_of_ble_eq_true rfl) rfl ?_
                  refine pw_iload (pc := 100) dX7_lost_100 rfl ?_
                  refine pw_ist4 (pc := 102) dX7_lost_102 (Nat.le_of_ble_eq_true rfl) rfl ?_
                  refine pw_iinc5 (pc := 104) (nI (j + 1)) dX7_lost_104 (Nat.le_of_ble_eq_true rfl) rfl (ni_inc _) ?_
                  refine pw_goto (pc := 107) 28 dX7_lost_107 (by decide) ?_
                  refine ih (j + 1) (some j) _ _ (by omega) (fun l2 hl2 => by cases hl2; exact ⟨by omega, z1⟩) ?_
                  rw [← e, lsF, if_neg z1]
                  rw [if_neg z3]
                · refine pw_bipush (pc := 92) (-2) dX7_lost_92 (by decide) ?_
                  refine pw_iret dX7_lost_94 rfl ⟨?_, rfl⟩
                  rw [← e, lsF, if_neg z1]
                  rw [if_pos z3]
          · refine pw_goto (pc := 49) 104 dX7_lost_49 (by decide) ?_
            refine pw_iinc5 (pc := 104) (nI (j + 1)) dX7_lost_104 (Nat.le_of_ble_eq_true rfl) rfl (ni_inc _) ?_
            refine pw_goto (pc := 107) 28 dX7_lost_107 (by decide) ?_
            refine ih (j + 1) lst sm _ (by omega) (fun l hl2 => ⟨by have := (hl l hl2).1; omega, (hl l hl2).2⟩) ?_
            rw [← e]
            cases lst <;> (conv => rhs; rw [lsF, if_pos z1])
    refine pw_aload_n (pc := 9) dX7_lost_9 rfl ?_
    refine pw_get (pc := 10) fg_X7_26 dX7_lost_10 (by first | assumption | exact va_up_self _ _ _ | exact lk1 (by first | assumption | (apply Ne.symm; assumption) | (simp; done)) (by assumption) | exact lk1 (by first | assumption | (apply Ne.symm; assumption) | (simp; done)) (va_up_self _ _ _) | exact lk1 (by first | assumption | (apply Ne.symm; assumption) | (simp; done)) (lk1 (by first | assumption | (apply Ne.symm; assumption) | (simp; done)) (by assumption)) | exact lk1 (by first | assumption | (apply Ne.symm; assumption) | (simp; done)) (lk1 (by first | assumption | (apply Ne.symm; assumption) | (simp; done)) (va_up_self _ _ _)) | exact lk1 (by first | assumption | (apply Ne.symm; assumption) | (simp; done)) (lk1 (by first | assumption | (apply Ne.symm; assumption) | (simp; done)) (lk1 (by first | assumption | (apply Ne.symm; assumption) | (simp; done)) (by assumption))) | exact lk1 (by first | assumption | (apply Ne.symm; assumption) | (simp; done)) (lk1 (by first | assumption | (apply Ne.symm; assumption) | (simp; done)) (lk1 (by first | assumption | (apply Ne.symm; assumption) | (simp; done)) (va_up_self _ _ _))) | exact lk1 (by first | assumption | (apply Ne.symm; assumption) | (simp; done)) (lk1 (by first | assumption | (apply Ne.symm; assumption) | (simp; done)) (lk1 (by first | assumption | (apply Ne.symm; assumption) | (simp; done)) (lk1 (by first | assumption | (apply Ne.symm; assumption) | (simp; done)) (by assumption)))) | exact lk1 (by first | assumption | (apply Ne.symm; assumption) | (simp; done)) (lk1 (by first | assumption | (apply Ne.symm; assumption) | (simp; done)) (lk1 (by first | assumption | (apply Ne.symm; assumption) | (simp; done)) (lk1 (by first | assumption | (apply Ne.symm; assumption) | (simp; done)) (va_up_self _ _ _))))) (by rfl) ?_
    refine pw_get (pc := 13) fg_X7_90 dX7_lost_13 (by first | assumption | exact va_up_self _ _ _ | exact lk1 (by first | assumption | (apply Ne.symm; assumption) | (simp; done)) (by assumption) | exact lk1 (by first | assumption | (apply Ne.symm; assumption) | (simp; done)) (va_up_self _ _ _) | exact lk1 (by first | assumption | (apply Ne.symm; assumption) | (simp; done)) (lk1 (by first | assumption | (apply Ne.symm; assumption) | (simp; done)) (by assumption)) | exact lk1 (by first | assumption | (apply Ne.symm; assumption) | (simp; done)) (lk1 (by first | assumption | (apply Ne.symm; assumption) | (simp; done)) (va_up_self _ _ _)) | exact lk1 (by first | assumption | (apply Ne.symm; assumption) | (simp; done)) (lk1 (by first | assumption | (apply Ne.symm; assumption) | (simp; done)) (lk1 (by first | assumption | (apply Ne.symm; assumption) | (simp; done)) (by assumption))) | exact lk1 (by first | assumption | (apply Ne.symm; assumption) | (simp; done)) (lk1 (by first | assumption | (apply Ne.symm; assumption) | (simp; done)) (lk1 (by first | assumption | (apply Ne.symm; assumption) | (simp; done)) (va_up_self _ _ _))) | exact lk1 (by first | assumption | (apply Ne.symm; assumption) | (simp; done)) (lk1 (by first | assumption | (apply Ne.symm; assumption) | (simp; done)) (lk1 (by first | assumption | (apply Ne.symm; assumption) | (simp; done)) (lk1 (by first | assumption | (apply Ne.symm; assumption) | (simp; done)) (by assumption)))) | exact lk1 (by first | assumption | (apply Ne.symm; assumption) | (simp; done)) (lk1 (by first | assumption | (apply Ne.symm; assumption) | (simp; done)) (lk1 (by first | assumption | (apply Ne.symm; assumption) | (simp; done)) (lk1 (by first | assumption | (apply Ne.symm; assumption) | (simp; done)) (va_up_self _ _ _))))) (by rfl) ?_
    refine pw_iload_n (pc := 16) dX7_lost_16 rfl ?_
    refine pw_aald (pc := 17) (p) dX7_lost_17 (by first | assumption | exact va_up_self _ _ _ | exact lk1 (by first | assumption | (apply Ne.symm; assumption) | (simp; done)) (by assumption) | exact lk1 (by first | assumption | (apply Ne.symm; assumption) | (simp; done)) (va_up_self _ _ _) | exact lk1 (by first | assumption | (apply Ne.symm; assumption) | (simp; done)) (lk1 (by first | assumption | (apply Ne.symm; assumption) | (simp; done)) (by assumption)) | exact lk1 (by first | assumption | (apply Ne.symm; assumption) | (simp; done)) (lk1 (by first | assumption | (apply Ne.symm; assumption) | (simp; done)) (va_up_self _ _ _)) | exact lk1 (by first | assumption | (apply Ne.symm; assumption) | (simp; done)) (lk1 (by first | assumption | (apply Ne.symm; assumption) | (simp; done)) (lk1 (by first | assumption | (apply Ne.symm; assumption) | (simp; done)) (by assumption))) | exact lk1 (by first | assumption | (apply Ne.symm; assumption) | (simp; done)) (lk1 (by first | assumption | (apply Ne.symm; assumption) | (simp; done)) (lk1 (by first | assumption | (apply Ne.symm; assumption) | (simp; done)) (va_up_self _ _ _))) | exact lk1 (by first | assumption | (apply Ne.symm; assumption) | (simp; done)) (lk1 (by first | assumption | (apply Ne.symm; assumption) | (simp; done)) (lk1 (by first | assumption | (apply Ne.symm; assumption) | (simp; done)) (lk1 (by first | assumption | (apply Ne.symm; assumption) | (simp; done)) (by assumption)))) | exact lk1 (by first | assumption | (apply Ne.symm; assumption) | (simp; done)) (lk1 (by first | assumption | (apply Ne.symm; assumption) | (simp; done)) (lk1 (by first | assumption | (apply Ne.symm; assumption) | (simp; done)) (lk1 (by first | assumption | (apply Ne.symm; assumption) | (simp; done)) (va_up_self _ _ _))))) (by first | assumption | rfl | (simp only [nI_add, pk_mul, Nat.one_mul, Nat.mul_one, Nat.zero_add, Nat.add_zero, Nat.mul_zero]; done) | exact pk_sub (by omega) | (rw [pk_sub (by omega)]; first | done | (rw [nI_add]; done) | (rw [pk_sub (by omega)]; done) | (rw [pk_sub (by omega), nI_add]; done)) | (simp only [nI_add, pk_mul]; first | exact pk_sub (by omega) | (congr 1; omega)) | (congr 1; omega)) (by omega) (by omega) (by first | assumption | exact va_up_self _ _ _ | exact lk1 (by first | assumption | (apply Ne.symm; assumption) | (simp; done)) (by assumption) | exact lk1 (by first | assumption | (apply Ne.symm; assumption) | (simp; done)) (va_up_self _ _ _) | exact lk1 (by first | assumption | (apply Ne.symm; assumption) | (simp; done)) (lk1 (by first | assumption | (apply Ne.symm; assumption) | (simp; done)) (by assumption)) | exact lk1 (by first | assumption | (apply Ne.symm; assumption) | (simp; done)) (lk1 (by first | assumption | (apply Ne.symm; assumption) | (simp; done)) (va_up_self _ _ _)) | exact lk1 (by first | assumption | (apply Ne.symm; assumption) | (simp; done)) (lk1 (by first | assumption | (apply Ne.symm; assumption) | (simp; done)) (lk1 (by first | assumption | (apply Ne.symm; assumption) | (simp; done)) (by assumption))) | exact lk1 (by first | assumption | (apply Ne.symm; assumption) | (simp; done)) (lk1 (by first | assumption | (apply Ne.symm; assumption) | (simp; done)) (lk1 (by first | assumption | (apply Ne.symm; assumption) | (simp; done)) (va_up_self _ _ _))) | exact lk1 (by first | assumption | (apply Ne.symm; assumption) | (simp; done)) (lk1 (by first | assumption | (apply Ne.symm; assumption) | (simp; done)) (lk1 (by first | assumption | (apply Ne.symm; assumption) | (simp; done)) (lk1 (by first | assumption | (apply Ne.symm; assumption) | (simp; done)) (by assumption)))) | exact lk1 (by first | assumption | (apply Ne.symm; assumption) | (simp; done)) (lk1 (by first | assumption | (apply Ne.symm; assumption) | (simp; done)) (lk1 (by first | assumption | (apply Ne.symm; assumption) | (simp; done)) (lk1 (by first | assumption | (apply Ne.symm; assumption) | (simp; done)) (va_up_self _ _ _))))) ?_
    refine pw_ast2 (pc := 18) dX7_lost_18 (Nat.le_of_ble_eq_true rfl) rfl ?_
    refine pw_iconst (pc := 19) (nI 0) dX7_lost_19 (by decide) ?_
    refine pw_ist3 (pc := 20) dX7_lost_20 (Nat.le_of_ble_eq_true rfl) rfl ?_
    refine pw_bipush (pc := 21) (-9) dX7_lost_21 (by decide) ?_
    refine pw_ist4 (pc := 23) dX7_lost_23 (Nat.le_of_ble_eq_true rfl) rfl ?_
    refine pw_iconst (pc := 25) (nI 0) dX7_lost_25 (by decide) ?_
    refine pw_ist5 (pc := 26) dX7_lost_26 (Nat.le_of_ble_eq_true rfl) rfl ?_
    refine loop ((sN S).1 p).length 0 none (nI 0) _ (by omega) (fun l hl => by cases hl) ?_
    rw [a_lost, z, if_pos rfl, ep, el2, eh2]
  · refine pw_iconst (pc := 7) (-1) dX7_lost_7 (by decide) ?_
    refine pw_iret dX7_lost_8 rfl ⟨?_, rfl⟩
    rw [a_lost, z]; rfl
