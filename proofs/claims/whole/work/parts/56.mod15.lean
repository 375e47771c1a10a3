/-! the reference: years -/
section Y1
variable {E : EV} {h : HP} {n m a : Nat} {fs : List Value} {g : Nat → Int32} {R : RecS}
theorem c_mdateAt (hm : h m = some (.inr (8, fs))) (h2 : fs[2]? = some (.ref a)) (ha : h a = some (.inl (0, 90, .inl g))) (hs : sHold g 0 R) (hw : wfR R) (i k : Nat) (hi : i < 4) (hk : k < (R.1 i).length) : PM E mX8_dateAt [.ref m, .int (nI i), .int (nI k)] h n n 0 (QE (some (.int (dtA R i k))) h) := by
  have hl := (hw.1 i hi).1
  obtain ⟨j, hj, ej, ej2⟩ := rg_ix (hi := 25) ((hw.1 i hi).2.2 _ (mem_getD hk))
  refine PM.of [.ref m, .int (nI i), .int (nI k)] rfl (Nat.le_of_ble_eq_true rfl) rfl ?_
  refine pw_aload_n (pc := 0) dX8_dateAt_0 rfl ?_
  refine pw_get (pc := 1) fg_X8_7 dX8_dateAt_1 (by first | assumption | exact va_up_self _ _ _ | exact lk1 (by first | assumption | (apply Ne.symm; assumption) | (simp; done)) (by assumption) | exact lk1 (by first | assumption | (apply Ne.symm; assumption) | (simp; done)) (va_up_self _ _ _) | exact lk1 (by first | assumption | (apply Ne.symm; assumption) | (simp; done)) (lk1 (by first | assumption | (apply Ne.symm; assumption) | (simp; done)) (by assumption)) | exact lk1 (by first | assumption | (apply Ne.symm; assumption) | (simp; done)) (lk1 (by first | assumption | (apply Ne.symm; assumption) | (simp; done)) (va_up_self _ _ _)) | exact lk1 (by first | assumption | (apply Ne.symm; assumption) | (simp; done)) (lk1 (by first | assumption | (apply Ne.symm; assumption) | (simp; done)) (lk1 (by first | assumption | (apply Ne.symm; assumption) | (simp; done)) (by assumption))) | exact lk1 (by first | assumption | (apply Ne.symm; assumption) | (simp; done)) (lk1 (by first | assumption | (apply Ne.symm; assumption) | (simp; done)) (lk1 (by first | assumption | (apply Ne.symm; assumption) | (simp; done)) (va_up_self _ _ _))) | exact lk1 (by first | assumption | (apply Ne.symm; assumption) | (simp; done)) (lk1 (by first | assumption | (apply Ne.symm; assumption) | (simp; done)) (lk1 (by first | assumption | (apply Ne.symm; assumption) | (simp; done)) (lk1 (by first | assumption | (apply Ne.symm; assumption) | (simp; done)) (by assumption)))) | exact lk1 (by first | assumption | (apply Ne.symm; assumption) | (simp; done)) (lk1 (by first | assumption | (apply Ne.symm; assumption) | (simp; done)) (lk1 (by first | assumption | (apply Ne.symm; assumption) | (simp; done)) (lk1 (by first | assumption | (apply Ne.symm; assumption) | (simp; done)) (va_up_self _ _ _))))) (by first | rfl | assumption) ?_
  refine pw_bipush (pc := 4) (nI 64) dX8_dateAt_4 (by decide) ?_
  refine pw_aload_n (pc := 6) dX8_dateAt_6 rfl ?_
  refine pw_iload_n (pc := 7) dX8_dateAt_7 rfl ?_
  refine pw_iload_n (pc := 8) dX8_dateAt_8 rfl ?_
  refine pw_callV_i (pc := 9) cv_X8_72 dX8_dateAt_9 (by first | assumption | exact va_up_self _ _ _ | exact lk1 (by first | assumption | (apply Ne.symm; assumption) | (simp; done)) (by assumption) | exact lk1 (by first | assumption | (apply Ne.symm; assumption) | (simp; done)) (va_up_self _ _ _) | exact lk1 (by first | assumption | (apply Ne.symm; assumption) | (simp; done)) (lk1 (by first | assumption | (apply Ne.symm; assumption) | (simp; done)) (by assumption)) | exact lk1 (by first | assumption | (apply Ne.symm; assumption) | (simp; done)) (lk1 (by first | assumption | (apply Ne.symm; assumption) | (simp; done)) (va_up_self _ _ _)) | exact lk1 (by first | assumption | (apply Ne.symm; assumption) | (simp; done)) (lk1 (by first | assumption | (apply Ne.symm; assumption) | (simp; done)) (lk1 (by first | assumption | (apply Ne.symm; assumption) | (simp; done)) (by assumption))) | exact lk1 (by first | assumption | (apply Ne.symm; assumption) | (simp; done)) (lk1 (by first | assumption | (apply Ne.symm; assumption) | (simp; done)) (lk1 (by first | assumption | (apply Ne.symm; assumption) | (simp; done)) (va_up_self _ _ _))) | exact lk1 (by first | assumption | (apply Ne.symm; assumption) | (simp; done)) (lk1 (by first | assumption | (apply Ne.symm; assumption) | (simp; done)) (lk1 (by first | assumption | (apply Ne.symm; assumption) | (simp; done)) (lk1 (by first | assumption | (apply Ne.symm; assumption) | (simp; done)) (by assumption)))) | exact lk1 (by first | assumption | (apply Ne.symm; assumption) | (simp; done)) (lk1 (by first | assumption | (apply Ne.symm; assumption) | (simp; done)) (lk1 (by first | assumption | (apply Ne.symm; assumption) | (simp; done)) (lk1 (by first | assumption | (apply Ne.symm; assumption) | (simp; done)) (va_up_self _ _ _))))) rfl (c_mat hm h2 ha i k hi (by omega)) rfl rfl (Nat.le_of_ble_eq_true rfl) ⟨(Nat.le_of_ble_eq_true rfl), (Nat.le_of_ble_eq_true rfl)⟩ ?_
  rw [hs.z.2.1 i hi k hk, ej]
  refine pw_iadd (pc := 12) dX8_dateAt_12 ?_
  refine pw_iald (pc := 13) (64 + j) dX8_dateAt_13 (by first | assumption | exact va_up_self _ _ _ | exact lk1 (by first | assumption | (apply Ne.symm; assumption) | (simp; done)) (by assumption) | exact lk1 (by first | assumption | (apply Ne.symm; assumption) | (simp; done)) (va_up_self _ _ _) | exact lk1 (by first | assumption | (apply Ne.symm; assumption) | (simp; done)) (lk1 (by first | assumption | (apply Ne.symm; assumption) | (simp; done)) (by assumption)) | exact lk1 (by first | assumption | (apply Ne.symm; assumption) | (simp; done)) (lk1 (by first | assumption | (apply Ne.symm; assumption) | (simp; done)) (va_up_self _ _ _)) | exact lk1 (by first | assumption | (apply Ne.symm; assumption) | (simp; done)) (lk1 (by first | assumption | (apply Ne.symm; assumption) | (simp; done)) (lk1 (by first | assumption | (apply Ne.symm; assumption) | (simp; done)) (by assumption))) | exact lk1 (by first | assumption | (apply Ne.symm; assumption) | (simp; done)) (lk1 (by first | assumption | (apply Ne.symm; assumption) | (simp; done)) (lk1 (by first | assumption | (apply Ne.symm; assumption) | (simp; done)) (va_up_self _ _ _))) | exact lk1 (by first | assumption | (apply Ne.symm; assumption) | (simp; done)) (lk1 (by first | assumption | (apply Ne.symm; assumption) | (simp; done)) (lk1 (by first | assumption | (apply Ne.symm; assumption) | (simp; done)) (lk1 (by first | assumption | (apply Ne.symm; assumption) | (simp; done)) (by assumption)))) | exact lk1 (by first | assumption | (apply Ne.symm; assumption) | (simp; done)) (lk1 (by first | assumption | (apply Ne.symm; assumption) | (simp; done)) (lk1 (by first | assumption | (apply Ne.symm; assumption) | (simp; done)) (lk1 (by first | assumption | (apply Ne.symm; assumption) | (simp; done)) (va_up_self _ _ _))))) (by first | assumption | rfl | (simp only [nI_add, pk_mul, Nat.one_mul, Nat.mul_one, Nat.zero_add, Nat.add_zero, Nat.mul_zero]; done) | exact pk_sub (by omega) | (rw [pk_sub (by omega)]; first | done | (rw [nI_add]; done) | (rw [pk_sub (by omega)]; done) | (rw [pk_sub (by omega), nI_add]; done)) | (simp only [nI_add, pk_mul]; first | exact pk_sub (by omega) | (congr 1; omega)) | (congr 1; omega)) (by omega) (by omega) ?_
  refine pw_iret dX8_dateAt_14 rfl ⟨?_, rfl⟩
  rw [hs.z.2.2.2.2 j (by omega), dtA, ej2]
abbrev wiB (R : RecS) (lo hi : Int32) (i j k : Nat) : Bool := rg (lo * nI (k - j)).toInt (hi * nI (k - j)).toInt (dtA R i k - dtA R i j)
theorem c_misWithin {lo hi' : Int32} (hm : h m = some (.inr (8, fs))) (h2 : fs[2]? = some (.ref a)) (h13 : fs[13]? = some (.int lo)) (h14 : fs[14]? = some (.int hi')) (ha : h a = some (.inl (0, 90, .inl g))) (hs : sHold g 0 R) (hw : wfR R) (i j k : Nat) (hi : i < 4) (hjk : j < k) (hk : k < (R.1 i).length) : PM E mX8_isWithin [.ref m, .int (nI i), .int (nI j), .int (nI k)] h n n 0 (QE (some (.int (bI (wiB R lo hi' i j k)))) h) := by
  have hl := (hw.1 i hi).1
  refine PM.of [.ref m, .int (nI i), .int (nI j), .int (nI k), .null] rfl (Nat.le_of_ble_eq_true rfl) rfl ?_
  refine pw_aload_n (pc := 0) dX8_isWithin_0 rfl ?_
  refine pw_iload_n (pc := 1) dX8_isWithin_1 rfl ?_
  refine pw_iload_n (pc := 2) dX8_isWithin_2 rfl ?_
  refine pw_callV_i (pc := 3) cv_X8_183 dX8_isWithin_3 (by first | assumption | exact va_up_self _ _ _ | exact lk1 (by first | assumption | (apply Ne.symm; assumption) | (simp; done)) (by assumption) | exact lk1 (by first | assumption | (apply Ne.symm; assumption) | (simp; done)) (va_up_self _ _ _) | exact lk1 (by first | assumption | (apply Ne.symm; assumption) | (simp; done)) (lk1 (by first | assumption | (apply Ne.symm; assumption) | (simp; done)) (by assumption)) | exact lk1 (by first | assumption | (apply Ne.symm; assumption) | (simp; done)) (lk1 (by first | assumption | (apply Ne.symm; assumption) | (simp; done)) (va_up_self _ _ _)) | exact lk1 (by first | assumption | (apply Ne.symm; assumption) | (simp; done)) (lk1 (by first | assumption | (apply Ne.symm; assumption) | (simp; done)) (lk1 (by first | assumption | (apply Ne.symm; assumption) | (simp; done)) (by assumption))) | exact lk1 (by first | assumption | (apply Ne.symm; assumption) | (simp; done)) (lk1 (by first | assumption | (apply Ne.symm; assumption) | (simp; done)) (lk1 (by first | assumption | (apply Ne.symm; assumption) | (simp; done)) (va_up_self _ _ _))) | exact lk1 (by first | assumption | (apply Ne.symm; assumption) | (simp; done)) (lk1 (by first | assumption | (apply Ne.symm; assumption) | (simp; done)) (lk1 (by first | assumption | (apply Ne.symm; assumption) | (simp; done)) (lk1 (by first | assumption | (apply Ne.symm; assumption) | (simp; done)) (by assumption)))) | exact lk1 (by first | assumption | (apply Ne.symm; assumption) | (simp; done)) (lk1 (by first | assumption | (apply Ne.symm; assumption) | (simp; done)) (lk1 (by first | assumption | (apply Ne.symm; assumption) | (simp; done)) (lk1 (by first | assumption | (apply Ne.symm; assumption) | (simp; done)) (va_up_self _ _ _))))) rfl (c_mdateAt hm h2 ha hs hw i k hi hk) rfl rfl (Nat.le_of_ble_eq_true rfl) ⟨(Nat.le_of_ble_eq_true rfl), (Nat.le_of_ble_eq_true rfl)⟩ ?_
  refine pw_aload_n (pc := 6) dX8_isWithin_6 rfl ?_
  refine pw_iload_n (pc := 7) dX8_isWithin_7 rfl ?_
  refine pw_iload_n (pc := 8) dX8_isWithin_8 rfl ?_
  refine pw_callV_i (pc := 9) cv_X8_183 dX8_isWithin_9 (by first | assumption | exact va_up_self _ _ _ | exact lk1 (by first | assumption | (apply Ne.symm; assumption) | (simp; done)) (by assumption) | exact lk1 (by first | assumption | (apply Ne.symm; assumption) | (simp; done)) (va_up_self _ _ _) | exact lk1 (by first | assumption | (apply Ne.symm; assumption) | (simp; done)) (lk1 (by first | assumption | (apply Ne.symm; assumption) | (simp; done)) (by assumption)) | exact lk1 (by first | assumption | (apply Ne.symm; assumption) | (simp; done)) (lk1 (by first | assumption | (apply Ne.symm; assumption) | (simp; done)) (va_up_self _ _ _)) | exact lk1 (by first | assumption | (apply Ne.symm; assumption) | (simp; done)) (lk1 (by first | assumption | (apply Ne.symm; assumption) | (simp; done)) (lk1 (by first | assumption | (apply Ne.symm; assumption) | (simp; done)) (by assumption))) | exact lk1 (by first | assumption | (apply Ne.symm; assumption) | (simp; done)) (lk1 (by first | assumption | (apply Ne.symm; assumption) | (simp; done)) (lk1 (by first | assumption | (apply Ne.symm; assumption) | (simp; done)) (va_up_self _ _ _))) | exact lk1 (by first | assumption | (apply Ne.symm; assumption) | (simp; done)) (lk1 (by first | assumption | (apply Ne.symm; assumption) | (simp; done)) (lk1 (by first | assumption | (apply Ne.symm; assumption) | (simp; done)) (lk1 (by first | assumption | (apply Ne.symm; assumption) | (simp; done)) (by assumption)))) | exact lk1 (by first | assumption | (apply Ne.symm; assumption) | (simp; done)) (lk1 (by first | assumption | (apply Ne.symm; assumption) | (simp; done)) (lk1 (by first | assumption | (apply Ne.symm; assumption) | (simp; done)) (lk1 (by first | assumption | (apply Ne.symm; assumption) | (simp; done)) (va_up_self _ _ _))))) rfl (c_mdateAt hm h2 ha hs hw i j hi (by omega)) rfl rfl (Nat.le_of_ble_eq_true rfl) ⟨(Nat.le_of_ble_eq_true rfl), (Nat.le_of_ble_eq_true rfl)⟩ ?_
  refine pw_isub (pc := 12) dX8_isWithin_12 ?_
  refine pw_ist4 (pc := 13) dX8_isWithin_13 (Nat.le_of_ble_eq_true rfl) rfl ?_
  refine pw_iload (pc := 15) dX8_isWithin_15 rfl ?_
  refine pw_aload_n (pc := 17) dX8_isWithin_17 rfl ?_
  refine pw_get (pc := 18) fg_X8_26 dX8_isWithin_18 (by first | assumption | exact va_up_self _ _ _ | exact lk1 (by first | assumption | (apply Ne.symm; assumption) | (simp; done)) (by assumption) | exact lk1 (by first | assumption | (apply Ne.symm; assumption) | (simp; done)) (va_up_self _ _ _) | exact lk1 (by first | assumption | (apply Ne.symm; assumption) | (simp; done)) (lk1 (by first | assumption | (apply Ne.symm; assumption) | (simp; done)) (by assumption)) | exact lk1 (by first | assumption | (apply Ne.symm; assumption) | (simp; done)) (lk1 (by first | assumption | (apply Ne.symm; assumption) | (simp; done)) (va_up_self _ _ _)) | exact lk1 (by first | assumption | (apply Ne.symm; assumption) | (simp; done)) (lk1 (by first | assumption | (apply Ne.symm; assumption) | (simp; done)) (lk1 (by first | assumption | (apply Ne.symm; assumption) | (simp; done)) (by assumption))) | exact lk1 (by first | assumption | (apply Ne.symm; assumption) | (simp; done)) (lk1 (by first | assumption | (apply Ne.symm; assumption) | (simp; done)) (lk1 (by first | assumption | (apply Ne.symm; assumption) | (simp; done)) (va_up_self _ _ _))) | exact lk1 (by first | assumption | (apply Ne.symm; assumption) | (simp; done)) (lk1 (by first | assumption | (apply Ne.symm; assumption) | (simp; done)) (lk1 (by first | assumption | (apply Ne.symm; assumption) | (simp; done)) (lk1 (by first | assumption | (apply Ne.symm; assumption) | (simp; done)) (by assumption)))) | exact lk1 (by first | assumption | (apply Ne.symm; assumption) | (simp; done)) (lk1 (by first | assumption | (apply Ne.symm; assumption) | (simp; done)) (lk1 (by first | assumption | (apply Ne.symm; assumption) | (simp; done)) (lk1 (by first | assumption | (apply Ne.symm; assumption) | (simp; done)) (va_up_self _ _ _))))) (by first | rfl | assumption) ?_
  refine pw_iload_n (pc := 21) dX8_isWithin_21 rfl ?_
  refine pw_iload_n (pc := 22) dX8_isWithin_22 rfl ?_
  refine pw_isub (pc := 23) dX8_isWithin_23 ?_
  rw [pk_sub (by omega)]
  refine pw_imul (pc := 24) dX8_isWithin_24 ?_
  refine pw_aload_n (pc := 25) dX8_isWithin_25 rfl ?_
  refine pw_get (pc := 26) fg_X8_30 dX8_isWithin_26 (by first | assumption | exact va_up_self _ _ _ | exact lk1 (by first | assumption | (apply Ne.symm; assumption) | (simp; done)) (by assumption) | exact lk1 (by first | assumption | (apply Ne.symm; assumption) | (simp; done)) (va_up_self _ _ _) | exact lk1 (by first | assumption | (apply Ne.symm; assumption) | (simp; done)) (lk1 (by first | assumption | (apply Ne.symm; assumption) | (simp; done)) (by assumption)) | exact lk1 (by first | assumption | (apply Ne.symm; assumption) | (simp; done)) (lk1 (by first | assumption | (apply Ne.symm; assumption) | (simp; done)) (va_up_self _ _ _)) | exact lk1 (by first | assumption | (apply Ne.symm; assumption) | (simp; done)) (lk1 (by first | assumption | (apply Ne.symm; assumption) | (simp; done)) (lk1 (by first | assumption | (apply Ne.symm; assumption) | (simp; done)) (by assumption))) | exact lk1 (by first | assumption | (apply Ne.symm; assumption) | (simp; done)) (lk1 (by first | assumption | (apply Ne.symm; assumption) | (simp; done)) (lk1 (by first | assumption | (apply Ne.symm; assumption) | (simp; done)) (va_up_self _ _ _))) | exact lk1 (by first | assumption | (apply Ne.symm; assumption) | (simp; done)) (lk1 (by first | assumption | (apply Ne.symm; assumption) | (simp; done)) (lk1 (by first | assumption | (apply Ne.symm; assumption) | (simp; done)) (lk1 (by first | assumption | (apply Ne.symm; assumption) | (simp; done)) (by assumption)))) | exact lk1 (by first | assumption | (apply Ne.symm; assumption) | (simp; done)) (lk1 (by first | assumption | (apply Ne.symm; assumption) | (simp; done)) (lk1 (by first | assumption | (apply Ne.symm; assumption) | (simp; done)) (lk1 (by first | assumption | (apply Ne.symm; assumption) | (simp; done)) (va_up_self _ _ _))))) (by first | rfl | assumption) ?_
  refine pw_iload_n (pc := 29) dX8_isWithin_29 rfl ?_
  refine pw_iload_n (pc := 30) dX8_isWithin_30 rfl ?_
  refine pw_isub (pc := 31) dX8_isWithin_31 ?_
  rw [pk_sub (by omega)]
  refine pw_imul (pc := 32) dX8_isWithin_32 ?_
  refine pw_callS_i (pc := 33) cs_X8_64 dX8_isWithin_33 (c_in _ _ _) rfl rfl (Nat.le_of_ble_eq_true rfl) ⟨(Nat.le_of_ble_eq_true rfl), (Nat.le_of_ble_eq_true rfl)⟩ ?_
  exact pw_zret dX8_isWithin_36 rfl (narB _) ⟨rfl, rfl⟩
end Y1
theorem lb_no {lo hi m : Nat} {z : Int32} : ∀ f al, z.toInt < ((al * lo : Nat) : Int) → lbF lo hi m z al f = -2
  | 0, _, _ => by rw [lbF]
  | f + 1, al, h => by
    rw [lbF]
    split
    · rw [if_neg (by omega)]
      refine lb_no f (al + 1) ?_
      have : al * lo ≤ (al + 1) * lo := Nat.mul_le_mul_right _ (by omega)
      omega
    · rfl
theorem lb_go {lo hi m nn : Nat} {z : Int32} (hlo : 1 ≤ lo) (hhi : 1 ≤ hi) (h2 : ∀ al, m ≤ al → al < nn → ((al * hi : Nat) : Int) < z.toInt) (h3 : z.toInt ≤ ((nn * hi : Nat) : Int)) : ∀ f al, m ≤ al → al ≤ nn → nn < al + f → lbF lo hi m z al f = if z.toInt < ((nn * lo : Nat) : Int) then -2 else nI nn - nI m
  | 0, al, h4, h5, h6 => by omega
  | f + 1, al, h4, h5, h6 => by
    by_cases e : al = nn
    · subst e
      split
      · rename_i h; exact lb_no _ _ h
      · rename_i h
        have : al ≤ al * lo := Nat.le_mul_of_pos_right _ (by omega)
        rw [lbF, if_pos (by omega), if_pos ⟨by omega, h3⟩]
    · have h7 := h2 al h4 (by omega)
      have : al ≤ al * hi := Nat.le_mul_of_pos_right _ (by omega)
      rw [lbF, if_pos (by omega), if_neg (by omega)]
      exact lb_go hlo hhi h2 h3 f (al + 1) (by omega) (by omega) (by omega)
section Y2
variable {E : EV} {h : HP} {n m : Nat} {S : AS}
theorem o_lost1 (hm : modP h m S) (hws : wfS S) (p : Nat) (hp : p ≤ 3) (z0 : rg 0 3 (nI p) = true) (ep : ixN (nI p) = p) : PM E mX8_lost [.ref m, .int (nI p)] h n n 0 (QM m h (some (.int (a_lost S (nI p)))) S) := by
  obtain ⟨⟨th, nx, tk, pl, vl, ft, sz, nm, m0⟩, ma⟩ := id hm
  have hw := hws.2.2.2.1
  have wlo := rg_t hws.2.2.2.2.2.2.1
  have whi := rg_t hws.2.2.2.2.2.2.2.1
  obtain ⟨lo, hlo, el, el2⟩ := rg_ix (hi := 60) (rg_wide hws.2.2.2.2.2.2.1 (by omega) (by omega))
  obtain ⟨hi, hhi, eh, eh2⟩ := rg_ix (hi := 60) (rg_wide hws.2.2.2.2.2.2.2.1 (by omega) (by omega))
  rw [el, nI_toInt (by omega)] at wlo
  rw [eh, nI_toInt (by omega)] at whi
  refine PM.of [.ref m, .int (nI p), .null, .null, .null, .null, .null] rfl (Nat.le_of_ble_eq_true rfl) rfl ?_
  refine pw_aload_n (pc := 0) dX8_lost_0 rfl ?_
  refine pw_iconst (pc := 1) (nI 0) dX8_lost_1 (by decide) ?_
  refine pw_put0 (pc := 2) fp_X8_61 dX8_lost_2 (by first | assumption | exact va_up_self _ _ _ | exact lk1 (by first | assumption | (apply Ne.symm; assumption) | (simp; done)) (by assumption) | exact lk1 (by first | assumption | (apply Ne.symm; assumption) | (simp; done)) (va_up_self _ _ _) | exact lk1 (by first | assumption | (apply Ne.symm; assumption) | (simp; done)) (lk1 (by first | assumption | (apply Ne.symm; assumption) | (simp; done)) (by assumption)) | exact lk1 (by first | assumption | (apply Ne.symm; assumption) | (simp; done)) (lk1 (by first | assumption | (apply Ne.symm; assumption) | (simp; done)) (va_up_self _ _ _)) | exact lk1 (by first | assumption | (apply Ne.symm; assumption) | (simp; done)) (lk1 (by first | assumption | (apply Ne.symm; assumption) | (simp; done)) (lk1 (by first | assumption | (apply Ne.symm; assumption) | (simp; done)) (by assumption))) | exact lk1 (by first | assumption | (apply Ne.symm; assumption) | (simp; done)) (lk1 (by first | assumption | (apply Ne.symm; assumption) | (simp; done)) (lk1 (by first | assumption | (apply Ne.symm; assumption) | (simp; done)) (va_up_self _ _ _))) | exact lk1 (by first | assumption | (apply Ne.symm; assumption) | (simp; done)) (lk1 (by first | assumption | (apply Ne.symm; assumption) | (simp; done)) (lk1 (by first | assumption | (apply Ne.symm; assumption) | (simp; done)) (lk1 (by first | assumption | (apply Ne.symm; assumption) | (simp; done)) (by assumption)))) | exact lk1 (by first | assumption | (apply Ne.symm; assumption) | (simp; done)) (lk1 (by first | assumption | (apply Ne.symm; assumption) | (simp; done)) (lk1 (by first | assumption | (apply Ne.symm; assumption) | (simp; done)) (lk1 (by first | assumption | (apply Ne.symm; assumption) | (simp; done)) (va_up_self _ _ _))))) rfl rfl ?_
  have p0 : gthP h (va_up h m (some (.inr (8, mob m (nI 0) (sQ S) (nI (sT S).length) nx tk pl vl ft (sLo S) (sHi S) sz nm)))) m S := ⟨⟨_, _, _, _, _, _, _, va_up_self _ _ _⟩, ma.on up_m, on_m⟩
  generalize va_up h m (some (.inr (8, mob m (nI 0) (sQ S) (nI (sT S).length) nx tk pl vl ft (sLo S) (sHi S) sz nm))) = h2 at p0
  obtain ⟨⟨nx, tk, pl, vl, ft, sz, nm, m0⟩, ma, mo⟩ := id p0
  obtain ⟨⟨g, q1, k1⟩, -⟩ := id ma
  rw [el, eh] at m0
  refine pw_iload_n (pc := 5) dX8_lost_5 rfl ?_
  refine pw_callS_i (pc := 6) cs_X8_124 dX8_lost_6 (c_misList (nI p)) rfl rfl (Nat.le_of_ble_eq_true rfl) ⟨(Nat.le_of_ble_eq_true rfl), (Nat.le_of_ble_eq_true rfl)⟩ ?_
  refine pw_if_ne_b (pc := 9) 14 dX8_lost_9 (by decide) (fun z => ?_) (fun z => ?_)
  · have hl := (hw.1 p (by omega)).1
    have es := k1.z.1 p (by omega)
    have loop : ∀ r j lst sm w5 w6, j + r = ((sN S).1 p).length → (∀ l, lst = some l → l < j ∧ dtA (sN S) p l ≠ -9) → lsF (sN S) lo hi p lst sm j r = a_lost S (nI p) → PW (KX E mX8_lost n (QM m h (some (.int (a_lost S (nI p)))) S)) 22 [.ref m, .int (nI p), .int sm, .int (oI lst), .int (nI j), w5, w6] [] h2 n 0 := by
      intro r
      induction r with
      | zero =>
        intro j lst sm w5 w6 hj hls e
        refine pw_iload (pc := 22) dX8_lost_22 rfl ?_
        refine pw_aload_n (pc := 24) dX8_lost_24 rfl ?_
        refine pw_iload_n (pc := 25) dX8_lost_25 rfl ?_
        refine pw_callV_i (pc := 26) cv_X8_68 dX8_lost_26 (by first | assumption | exact va_up_self _ _ _ | exact lk1 (by first | assumption | (apply Ne.symm; assumption) | (simp; done)) (by assumption) | exact lk1 (by first | assumption | (apply Ne.symm; assumption) | (simp; done)) (va_up_self _ _ _) | exact lk1 (by first | assumption | (apply Ne.symm; assumption) | (simp; done)) (lk1 (by first | assumption | (apply Ne.symm; assumption) | (simp; done)) (by assumption)) | exact lk1 (by first | assumption | (apply Ne.symm; assumption) | (simp; done)) (lk1 (by first | assumption | (apply Ne.symm; assumption) | (simp; done)) (va_up_self _ _ _)) | exact lk1 (by first | assumption | (apply Ne.symm; assumption) | (simp; done)) (lk1 (by first | assumption | (apply Ne.symm; assumption) | (simp; done)) (lk1 (by first | assumption | (apply Ne.symm; assumption) | (simp; done)) (by assumption))) | exact lk1 (by first | assumption | (apply Ne.symm; assumption) | (simp; done)) (lk1 (by first | assumption | (apply Ne.symm; assumption) | (simp; done)) (lk1 (by first | assumption | (apply Ne.symm; assumption) | (simp; done)) (va_up_self _ _ _))) | exact lk1 (by first | assumption | (apply Ne.symm; assumption) | (simp; done)) (lk1 (by first | assumption | (apply Ne.symm; assumption) | (simp; done)) (lk1 (by first | assumption | (apply Ne.symm; assumption) | (simp; done)) (lk1 (by first | assumption | (apply Ne.symm; assumption) | (simp; done)) (by assumption)))) | exact lk1 (by first | assumption | (apply Ne.symm; assumption) | (simp; done)) (lk1 (by first | assumption | (apply Ne.symm; assumption) | (simp; done)) (lk1 (by first | assumption | (apply Ne.symm; assumption) | (simp; done)) (lk1 (by first | assumption | (apply Ne.symm; assumption) | (simp; done)) (va_up_self _ _ _))))) rfl (c_msizeOf m0 rfl q1 p (by omega)) rfl rfl (Nat.le_of_ble_eq_true rfl) ⟨(Nat.le_of_ble_eq_true rfl), (Nat.le_of_ble_eq_true rfl)⟩ ?_
        rw [es]
        refine pw_icmp_ge_n (pc := 29) 124 dX8_lost_29 (by decide) (by omega) (by omega) (fun zb => ?_) (fun zb => ?_)
        · refine pw_iload_n (pc := 124) dX8_lost_124 rfl ?_
          refine pw_iret dX8_lost_125 rfl (p0.Q ?_)
          rw [← e]; rfl
        · omega
      | succ r ih =>
        intro j lst sm w5 w6 hj hls e
        have hjl : j < ((sN S).1 p).length := by omega
        refine pw_iload (pc := 22) dX8_lost_22 rfl ?_
        refine pw_aload_n (pc := 24) dX8_lost_24 rfl ?_
        refine pw_iload_n (pc := 25) dX8_lost_25 rfl ?_
        refine pw_callV_i (pc := 26) cv_X8_68 dX8_lost_26 (by first | assumption | exact va_up_self _ _ _ | exact lk1 (by first | assumption | (apply Ne.symm; assumption) | (simp; done)) (by assumption) | exact lk1 (by first | assumption | (apply Ne.symm; assumption) | (simp; done)) (va_up_self _ _ _) | exact lk1 (by first | assumption | (apply Ne.symm; assumption) | (simp; done)) (lk1 (by first | assumption | (apply Ne.symm; assumption) | (simp; done)) (by assumption)) | exact lk1 (by first | assumption | (apply Ne.symm; assumption) | (simp; done)) (lk1 (by first | assumption | (apply Ne.symm; assumption) | (simp; done)) (va_up_self _ _ _)) | exact lk1 (by first | assumption | (apply Ne.symm; assumption) | (simp; done)) (lk1 (by first | assumption | (apply Ne.symm; assumption) | (simp; done)) (lk1 (by first | assumption | (apply Ne.symm; assumption) | (simp; done)) (by assumption))) | exact lk1 (by first | assumption | (apply Ne.symm; assumption) | (simp; done)) (lk1 (by first | assumption | (apply Ne.symm; assumption) | (simp; done)) (lk1 (by first | assumption | (apply Ne.symm; assumption) | (simp; done)) (va_up_self _ _ _))) | exact lk1 (by first | assumption | (apply Ne.symm; assumption) | (simp; done)) (lk1 (by first | assumption | (apply Ne.symm; assumption) | (simp; done)) (lk1 (by first | assumption | (apply Ne.symm; assumption) | (simp; done)) (lk1 (by first | assumption | (apply Ne.symm; assumption) | (simp; done)) (by assumption)))) | exact lk1 (by first | assumption | (apply Ne.symm; assumption) | (simp; done)) (lk1 (by first | assumption | (apply Ne.symm; assumption) | (simp; done)) (lk1 (by first | assumption | (apply Ne.symm; assumption) | (simp; done)) (lk1 (by first | assumption | (apply Ne.symm; assumption) | (simp; done)) (va_up_self _ _ _))))) rfl (c_msizeOf m0 rfl q1 p (by omega)) rfl rfl (Nat.le_of_ble_eq_true rfl) ⟨(Nat.le_of_ble_eq_true rfl), (Nat.le_of_ble_eq_true rfl)⟩ ?_
        rw [es]
        refine pw_icmp_ge_n (pc := 29) 124 dX8_lost_29 (by decide) (by omega) (by omega) (fun zb => ?_) (fun zb => ?_)
        · omega
        · refine pw_aload_n (pc := 32) dX8_lost_32 rfl ?_
          refine pw_iload_n (pc := 33) dX8_lost_33 rfl ?_
          refine pw_iload (pc := 34) dX8_lost_34 rfl ?_
          refine pw_callV_i (pc := 36) cv_X8_183 dX8_lost_36 (by first | assumption | exact va_up_self _ _ _ | exact lk1 (by first | assumption | (apply Ne.symm; assumption) | (simp; done)) (by assumption) | exact lk1 (by first | assumption | (apply Ne.symm; assumption) | (simp; done)) (va_up_self _ _ _) | exact lk1 (by first | assumption | (apply Ne.symm; assumption) | (simp; done)) (lk1 (by first | assumption | (apply Ne.symm; assumption) | (simp; done)) (by assumption)) | exact lk1 (by first | assumption | (apply Ne.symm; assumption) | (simp; done)) (lk1 (by first | assumption | (apply Ne.symm; assumption) | (simp; done)) (va_up_self _ _ _)) | exact lk1 (by first | assumption | (apply Ne.symm; assumption) | (simp; done)) (lk1 (by first | assumption | (apply Ne.symm; assumption) | (simp; done)) (lk1 (by first | assumption | (apply Ne.symm; assumption) | (simp; done)) (by assumption))) | exact lk1 (by first | assumption | (apply Ne.symm; assumption) | (simp; done)) (lk1 (by first | assumption | (apply Ne.symm; assumption) | (simp; done)) (lk1 (by first | assumption | (apply Ne.symm; assumption) | (simp; done)) (va_up_self _ _ _))) | exact lk1 (by first | assumption | (apply Ne.symm; assumption) | (simp; done)) (lk1 (by first | assumption | (apply Ne.symm; assumption) | (simp; done)) (lk1 (by first | assumption | (apply Ne.symm; assumption) | (simp; done)) (lk1 (by first | assumption | (apply Ne.symm; assumption) | (simp; done)) (by assumption)))) | exact lk1 (by first | assumption | (apply Ne.symm; assumption) | (simp; done)) (lk1 (by first | assumption | (apply Ne.symm; assumption) | (simp; done)) (lk1 (by first | assumption | (apply Ne.symm; assumption) | (simp; done)) (lk1 (by first | assumption | (apply Ne.symm; assumption) | (simp; done)) (va_up_self _ _ _))))) rfl (c_mdateAt m0 rfl q1 k1 hw p j (by omega) hjl) rfl rfl (Nat.le_of_ble_eq_true rfl) ⟨(Nat.le_of_ble_eq_true rfl), (Nat.le_of_ble_eq_true rfl)⟩ ?_
          refine pw_bipush (pc := 39) (-9) dX8_lost_39 (by decide) ?_
          refine pw_icmp_eq (pc := 41) 118 dX8_lost_41 (by decide) (fun z1 => ?_) (fun z1 => ?_)
          · refine pw_iinc4 (pc := 118) (nI (j + 1)) dX8_lost_118 (Nat.le_of_ble_eq_true rfl) rfl (ni_inc _) ?_
            refine pw_goto (pc := 121) 22 dX8_lost_121 (by decide) ?_
            refine ih (j + 1) lst sm _ _ (by omega) (fun l hl2 => ⟨by have := (hls l hl2).1; omega, (hls l hl2).2⟩) ?_
            rw [← e]
            cases lst <;> (conv => rhs; rw [lsF, if_pos z1])
          · have dj := rg_t ((dtA_rng hw (by omega) hjl).resolve_left z1)
            cases lst with
            | none =>
              refine pw_iload_n (pc := 44) dX8_lost_44 rfl ?_
              refine pw_bipush (pc := 45) (-9) dX8_lost_45 (by decide) ?_
              refine pw_icmp_eq (pc := 47) 115 dX8_lost_47 (by decide) (fun z2 => ?_) (fun z2 => absurd rfl z2)
              refine pw_iload (pc := 115) dX8_lost_115 rfl ?_
              refine pw_ist3 (pc := 117) dX8_lost_117 (Nat.le_of_ble_eq_true rfl) rfl ?_
              refine pw_iinc4 (pc := 118) (nI (j + 1)) dX8_lost_118 (Nat.le_of_ble_eq_true rfl) rfl (ni_inc _) ?_
              refine pw_goto (pc := 121) 22 dX8_lost_121 (by decide) ?_
              refine ih (j + 1) (some j) sm _ _ (by omega) (fun l hl2 => by cases hl2; exact ⟨by omega, z1⟩) ?_
              rw [← e, lsF, if_neg z1]
            | some l =>
              obtain ⟨hlj, hld⟩ := hls l rfl
              have dl := rg_t ((dtA_rng hw (by omega) (show l < ((sN S).1 p).length by omega)).resolve_left hld)
              have hsub := i32_sub (a := dtA (sN S) p j) (b := dtA (sN S) p l) (by omega) (by omega)
              generalize ezz : dtA (sN S) p j - dtA (sN S) p l = zz at hsub
              have e' : (if lbX lo hi (j - l) zz = -2 then -2 else lsF (sN S) lo hi p (some j) (sm + lbX lo hi (j - l) zz) (j + 1) r) = a_lost S (nI p) := by
                rw [← e, lsF, if_neg z1, ← ezz]
              have whl : ∀ f nn : Nat, zz.toInt ≤ (nn : Int) + f → j - l ≤ nn → nn ≤ 2001 + (j - l) → (∀ al, j - l ≤ al → al < nn → ((al * hi : Nat) : Int) < zz.toInt) → PW (KX E mX8_lost n (QM m h (some (.int (a_lost S (nI p)))) S)) 72 [.ref m, .int (nI p), .int sm, .int (nI l), .int (nI j), .int zz, .int (nI nn)] [] h2 n 0 := by
                have exi : ∀ nn : Nat, j - l ≤ nn → nn ≤ 2001 + (j - l) → (∀ al, j - l ≤ al → al < nn → ((al * hi : Nat) : Int) < zz.toInt) → zz.toInt ≤ ((nn * hi : Nat) : Int) → PW (KX E mX8_lost n (QM m h (some (.int (a_lost S (nI p)))) S)) 90 [.ref m, .int (nI p), .int sm, .int (nI l), .int (nI j), .int zz, .int (nI nn)] [] h2 n 0 := by
                  intro nn h1 h3 h4 h5
                  have b1 : nn * lo ≤ 2101 * 60 := Nat.mul_le_mul (by omega) (by omega)
                  have hx : lbX lo hi (j - l) zz = if zz.toInt < ((nn * lo : Nat) : Int) then -2 else nI nn - nI (j - l) := lb_go (by omega) (by omega) h4 h5 3000 (j - l) (Nat.le_refl _) h1 (by omega)
                  refine pw_iload (pc := 90) dX8_lost_90 rfl ?_
                  refine pw_aload_n (pc := 92) dX8_lost_92 rfl ?_
                  refine pw_get (pc := 93) fg_X8_26 dX8_lost_93 (by first | assumption | exact va_up_self _ _ _ | exact lk1 (by first | assumption | (apply Ne.symm; assumption) | (simp; done)) (by assumption) | exact lk1 (by first | assumption | (apply Ne.symm; assumption) | (simp; done)) (va_up_self _ _ _) | exact lk1 (by first | assumption | (apply Ne.symm; assumption) | (simp; done)) (lk1 (by first | assumption | (apply Ne.symm; assumption) | (simp; done)) (by assumption)) | exact lk1 (by first | assumption | (apply Ne.symm; assumption) | (simp; done)) (lk1 (by first | assumption | (apply Ne.symm; assumption) | (simp; done)) (va_up_self _ _ _)) | exact lk1 (by first | assumption | (apply Ne.symm; assumption) | (simp; done)) (lk1 (by first | assumption | (apply Ne.symm; assumption) | (simp; done)) (lk1 (by first | assumption | (apply Ne.symm; assumption) | (simp; done)) (by assumption))) | exact lk1 (by first | assumption | (apply Ne.symm; assumption) | (simp; done)) (lk1 (by first | assumption | (apply Ne.symm; assumption) | (simp; done)) (lk1 (by first | assumption | (apply Ne.symm; assumption) | (simp; done)) (va_up_self _ _ _))) | exact lk1 (by first | assumption | (apply Ne.symm; assumption) | (simp; done)) (lk1 (by first | assumption | (apply Ne.symm; assumption) | (simp; done)) (lk1 (by first | assumption | (apply Ne.symm; assumption) | (simp; done)) (lk1 (by first | assumption | (apply Ne.symm; assumption) | (simp; done)) (by assumption)))) | exact lk1 (by first | assumption | (apply Ne.symm; assumption) | (simp; done)) (lk1 (by first | assumption | (apply Ne.symm; assumption) | (simp; done)) (lk1 (by first | assumption | (apply Ne.symm; assumption) | (simp; done)) (lk1 (by first | assumption | (apply Ne.symm; assumption) | (simp; done)) (va_up_self _ _ _))))) (by first | rfl | assumption) ?_
                  refine pw_imul (pc := 96) dX8_lost_96 ?_
                  refine pw_iload (pc := 97) dX8_lost_97 rfl ?_
                  refine pw_icmp_le (pc := 99) 105 dX8_lost_99 (by decide) (fun w => ?_) (fun w => ?_)
                  · rw [i32_le, pk_mul, nI_toInt (by omega)] at w
                    rw [if_neg (by omega)] at hx
                    have hne : lbX lo hi (j - l) zz ≠ -2 := by
                      rw [hx, pk_sub h1]
                      intro q
                      have := congrArg Int32.toInt q
                      rw [nI_toInt (by omega), show (-2 : Int32).toInt = -2 by decide] at this
                      omega
                    rw [if_neg hne] at e'
                    refine pw_iload_n (pc := 105) dX8_lost_105 rfl ?_
                    refine pw_iload (pc := 106) dX8_lost_106 rfl ?_
                    refine pw_iload (pc := 108) dX8_lost_108 rfl ?_
                    refine pw_iload_n (pc := 110) dX8_lost_110 rfl ?_
                    refine pw_isub (pc := 111) dX8_lost_111 ?_
                    rw [pk_sub (by omega)]
                    refine pw_isub (pc := 112) dX8_lost_112 ?_
                    refine pw_iadd (pc := 113) dX8_lost_113 ?_
                    refine pw_ist2 (pc := 114) dX8_lost_114 (Nat.le_of_ble_eq_true rfl) rfl ?_
                    refine pw_iload (pc := 115) dX8_lost_115 rfl ?_
                    refine pw_ist3 (pc := 117) dX8_lost_117 (Nat.le_of_ble_eq_true rfl) rfl ?_
                    refine pw_iinc4 (pc := 118) (nI (j + 1)) dX8_lost_118 (Nat.le_of_ble_eq_true rfl) rfl (ni_inc _) ?_
                    refine pw_goto (pc := 121) 22 dX8_lost_121 (by decide) ?_
                    rw [← hx]
                    exact ih (j + 1) (some j) _ _ _ (by omega) (fun l2 hl2 => by cases hl2; exact ⟨by omega, z1⟩) e'
                  · rw [i32_le, pk_mul, nI_toInt (by omega)] at w
                    rw [if_pos (by omega)] at hx
                    rw [if_pos hx] at e'
                    refine pw_bipush (pc := 102) (-2) dX8_lost_102 (by decide) ?_
                    exact pw_iret dX8_lost_104 rfl (p0.Q (by rw [← e']))
                intro f
                induction f with
                | zero =>
                  intro nn h1 h2 h3 h4
                  have b1 : nn * hi ≤ 2101 * 60 := Nat.mul_le_mul (by omega) (by omega)
                  have b2 : nn ≤ nn * hi := Nat.le_mul_of_pos_right _ (by omega)
                  refine pw_iload (pc := 72) dX8_lost_72 rfl ?_
                  refine pw_aload_n (pc := 74) dX8_lost_74 rfl ?_
                  refine pw_get (pc := 75) fg_X8_30 dX8_lost_75 (by first | assumption | exact va_up_self _ _ _ | exact lk1 (by first | assumption | (apply Ne.symm; assumption) | (simp; done)) (by assumption) | exact lk1 (by first | assumption | (apply Ne.symm; assumption) | (simp; done)) (va_up_self _ _ _) | exact lk1 (by first | assumption | (apply Ne.symm; assumption) | (simp; done)) (lk1 (by first | assumption | (apply Ne.symm; assumption) | (simp; done)) (by assumption)) | exact lk1 (by first | assumption | (apply Ne.symm; assumption) | (simp; done)) (lk1 (by first | assumption | (apply Ne.symm; assumption) | (simp; done)) (va_up_self _ _ _)) | exact lk1 (by first | assumption | (apply Ne.symm; assumption) | (simp; done)) (lk1 (by first | assumption | (apply Ne.symm; assumption) | (simp; done)) (lk1 (by first | assumption | (apply Ne.symm; assumption) | (simp; done)) (by assumption))) | exact lk1 (by first | assumption | (apply Ne.symm; assumption) | (simp; done)) (lk1 (by first | assumption | (apply Ne.symm; assumption) | (simp; done)) (lk1 (by first | assumption | (apply Ne.symm; assumption) | (simp; done)) (va_up_self _ _ _))) | exact lk1 (by first | assumption | (apply Ne.symm; assumption) | (simp; done)) (lk1 (by first | assumption | (apply Ne.symm; assumption) | (simp; done)) (lk1 (by first | assumption | (apply Ne.symm; assumption) | (simp; done)) (lk1 (by first | assumption | (apply Ne.symm; assumption) | (simp; done)) (by assumption)))) | exact lk1 (by first | assumption | (apply Ne.symm; assumption) | (simp; done)) (lk1 (by first | assumption | (apply Ne.symm; assumption) | (simp; done)) (lk1 (by first | assumption | (apply Ne.symm; assumption) | (simp; done)) (lk1 (by first | assumption | (apply Ne.symm; assumption) | (simp; done)) (va_up_self _ _ _))))) (by first | rfl | assumption) ?_
                  refine pw_imul (pc := 78) dX8_lost_78 ?_
                  refine pw_iload (pc := 79) dX8_lost_79 rfl ?_
                  refine pw_icmp_ge (pc := 81) 90 dX8_lost_81 (by decide) (fun w => ?_) (fun w => ?_)
                  · exact exi nn h2 h3 h4 (by omega)
                  · rw [i32_le, pk_mul, nI_toInt (by omega)] at w
                    omega
                | succ f ihf =>
                  intro nn h1 h2 h3 h4
                  have b1 : nn * hi ≤ 2101 * 60 := Nat.mul_le_mul (by omega) (by omega)
                  have b2 : nn ≤ nn * hi := Nat.le_mul_of_pos_right _ (by omega)
                  refine pw_iload (pc := 72) dX8_lost_72 rfl ?_
                  refine pw_aload_n (pc := 74) dX8_lost_74 rfl ?_
                  refine pw_get (pc := 75) fg_X8_30 dX8_lost_75 (by first | assumption | exact va_up_self _ _ _ | exact lk1 (by first | assumption | (apply Ne.symm; assumption) | (simp; done)) (by assumption) | exact lk1 (by first | assumption | (apply Ne.symm; assumption) | (simp; done)) (va_up_self _ _ _) | exact lk1 (by first | assumption | (apply Ne.symm; assumption) | (simp; done)) (lk1 (by first | assumption | (apply Ne.symm; assumption) | (simp; done)) (by assumption)) | exact lk1 (by first | assumption | (apply Ne.symm; assumption) | (simp; done)) (lk1 (by first | assumption | (apply Ne.symm; assumption) | (simp; done)) (va_up_self _ _ _)) | exact lk1 (by first | assumption | (apply Ne.symm; assumption) | (simp; done)) (lk1 (by first | assumption | (apply Ne.symm; assumption) | (simp; done)) (lk1 (by first | assumption | (apply Ne.symm; assumption) | (simp; done)) (by assumption))) | exact lk1 (by first | assumption | (apply Ne.symm; assumption) | (simp; done)) (lk1 (by first | assumption | (apply Ne.symm; assumption) | (simp; done)) (lk1 (by first | assumption | (apply Ne.symm; assumption) | (simp; done)) (va_up_self _ _ _))) | exact lk1 (by first | assumption | (apply Ne.symm; assumption) | (simp; done)) (lk1 (by first | assumption | (apply Ne.symm; assumption) | (simp; done)) (lk1 (by first | assumption | (apply Ne.symm; assumption) | (simp; done)) (lk1 (by first | assumption | (apply Ne.symm; assumption) | (simp; done)) (by assumption)))) | exact lk1 (by first | assumption | (apply Ne.symm; assumption) | (simp; done)) (lk1 (by first | assumption | (apply Ne.symm; assumption) | (simp; done)) (lk1 (by first | assumption | (apply Ne.symm; assumption) | (simp; done)) (lk1 (by first | assumption | (apply Ne.symm; assumption) | (simp; done)) (va_up_self _ _ _))))) (by first | rfl | assumption) ?_
                  refine pw_imul (pc := 78) dX8_lost_78 ?_
                  refine pw_iload (pc := 79) dX8_lost_79 rfl ?_
                  refine pw_icmp_ge (pc := 81) 90 dX8_lost_81 (by decide) (fun w => ?_) (fun w => ?_)
                  · rw [i32_le, pk_mul, nI_toInt (by omega)] at w
                    exact exi nn h2 h3 h4 w
                  · rw [i32_le, pk_mul, nI_toInt (by omega)] at w
                    refine pw_iinc6 (pc := 84) (nI (nn + 1)) dX8_lost_84 (Nat.le_of_ble_eq_true rfl) rfl (ni_inc _) ?_
                    refine pw_goto (pc := 87) 72 dX8_lost_87 (by decide) ?_
                    refine ihf (nn + 1) (by omega) (by omega) (by omega) (fun al h5 h6 => ?_)
                    by_cases ea : al = nn
                    · subst ea; omega
                    · exact h4 al h5 (by omega)
              refine pw_iload_n (pc := 44) dX8_lost_44 rfl ?_
              refine pw_bipush (pc := 45) (-9) dX8_lost_45 (by decide) ?_
              refine pw_icmp_eq (pc := 47) 115 dX8_lost_47 (by decide) (fun z2 => absurd z2 (ni_ne9 (by omega))) (fun z2 => ?_)
              rw [show oI (some l) = nI l from rfl]
              refine pw_aload_n (pc := 50) dX8_lost_50 rfl ?_
              refine pw_iload_n (pc := 51) dX8_lost_51 rfl ?_
              refine pw_iload (pc := 52) dX8_lost_52 rfl ?_
              refine pw_callV_i (pc := 54) cv_X8_183 dX8_lost_54 (by first | assumption | exact va_up_self _ _ _ | exact lk1 (by first | assumption | (apply Ne.symm; assumption) | (simp; done)) (by assumption) | exact lk1 (by first | assumption | (apply Ne.symm; assumption) | (simp; done)) (va_up_self _ _ _) | exact lk1 (by first | assumption | (apply Ne.symm; assumption) | (simp; done)) (lk1 (by first | assumption | (apply Ne.symm; assumption) | (simp; done)) (by assumption)) | exact lk1 (by first | assumption | (apply Ne.symm; assumption) | (simp; done)) (lk1 (by first | assumption | (apply Ne.symm; assumption) | (simp; done)) (va_up_self _ _ _)) | exact lk1 (by first | assumption | (apply Ne.symm; assumption) | (simp; done)) (lk1 (by first | assumption | (apply Ne.symm; assumption) | (simp; done)) (lk1 (by first | assumption | (apply Ne.symm; assumption) | (simp; done)) (by assumption))) | exact lk1 (by first | assumption | (apply Ne.symm; assumption) | (simp; done)) (lk1 (by first | assumption | (apply Ne.symm; assumption) | (simp; done)) (lk1 (by first | assumption | (apply Ne.symm; assumption) | (simp; done)) (va_up_self _ _ _))) | exact lk1 (by first | assumption | (apply Ne.symm; assumption) | (simp; done)) (lk1 (by first | assumption | (apply Ne.symm; assumption) | (simp; done)) (lk1 (by first | assumption | (apply Ne.symm; assumption) | (simp; done)) (lk1 (by first | assumption | (apply Ne.symm; assumption) | (simp; done)) (by assumption)))) | exact lk1 (by first | assumption | (apply Ne.symm; assumption) | (simp; done)) (lk1 (by first | assumption | (apply Ne.symm; assumption) | (simp; done)) (lk1 (by first | assumption | (apply Ne.symm; assumption) | (simp; done)) (lk1 (by first | assumption | (apply Ne.symm; assumption) | (simp; done)) (va_up_self _ _ _))))) rfl (c_mdateAt m0 rfl q1 k1 hw p j (by omega) hjl) rfl rfl (Nat.le_of_ble_eq_true rfl) ⟨(Nat.le_of_ble_eq_true rfl), (Nat.le_of_ble_eq_true rfl)⟩ ?_
              refine pw_aload_n (pc := 57) dX8_lost_57 rfl ?_
              refine pw_iload_n (pc := 58) dX8_lost_58 rfl ?_
              refine pw_iload_n (pc := 59) dX8_lost_59 rfl ?_
              refine pw_callV_i (pc := 60) cv_X8_183 dX8_lost_60 (by first | assumption | exact va_up_self _ _ _ | exact lk1 (by first | assumption | (apply Ne.symm; assumption) | (simp; done)) (by assumption) | exact lk1 (by first | assumption | (apply Ne.symm; assumption) | (simp; done)) (va_up_self _ _ _) | exact lk1 (by first | assumption | (apply Ne.symm; assumption) | (simp; done)) (lk1 (by first | assumption | (apply Ne.symm; assumption) | (simp; done)) (by assumption)) | exact lk1 (by first | assumption | (apply Ne.symm; assumption) | (simp; done)) (lk1 (by first | assumption | (apply Ne.symm; assumption) | (simp; done)) (va_up_self _ _ _)) | exact lk1 (by first | assumption | (apply Ne.symm; assumption) | (simp; done)) (lk1 (by first | assumption | (apply Ne.symm; assumption) | (simp; done)) (lk1 (by first | assumption | (apply Ne.symm; assumption) | (simp; done)) (by assumption))) | exact lk1 (by first | assumption | (apply Ne.symm; assumption) | (simp; done)) (lk1 (by first | assumption | (apply Ne.symm; assumption) | (simp; done)) (lk1 (by first | assumption | (apply Ne.symm; assumption) | (simp; done)) (va_up_self _ _ _))) | exact lk1 (by first | assumption | (apply Ne.symm; assumption) | (simp; done)) (lk1 (by first | assumption | (apply Ne.symm; assumption) | (simp; done)) (lk1 (by first | assumption | (apply Ne.symm; assumption) | (simp; done)) (lk1 (by first | assumption | (apply Ne.symm; assumption) | (simp; done)) (by assumption)))) | exact lk1 (by first | assumption | (apply Ne.symm; assumption) | (simp; done)) (lk1 (by first | assumption | (apply Ne.symm; assumption) | (simp; done)) (lk1 (by first | assumption | (apply Ne.symm; assumption) | (simp; done)) (lk1 (by first | assumption | (apply Ne.symm; assumption) | (simp; done)) (va_up_self _ _ _))))) rfl (c_mdateAt m0 rfl q1 k1 hw p l (by omega) (by omega)) rfl rfl (Nat.le_of_ble_eq_true rfl) ⟨(Nat.le_of_ble_eq_true rfl), (Nat.le_of_ble_eq_true rfl)⟩ ?_
              refine pw_isub (pc := 63) dX8_lost_63 ?_
              rw [ezz]
              refine pw_ist5 (pc := 64) dX8_lost_64 (Nat.le_of_ble_eq_true rfl) rfl ?_
              refine pw_iload (pc := 66) dX8_lost_66 rfl ?_
              refine pw_iload_n (pc := 68) dX8_lost_68 rfl ?_
              refine pw_isub (pc := 69) dX8_lost_69 ?_
              rw [pk_sub (by omega)]
              refine pw_ist6 (pc := 70) dX8_lost_70 (Nat.le_of_ble_eq_true rfl) rfl ?_
              exact whl 3000 (j - l) (by omega) (Nat.le_refl _) (by omega) (fun al h1 h2 => by omega)
    refine pw_iconst (pc := 14) (nI 0) dX8_lost_14 (by decide) ?_
    refine pw_ist2 (pc := 15) dX8_lost_15 (Nat.le_of_ble_eq_true rfl) rfl ?_
    refine pw_bipush (pc := 16) (-9) dX8_lost_16 (by decide) ?_
    refine pw_ist3 (pc := 18) dX8_lost_18 (Nat.le_of_ble_eq_true rfl) rfl ?_
    refine pw_iconst (pc := 19) (nI 0) dX8_lost_19 (by decide) ?_
    refine pw_ist4 (pc := 20) dX8_lost_20 (Nat.le_of_ble_eq_true rfl) rfl ?_
    refine loop ((sN S).1 p).length 0 none (nI 0) _ _ (by omega) (fun l hl => by cases hl) ?_
    rw [a_lost, z, if_pos rfl, ep, el2, eh2]
  · rw [z0] at z; cases z
theorem o_lost (hm : modP h m S) (hws : wfS S) (i : Int32) : PM E mX8_lost [.ref m, .int i] h n n 0 (QM m h (some (.int (a_lost S i))) S) := by
  by_cases z0 : rg 0 3 i = true
  · obtain ⟨p, hp, rfl, ep⟩ := rg_ix (hi := 3) z0
    exact o_lost1 hm hws p hp z0 ep
  obtain ⟨⟨th, nx, tk, pl, vl, ft, sz, nm, m0⟩, ma⟩ := id hm
  refine PM.of [.ref m, .int i, .null, .null, .null, .null, .null] rfl (Nat.le_of_ble_eq_true rfl) rfl ?_
  refine pw_aload_n (pc := 0) dX8_lost_0 rfl ?_
  refine pw_iconst (pc := 1) (nI 0) dX8_lost_1 (by decide) ?_
  refine pw_put0 (pc := 2) fp_X8_61 dX8_lost_2 (by first | assumption | exact va_up_self _ _ _ | exact lk1 (by first | assumption | (apply Ne.symm; assumption) | (simp; done)) (by assumption) | exact lk1 (by first | assumption | (apply Ne.symm; assumption) | (simp; done)) (va_up_self _ _ _) | exact lk1 (by first | assumption | (apply Ne.symm; assumption) | (simp; done)) (lk1 (by first | assumption | (apply Ne.symm; assumption) | (simp; done)) (by assumption)) | exact lk1 (by first | assumption | (apply Ne.symm; assumption) | (simp; done)) (lk1 (by first | assumption | (apply Ne.symm; assumption) | (simp; done)) (va_up_self _ _ _)) | exact lk1 (by first | assumption | (apply Ne.symm; assumption) | (simp; done)) (lk1 (by first | assumption | (apply Ne.symm; assumption) | (simp; done)) (lk1 (by first | assumption | (apply Ne.symm; assumption) | (simp; done)) (by assumption))) | exact lk1 (by first | assumption | (apply Ne.symm; assumption) | (simp; done)) (lk1 (by first | assumption | (apply Ne.symm; assumption) | (simp; done)) (lk1 (by first | assumption | (apply Ne.symm; assumption) | (simp; done)) (va_up_self _ _ _))) | exact lk1 (by first | assumption | (apply Ne.symm; assumption) | (simp; done)) (lk1 (by first | assumption | (apply Ne.symm; assumption) | (simp; done)) (lk1 (by first | assumption | (apply Ne.symm; assumption) | (simp; done)) (lk1 (by first | assumption | (apply Ne.symm; assumption) | (simp; done)) (by assumption)))) | exact lk1 (by first | assumption | (apply Ne.symm; assumption) | (simp; done)) (lk1 (by first | assumption | (apply Ne.symm; assumption) | (simp; done)) (lk1 (by first | assumption | (apply Ne.symm; assumption) | (simp; done)) (lk1 (by first | assumption | (apply Ne.symm; assumption) | (simp; done)) (va_up_self _ _ _))))) rfl rfl ?_
  refine pw_iload_n (pc := 5) dX8_lost_5 rfl ?_
  refine pw_callS_i (pc := 6) cs_X8_124 dX8_lost_6 (c_misList i) rfl rfl (Nat.le_of_ble_eq_true rfl) ⟨(Nat.le_of_ble_eq_true rfl), (Nat.le_of_ble_eq_true rfl)⟩ ?_
  refine pw_if_ne_b (pc := 9) 14 dX8_lost_9 (by decide) (fun z => absurd z z0) (fun z => ?_)
  refine pw_iconst (pc := 12) (-1) dX8_lost_12 (by decide) ?_
  refine pw_iret dX8_lost_13 rfl ⟨?_, ⟨⟨_, _, _, _, _, _, _, _, va_up_self _ _ _⟩, ma.on up_m⟩, on_m⟩
  rw [a_lost, z]; rfl
end Y2
