theorem okC_s {R : RecS} {lo hi i n : Nat} (h : okC R lo hi i n) (h2 : dtA R i n ≠ -9 → ∀ l, lsD R i n = some l → prZ R lo hi i l n) : okC R lo hi i (n + 1) := fun j hj hd l hl => by
  by_cases e : j = n
  · subst e; exact h2 hd l hl
  · exact h j (by omega) hd l hl
theorem wi_iff {R : RecS} (hw : wfR R) {lo hi i l j : Nat} (hi4 : i < 4) (hlj : l < j) (hj : j < (R.1 i).length) (hl : dtA R i l ≠ -9) (hd : dtA R i j ≠ -9) (hlo : lo ≤ 60) (hhi : hi ≤ 60) : wiB R (nI lo) (nI hi) i l j = true ↔ prZ R lo hi i l j := by
  have dj := rg_t ((dtA_rng hw hi4 hj).resolve_left hd)
  have dl := rg_t ((dtA_rng hw hi4 (show l < (R.1 i).length by omega)).resolve_left hl)
  have hlen := (hw.1 i hi4).1
  have hsub := i32_sub (a := dtA R i j) (b := dtA R i l) (by omega) (by omega)
  have b1 : (j - l) * lo ≤ 12 * 60 := Nat.mul_le_mul (by omega) hlo
  have b2 : (j - l) * hi ≤ 12 * 60 := Nat.mul_le_mul (by omega) hhi
  unfold wiB prZ rg
  rw [decide_eq_true_iff, pk_mul, pk_mul, Nat.mul_comm lo, Nat.mul_comm hi, nI_toInt (by omega), nI_toInt (by omega), hsub]
section Y3
variable {E : EV} {h : HP} {n m : Nat} {S : AS}
theorem o_span1 (hm : modP h m S) (hws : wfS S) (p kk : Nat) (w : Int32) (hp : p ≤ 3) (z0 : rg 0 3 (nI p) = true) (ep : ixN (nI p) = p) (hkk : kk < ((sN S).1 p).length) (ek : ixN (nI kk) = kk) (zw : rg 0 1 w = true) : PM E mX8_span [.ref m, .int (nI p), .int (nI kk), .int w] h n n 0 (QM m h (some (.int (a_span S (nI p) (nI kk) w))) S) := by
  obtain ⟨⟨th, nx, tk, pl, vl, ft, sz, nm, m0⟩, ma⟩ := id hm
  have hw := hws.2.2.2.1
  obtain ⟨lo, hlo, el, el2⟩ := rg_ix (hi := 60) (rg_wide hws.2.2.2.2.2.2.1 (by omega) (by omega))
  obtain ⟨hi, hhi, eh, eh2⟩ := rg_ix (hi := 60) (rg_wide hws.2.2.2.2.2.2.2.1 (by omega) (by omega))
  have hlh := hws.2.2.2.2.2.2.2.2
  rw [el, eh, nI_toInt (by omega), nI_toInt (by omega)] at hlh
  have hlen := (hw.1 p (by omega)).1
  have fit := fit_iff hw (lo := lo) (hi := hi) (i := p) (by omega) hlo hhi (by omega)
  have h6 : (1000000 : Int32).toInt = 1000000 := by decide
  have h7 : (-1000000 : Int32).toInt = -1000000 := by decide
  have eok : okSpan S (nI p) (nI kk) w = (anyD (sN S) p ((sN S).1 p).length && fitF (sN S) (nI lo) (nI hi) p ((sN S).1 p).length) := by
    have e1 : decide (0 ≤ (nI kk).toInt ∧ (nI kk).toInt < (((sN S).1 p).length : Int)) = true := by
      rw [nI_toInt (by omega)]; exact decide_eq_true ⟨by omega, by omega⟩
    rw [okSpan, z0, zw, ep, el, eh, show decide (0 ≤ (nI kk).toInt ∧ (nI kk).toInt < ((sLs S p).length : Int)) = true from e1]; rfl
  have fin_no : ¬ okC (sN S) lo hi p ((sN S).1 p).length → a_span S (nI p) (nI kk) w = -1000000 := by
    intro hn
    have : fitF (sN S) (nI lo) (nI hi) p ((sN S).1 p).length = false := by
      cases e : fitF (sN S) (nI lo) (nI hi) p ((sN S).1 p).length with
      | false => rfl
      | true => exact absurd (fit.mp e) hn
    rw [a_span, eok, this, Bool.and_false]; rfl
  have fin_ok : okC (sN S) lo hi p ((sN S).1 p).length → a_span S (nI p) (nI kk) w = bdF (sN S) (nI lo) (nI hi) p kk w ((sN S).1 p).length := by
    intro hy
    rw [a_span, eok, fit.mpr hy, Bool.and_true, ep, ek, el, eh, bdF]
    cases e : anyD (sN S) p ((sN S).1 p).length with
    | true => rfl
    | false =>
      show (-1000000 : Int32) = if w = 0 then earF (sN S) (nI lo) (nI hi) p kk ((sN S).1 p).length else -1000000
      split
      · rcases (ear_spec hw (lo := lo) (hi := hi) (k := kk) (show p < 4 by omega) hlo hhi (by omega) _ (Nat.le_refl _)).2 with q | ⟨j, q1, q2, -⟩
        · exact q.1.symm
        · have := (anyD_iff (R := sN S) (i := p) _).mpr ⟨j, q1, q2⟩
          rw [e] at this; cases this
      · rfl
  refine PM.of [.ref m, .int (nI p), .int (nI kk), .int w, .null, .null, .null, .null, .null] rfl (Nat.le_of_ble_eq_true rfl) rfl ?_
  refine pw_aload_n (pc := 0) dX8_span_0 rfl ?_
  refine pw_iconst (pc := 1) (nI 0) dX8_span_1 (by decide) ?_
  refine pw_put0 (pc := 2) fp_X8_61 dX8_span_2 (by first | assumption | exact va_up_self _ _ _ | exact lk1 (by first | assumption | (apply Ne.symm; assumption) | (simp; done)) (by assumption) | exact lk1 (by first | assumption | (apply Ne.symm; assumption) | (simp; done)) (va_up_self _ _ _) | exact lk1 (by first | assumption | (apply Ne.symm; assumption) | (simp; done)) (lk1 (by first | assumption | (apply Ne.symm; assumption) | (simp; done)) (by assumption)) | exact lk1 (by first | assumption | (apply Ne.symm; assumption) | (simp; done)) (lk1 (by first | assumption | (apply Ne.symm; assumption) | (simp; done)) (va_up_self _ _ _)) | exact lk1 (by first | assumption | (apply Ne.symm; assumption) | (simp; done)) (lk1 (by first | assumption | (apply Ne.symm; assumption) | (simp; done)) (lk1 (by first | assumption | (apply Ne.symm; assumption) | (simp; done)) (by assumption))) | exact lk1 (by first | assumption | (apply Ne.symm; assumption) | (simp; done)) (lk1 (by first | assumption | (apply Ne.symm; assumption) | (simp; done)) (lk1 (by first | assumption | (apply Ne.symm; assumption) | (simp; done)) (va_up_self _ _ _))) | exact lk1 (by first | assumption | (apply Ne.symm; assumption) | (simp; done)) (lk1 (by first | assumption | (apply Ne.symm; assumption) | (simp; done)) (lk1 (by first | assumption | (apply Ne.symm; assumption) | (simp; done)) (lk1 (by first | assumption | (apply Ne.symm; assumption) | (simp; done)) (by assumption)))) | exact lk1 (by first | assumption | (apply Ne.symm; assumption) | (simp; done)) (lk1 (by first | assumption | (apply Ne.symm; assumption) | (simp; done)) (lk1 (by first | assumption | (apply Ne.symm; assumption) | (simp; done)) (lk1 (by first | assumption | (apply Ne.symm; assumption) | (simp; done)) (va_up_self _ _ _))))) rfl rfl ?_
  have p0 : gthP h (va_up h m (some (.inr (8, mob m (nI 0) (sQ S) (nI (sT S).length) nx tk pl vl ft (sLo S) (sHi S) sz nm)))) m S := ⟨⟨_, _, _, _, _, _, _, va_up_self _ _ _⟩, ma.on up_m, on_m⟩
  generalize va_up h m (some (.inr (8, mob m (nI 0) (sQ S) (nI (sT S).length) nx tk pl vl ft (sLo S) (sHi S) sz nm))) = h2 at p0
  obtain ⟨⟨nx, tk, pl, vl, ft, sz, nm, m0⟩, ma, mo⟩ := id p0
  obtain ⟨⟨g, q1, k1⟩, -⟩ := id ma
  rw [el, eh] at m0
  have es := k1.z.1 p (by omega)
  refine pw_iload_n (pc := 5) dX8_span_5 rfl ?_
  refine pw_callS_i (pc := 6) cs_X8_124 dX8_span_6 (c_misList (nI p)) rfl rfl (Nat.le_of_ble_eq_true rfl) ⟨(Nat.le_of_ble_eq_true rfl), (Nat.le_of_ble_eq_true rfl)⟩ ?_
  refine pw_if_eq_b (pc := 9) 36 dX8_span_9 (by decide) (fun z => by rw [z0] at z; cases z) (fun _ => ?_)
  refine pw_iload_n (pc := 12) dX8_span_12 rfl ?_
  refine pw_iconst (pc := 13) (nI 0) dX8_span_13 (by decide) ?_
  refine pw_aload_n (pc := 14) dX8_span_14 rfl ?_
  refine pw_iload_n (pc := 15) dX8_span_15 rfl ?_
  refine pw_callV_i (pc := 16) cv_X8_68 dX8_span_16 (by first | assumption | exact va_up_self _ _ _ | exact lk1 (by first | assumption | (apply Ne.symm; assumption) | (simp; done)) (by assumption) | exact lk1 (by first | assumption | (apply Ne.symm; assumption) | (simp; done)) (va_up_self _ _ _) | exact lk1 (by first | assumption | (apply Ne.symm; assumption) | (simp; done)) (lk1 (by first | assumption | (apply Ne.symm; assumption) | (simp; done)) (by assumption)) | exact lk1 (by first | assumption | (apply Ne.symm; assumption) | (simp; done)) (lk1 (by first | assumption | (apply Ne.symm; assumption) | (simp; done)) (va_up_self _ _ _)) | exact lk1 (by first | assumption | (apply Ne.symm; assumption) | (simp; done)) (lk1 (by first | assumption | (apply Ne.symm; assumption) | (simp; done)) (lk1 (by first | assumption | (apply Ne.symm; assumption) | (simp; done)) (by assumption))) | exact lk1 (by first | assumption | (apply Ne.symm; assumption) | (simp; done)) (lk1 (by first | assumption | (apply Ne.symm; assumption) | (simp; done)) (lk1 (by first | assumption | (apply Ne.symm; assumption) | (simp; done)) (va_up_self _ _ _))) | exact lk1 (by first | assumption | (apply Ne.symm; assumption) | (simp; done)) (lk1 (by first | assumption | (apply Ne.symm; assumption) | (simp; done)) (lk1 (by first | assumption | (apply Ne.symm; assumption) | (simp; done)) (lk1 (by first | assumption | (apply Ne.symm; assumption) | (simp; done)) (by assumption)))) | exact lk1 (by first | assumption | (apply Ne.symm; assumption) | (simp; done)) (lk1 (by first | assumption | (apply Ne.symm; assumption) | (simp; done)) (lk1 (by first | assumption | (apply Ne.symm; assumption) | (simp; done)) (lk1 (by first | assumption | (apply Ne.symm; assumption) | (simp; done)) (va_up_self _ _ _))))) rfl (c_msizeOf m0 rfl q1 p (by omega)) rfl rfl (Nat.le_of_ble_eq_true rfl) ⟨(Nat.le_of_ble_eq_true rfl), (Nat.le_of_ble_eq_true rfl)⟩ ?_
  rw [es]
  refine pw_iconst (pc := 19) (nI 1) dX8_span_19 (by decide) ?_
  refine pw_isub (pc := 20) dX8_span_20 ?_
  rw [pk_sub (by omega)]
  refine pw_callS_i (pc := 21) cs_X8_64 dX8_span_21 (c_in _ _ _) rfl rfl (Nat.le_of_ble_eq_true rfl) ⟨(Nat.le_of_ble_eq_true rfl), (Nat.le_of_ble_eq_true rfl)⟩ ?_
  have zk : rg (nI 0).toInt (nI (((sN S).1 p).length - 1)).toInt (nI kk) = true := by
    refine rg_yes ?_ ?_ <;> rw [nI_toInt (by omega), nI_toInt (by omega)] <;> omega
  refine pw_if_eq_b (pc := 24) 36 dX8_span_24 (by decide) (fun z => by rw [zk] at z; cases z) (fun _ => ?_)
  refine pw_iload_n (pc := 27) dX8_span_27 rfl ?_
  refine pw_iconst (pc := 28) (nI 0) dX8_span_28 (by decide) ?_
  refine pw_iconst (pc := 29) (nI 1) dX8_span_29 (by decide) ?_
  refine pw_callS_i (pc := 30) cs_X8_64 dX8_span_30 (c_in w (nI 0) (nI 1)) rfl rfl (Nat.le_of_ble_eq_true rfl) ⟨(Nat.le_of_ble_eq_true rfl), (Nat.le_of_ble_eq_true rfl)⟩ ?_
  refine pw_if_ne_b (pc := 33) 39 dX8_span_33 (by decide) (fun _ => ?_) (fun z => by rw [show rg (nI 0).toInt (nI 1).toInt w = true from zw] at z; cases z)
  have loop : ∀ r j w7 w8, j + r = ((sN S).1 p).length → okC (sN S) lo hi p j → PW (KX E mX8_span n (QM m h (some (.int (a_span S (nI p) (nI kk) w))) S)) 50 [.ref m, .int (nI p), .int (nI kk), .int w, .int (bdF (sN S) (nI lo) (nI hi) p kk w j), .int (oI (lsD (sN S) p j)), .int (nI j), w7, w8] [] h2 n 0 := by
    intro r
    induction r with
    | zero =>
      intro j w7 w8 hj hoc
      refine pw_iload (pc := 50) dX8_span_50 rfl ?_
      refine pw_aload_n (pc := 52) dX8_span_52 rfl ?_
      refine pw_iload_n (pc := 53) dX8_span_53 rfl ?_
      refine pw_callV_i (pc := 54) cv_X8_68 dX8_span_54 (by first | assumption | exact va_up_self _ _ _ | exact lk1 (by first | assumption | (apply Ne.symm; assumption) | (simp; done)) (by assumption) | exact lk1 (by first | assumption | (apply Ne.symm; assumption) | (simp; done)) (va_up_self _ _ _) | exact lk1 (by first | assumption | (apply Ne.symm; assumption) | (simp; done)) (lk1 (by first | assumption | (apply Ne.symm; assumption) | (simp; done)) (by assumption)) | exact lk1 (by first | assumption | (apply Ne.symm; assumption) | (simp; done)) (lk1 (by first | assumption | (apply Ne.symm; assumption) | (simp; done)) (va_up_self _ _ _)) | exact lk1 (by first | assumption | (apply Ne.symm; assumption) | (simp; done)) (lk1 (by first | assumption | (apply Ne.symm; assumption) | (simp; done)) (lk1 (by first | assumption | (apply Ne.symm; assumption) | (simp; done)) (by assumption))) | exact lk1 (by first | assumption | (apply Ne.symm; assumption) | (simp; done)) (lk1 (by first | assumption | (apply Ne.symm; assumption) | (simp; done)) (lk1 (by first | assumption | (apply Ne.symm; assumption) | (simp; done)) (va_up_self _ _ _))) | exact lk1 (by first | assumption | (apply Ne.symm; assumption) | (simp; done)) (lk1 (by first | assumption | (apply Ne.symm; assumption) | (simp; done)) (lk1 (by first | assumption | (apply Ne.symm; assumption) | (simp; done)) (lk1 (by first | assumption | (apply Ne.symm; assumption) | (simp; done)) (by assumption)))) | exact lk1 (by first | assumption | (apply Ne.symm; assumption) | (simp; done)) (lk1 (by first | assumption | (apply Ne.symm; assumption) | (simp; done)) (lk1 (by first | assumption | (apply Ne.symm; assumption) | (simp; done)) (lk1 (by first | assumption | (apply Ne.symm; assumption) | (simp; done)) (va_up_self _ _ _))))) rfl (c_msizeOf m0 rfl q1 p (by omega)) rfl rfl (Nat.le_of_ble_eq_true rfl) ⟨(Nat.le_of_ble_eq_true rfl), (Nat.le_of_ble_eq_true rfl)⟩ ?_
      rw [es]
      refine pw_icmp_ge_n (pc := 57) 194 dX8_span_57 (by decide) (by omega) (by omega) (fun cb => ?_) (fun cb => ?_)
      · obtain rfl : j = ((sN S).1 p).length := by omega
        refine pw_iload (pc := 194) dX8_span_194 rfl ?_
        exact pw_iret dX8_span_196 rfl (p0.Q (by rw [fin_ok hoc]))
      · omega
    | succ r ih =>
      intro j w7 w8 hj hoc
      have hjl : j < ((sN S).1 p).length := by omega
      refine pw_iload (pc := 50) dX8_span_50 rfl ?_
      refine pw_aload_n (pc := 52) dX8_span_52 rfl ?_
      refine pw_iload_n (pc := 53) dX8_span_53 rfl ?_
      refine pw_callV_i (pc := 54) cv_X8_68 dX8_span_54 (by first | assumption | exact va_up_self _ _ _ | exact lk1 (by first | assumption | (apply Ne.symm; assumption) | (simp; done)) (by assumption) | exact lk1 (by first | assumption | (apply Ne.symm; assumption) | (simp; done)) (va_up_self _ _ _) | exact lk1 (by first | assumption | (apply Ne.symm; assumption) | (simp; done)) (lk1 (by first | assumption | (apply Ne.symm; assumption) | (simp; done)) (by assumption)) | exact lk1 (by first | assumption | (apply Ne.symm; assumption) | (simp; done)) (lk1 (by first | assumption | (apply Ne.symm; assumption) | (simp; done)) (va_up_self _ _ _)) | exact lk1 (by first | assumption | (apply Ne.symm; assumption) | (simp; done)) (lk1 (by first | assumption | (apply Ne.symm; assumption) | (simp; done)) (lk1 (by first | assumption | (apply Ne.symm; assumption) | (simp; done)) (by assumption))) | exact lk1 (by first | assumption | (apply Ne.symm; assumption) | (simp; done)) (lk1 (by first | assumption | (apply Ne.symm; assumption) | (simp; done)) (lk1 (by first | assumption | (apply Ne.symm; assumption) | (simp; done)) (va_up_self _ _ _))) | exact lk1 (by first | assumption | (apply Ne.symm; assumption) | (simp; done)) (lk1 (by first | assumption | (apply Ne.symm; assumption) | (simp; done)) (lk1 (by first | assumption | (apply Ne.symm; assumption) | (simp; done)) (lk1 (by first | assumption | (apply Ne.symm; assumption) | (simp; done)) (by assumption)))) | exact lk1 (by first | assumption | (apply Ne.symm; assumption) | (simp; done)) (lk1 (by first | assumption | (apply Ne.symm; assumption) | (simp; done)) (lk1 (by first | assumption | (apply Ne.symm; assumption) | (simp; done)) (lk1 (by first | assumption | (apply Ne.symm; assumption) | (simp; done)) (va_up_self _ _ _))))) rfl (c_msizeOf m0 rfl q1 p (by omega)) rfl rfl (Nat.le_of_ble_eq_true rfl) ⟨(Nat.le_of_ble_eq_true rfl), (Nat.le_of_ble_eq_true rfl)⟩ ?_
      rw [es]
      refine pw_icmp_ge_n (pc := 57) 194 dX8_span_57 (by decide) (by omega) (by omega) (fun cb => ?_) (fun cb => ?_)
      · omega
      · refine pw_aload_n (pc := 60) dX8_span_60 rfl ?_
        refine pw_iload_n (pc := 61) dX8_span_61 rfl ?_
        refine pw_iload (pc := 62) dX8_span_62 rfl ?_
        refine pw_callV_i (pc := 64) cv_X8_183 dX8_span_64 (by first | assumption | exact va_up_self _ _ _ | exact lk1 (by first | assumption | (apply Ne.symm; assumption) | (simp; done)) (by assumption) | exact lk1 (by first | assumption | (apply Ne.symm; assumption) | (simp; done)) (va_up_self _ _ _) | exact lk1 (by first | assumption | (apply Ne.symm; assumption) | (simp; done)) (lk1 (by first | assumption | (apply Ne.symm; assumption) | (simp; done)) (by assumption)) | exact lk1 (by first | assumption | (apply Ne.symm; assumption) | (simp; done)) (lk1 (by first | assumption | (apply Ne.symm; assumption) | (simp; done)) (va_up_self _ _ _)) | exact lk1 (by first | assumption | (apply Ne.symm; assumption) | (simp; done)) (lk1 (by first | assumption | (apply Ne.symm; assumption) | (simp; done)) (lk1 (by first | assumption | (apply Ne.symm; assumption) | (simp; done)) (by assumption))) | exact lk1 (by first | assumption | (apply Ne.symm; assumption) | (simp; done)) (lk1 (by first | assumption | (apply Ne.symm; assumption) | (simp; done)) (lk1 (by first | assumption | (apply Ne.symm; assumption) | (simp; done)) (va_up_self _ _ _))) | exact lk1 (by first | assumption | (apply Ne.symm; assumption) | (simp; done)) (lk1 (by first | assumption | (apply Ne.symm; assumption) | (simp; done)) (lk1 (by first | assumption | (apply Ne.symm; assumption) | (simp; done)) (lk1 (by first | assumption | (apply Ne.symm; assumption) | (simp; done)) (by assumption)))) | exact lk1 (by first | assumption | (apply Ne.symm; assumption) | (simp; done)) (lk1 (by first | assumption | (apply Ne.symm; assumption) | (simp; done)) (lk1 (by first | assumption | (apply Ne.symm; assumption) | (simp; done)) (lk1 (by first | assumption | (apply Ne.symm; assumption) | (simp; done)) (va_up_self _ _ _))))) rfl (c_mdateAt m0 rfl q1 k1 hw p j (by omega) hjl) rfl rfl (Nat.le_of_ble_eq_true rfl) ⟨(Nat.le_of_ble_eq_true rfl), (Nat.le_of_ble_eq_true rfl)⟩ ?_
        refine pw_bipush (pc := 67) (-9) dX8_span_67 (by decide) ?_
        refine pw_icmp_eq (pc := 69) 188 dX8_span_69 (by decide) (fun z1 => ?_) (fun z1 => ?_)
        · refine pw_iinc6 (pc := 188) (nI (j + 1)) dX8_span_188 (Nat.le_of_ble_eq_true rfl) rfl (ni_inc _) ?_
          refine pw_goto (pc := 191) 50 dX8_span_191 (by decide) ?_
          have e1 : bdF (sN S) (nI lo) (nI hi) p kk w (j + 1) = bdF (sN S) (nI lo) (nI hi) p kk w j := by
            have f1 : earF (sN S) (nI lo) (nI hi) p kk (j + 1) = earF (sN S) (nI lo) (nI hi) p kk j := by rw [earF, if_pos z1]
            have f2 : latF (sN S) (nI lo) (nI hi) p kk (j + 1) = latF (sN S) (nI lo) (nI hi) p kk j := by rw [latF, if_pos z1]
            have f3 : anyD (sN S) p (j + 1) = anyD (sN S) p j := by rw [anyD, decide_eq_false (fun q => q z1), Bool.or_false]
            rw [bdF, bdF, f1, f2, f3]
          have e2 : lsD (sN S) p (j + 1) = lsD (sN S) p j := by rw [lsD, if_pos z1]
          rw [← e1, ← e2]
          exact ih (j + 1) _ _ (by omega) (okC_s hoc (fun q => absurd z1 q))
        · have e2 : lsD (sN S) p (j + 1) = some j := by rw [lsD, if_neg z1]
          have go : okC (sN S) lo hi p (j + 1) → PW (KX E mX8_span n (QM m h (some (.int (a_span S (nI p) (nI kk) w))) S)) 94 [.ref m, .int (nI p), .int (nI kk), .int w, .int (bdF (sN S) (nI lo) (nI hi) p kk w j), .int (oI (lsD (sN S) p j)), .int (nI j), w7, w8] [] h2 n 0 := by
            intro hoc1
            have keep : ∀ b' w7 w8, b' = bdF (sN S) (nI lo) (nI hi) p kk w (j + 1) → PW (KX E mX8_span n (QM m h (some (.int (a_span S (nI p) (nI kk) w))) S)) 188 [.ref m, .int (nI p), .int (nI kk), .int w, .int b', .int (nI j), .int (nI j), .int w7, .int w8] [] h2 n 0 := by
              intro b' w7 w8 eb
              refine pw_iinc6 (pc := 188) (nI (j + 1)) dX8_span_188 (Nat.le_of_ble_eq_true rfl) rfl (ni_inc _) ?_
              refine pw_goto (pc := 191) 50 dX8_span_191 (by decide) ?_
              rw [eb]
              have := ih (j + 1) (.int w7) (.int w8) (by omega) hoc1
              rw [e2] at this
              exact this
            have dec : ∀ v w7, (w = 0 → v = dtA (sN S) p j + (nI kk - nI j) * (if j ≤ kk then nI lo else nI hi)) → (w ≠ 0 → v = dtA (sN S) p j + (nI kk - nI j) * (if j ≤ kk then nI hi else nI lo)) → PW (KX E mX8_span n (QM m h (some (.int (a_span S (nI p) (nI kk) w))) S)) 151 [.ref m, .int (nI p), .int (nI kk), .int w, .int (bdF (sN S) (nI lo) (nI hi) p kk w j), .int (nI j), .int (nI j), .int w7, .int v] [] h2 n 0 := by
              intro v w7 hv0 hv1
              have s0 : w = 0 → bdF (sN S) (nI lo) (nI hi) p kk w (j + 1) = mxI (bdF (sN S) (nI lo) (nI hi) p kk w j) v ∧ -100000 ≤ v.toInt := by
                intro q
                have b := ez_32 hw (lo := lo) (hi := hi) (k := kk) (show p < 4 by omega) hjl z1 hlo hhi (by omega)
                refine ⟨?_, ?_⟩
                · rw [bdF, if_pos q, bdF, if_pos q, earF, if_neg z1, hv0 q]
                · rw [hv0 q, b.1]; exact b.2.1
              have s1 : w ≠ 0 → bdF (sN S) (nI lo) (nI hi) p kk w (j + 1) = mnI (latF (sN S) (nI lo) (nI hi) p kk j) v ∧ v.toInt ≤ 100000 := by
                intro q
                have b := ez_32 hw (lo := hi) (hi := lo) (k := kk) (show p < 4 by omega) hjl z1 hhi hlo (by omega)
                have ha : anyD (sN S) p (j + 1) = true := (anyD_iff _).mpr ⟨j, by omega, z1⟩
                refine ⟨?_, ?_⟩
                · rw [bdF, if_neg q, ha, if_pos rfl, latF, if_neg z1, hv1 q]
                · rw [hv1 q, b.1]; exact b.2.2
              have ls := lat_spec hw (lo := lo) (hi := hi) (k := kk) (show p < 4 by omega) hlo hhi (by omega) j (by omega)
              refine pw_iload (pc := 151) dX8_span_151 rfl ?_
              refine pw_ldc (pc := 153) (-1000000) dX8_span_153 lc_X8_186 ?_
              refine pw_icmp_eq (pc := 155) 179 dX8_span_155 (by decide) (fun y => ?_) (fun y => ?_)
              · refine pw_iload (pc := 179) dX8_span_179 rfl ?_
                refine pw_goto (pc := 181) 186 dX8_span_181 (by decide) ?_
                refine pw_ist4 (pc := 186) dX8_span_186 (Nat.le_of_ble_eq_true rfl) rfl ?_
                refine keep v _ _ ?_
                by_cases q : w = 0
                · obtain ⟨a1, a2⟩ := s0 q
                  rw [a1, y, mxI, if_pos (by rw [i32_lt, h7]; omega)]
                · obtain ⟨a1, a2⟩ := s1 q
                  have hna : latF (sN S) (nI lo) (nI hi) p kk j = 1000000 := by
                    rcases ls.2 with ⟨l1, l2⟩ | ⟨j2, l1, l2, l3⟩
                    · exact l1
                    · exfalso
                      have ha : anyD (sN S) p j = true := (anyD_iff _).mpr ⟨j2, l1, l2⟩
                      have b := ez_32 hw (lo := hi) (hi := lo) (k := kk) (show p < 4 by omega) (show j2 < ((sN S).1 p).length by omega) l2 hhi hlo (by omega)
                      rw [bdF, if_neg q, ha, if_pos rfl] at y
                      rw [y, h7] at l3
                      omega
                  rw [a1, hna, mnI, if_pos (by rw [i32_lt, h6]; omega)]
              · refine pw_iload_n (pc := 158) dX8_span_158 rfl ?_
                refine pw_if_ne (pc := 159) 172 dX8_span_159 (by decide) (fun q => ?_) (fun q => ?_)
                · obtain ⟨a1, a2⟩ := s1 q
                  have eb : bdF (sN S) (nI lo) (nI hi) p kk w j = latF (sN S) (nI lo) (nI hi) p kk j := by
                    rw [bdF, if_neg q]
                    cases ea : anyD (sN S) p j with
                    | true => rfl
                    | false => exact absurd (by rw [bdF, if_neg q, ea]; rfl) y
                  rw [eb]
                  refine pw_iload (pc := 172) dX8_span_172 rfl ?_
                  refine pw_iload (pc := 174) dX8_span_174 rfl ?_
                  refine pw_icmp_ge (pc := 176) 184 dX8_span_176 (by decide) (fun y2 => ?_) (fun y2 => ?_)
                  · refine pw_iload (pc := 184) dX8_span_184 rfl ?_
                    refine pw_ist4 (pc := 186) dX8_span_186 (Nat.le_of_ble_eq_true rfl) rfl ?_
                    refine keep _ _ _ ?_
                    rw [i32_le] at y2
                    rw [a1, mnI, if_neg (by rw [i32_lt]; omega)]
                  · refine pw_iload (pc := 179) dX8_span_179 rfl ?_
                    refine pw_goto (pc := 181) 186 dX8_span_181 (by decide) ?_
                    refine pw_ist4 (pc := 186) dX8_span_186 (Nat.le_of_ble_eq_true rfl) rfl ?_
                    refine keep _ _ _ ?_
                    rw [i32_le] at y2
                    rw [a1, mnI, if_pos (by rw [i32_lt]; omega)]
                · obtain ⟨a1, a2⟩ := s0 q
                  refine pw_iload (pc := 162) dX8_span_162 rfl ?_
                  refine pw_iload (pc := 164) dX8_span_164 rfl ?_
                  refine pw_icmp_le (pc := 166) 184 dX8_span_166 (by decide) (fun y2 => ?_) (fun y2 => ?_)
                  · refine pw_iload (pc := 184) dX8_span_184 rfl ?_
                    refine pw_ist4 (pc := 186) dX8_span_186 (Nat.le_of_ble_eq_true rfl) rfl ?_
                    refine keep _ _ _ ?_
                    rw [i32_le] at y2
                    rw [a1, mxI, if_neg (by rw [i32_lt]; omega)]
                  · refine pw_goto (pc := 169) 179 dX8_span_169 (by decide) ?_
                    refine pw_iload (pc := 179) dX8_span_179 rfl ?_
                    refine pw_goto (pc := 181) 186 dX8_span_181 (by decide) ?_
                    refine pw_ist4 (pc := 186) dX8_span_186 (Nat.le_of_ble_eq_true rfl) rfl ?_
                    refine keep _ _ _ ?_
                    rw [i32_le] at y2
                    rw [a1, mxI, if_pos (by rw [i32_lt]; omega)]
            have mul : ∀ by' w7 w8, (w = 0 → by' = if j < kk then nI lo else nI hi) → (w ≠ 0 → by' = if j < kk then nI hi else nI lo) → PW (KX E mX8_span n (QM m h (some (.int (a_span S (nI p) (nI kk) w))) S)) 132 [.ref m, .int (nI p), .int (nI kk), .int w, .int (bdF (sN S) (nI lo) (nI hi) p kk w j), .int (nI j), .int (nI j), w7, w8] [.int by'] h2 n 0 := by
              intro by' w7 w8 hb0 hb1
              refine pw_ist7 (pc := 132) dX8_span_132 (Nat.le_of_ble_eq_true rfl) rfl ?_
              refine pw_aload_n (pc := 134) dX8_span_134 rfl ?_
              refine pw_iload_n (pc := 135) dX8_span_135 rfl ?_
              refine pw_iload (pc := 136) dX8_span_136 rfl ?_
              refine pw_callV_i (pc := 138) cv_X8_183 dX8_span_138 (by first | assumption | exact va_up_self _ _ _ | exact lk1 (by first | assumption | (apply Ne.symm; assumption) | (simp; done)) (by assumption) | exact lk1 (by first | assumption | (apply Ne.symm; assumption) | (simp; done)) (va_up_self _ _ _) | exact lk1 (by first | assumption | (apply Ne.symm; assumption) | (simp; done)) (lk1 (by first | assumption | (apply Ne.symm; assumption) | (simp; done)) (by assumption)) | exact lk1 (by first | assumption | (apply Ne.symm; assumption) | (simp; done)) (lk1 (by first | assumption | (apply Ne.symm; assumption) | (simp; done)) (va_up_self _ _ _)) | exact lk1 (by first | assumption | (apply Ne.symm; assumption) | (simp; done)) (lk1 (by first | assumption | (apply Ne.symm; assumption) | (simp; done)) (lk1 (by first | assumption | (apply Ne.symm; assumption) | (simp; done)) (by assumption))) | exact lk1 (by first | assumption | (apply Ne.symm; assumption) | (simp; done)) (lk1 (by first | assumption | (apply Ne.symm; assumption) | (simp; done)) (lk1 (by first | assumption | (apply Ne.symm; assumption) | (simp; done)) (va_up_self _ _ _))) | exact lk1 (by first | assumption | (apply Ne.symm; assumption) | (simp; done)) (lk1 (by first | assumption | (apply Ne.symm; assumption) | (simp; done)) (lk1 (by first | assumption | (apply Ne.symm; assumption) | (simp; done)) (lk1 (by first | assumption | (apply Ne.symm; assumption) | (simp; done)) (by assumption)))) | exact lk1 (by first | assumption | (apply Ne.symm; assumption) | (simp; done)) (lk1 (by first | assumption | (apply Ne.symm; assumption) | (simp; done)) (lk1 (by first | assumption | (apply Ne.symm; assumption) | (simp; done)) (lk1 (by first | assumption | (apply Ne.symm; assumption) | (simp; done)) (va_up_self _ _ _))))) rfl (c_mdateAt m0 rfl q1 k1 hw p j (by omega) hjl) rfl rfl (Nat.le_of_ble_eq_true rfl) ⟨(Nat.le_of_ble_eq_true rfl), (Nat.le_of_ble_eq_true rfl)⟩ ?_
              refine pw_iload (pc := 141) dX8_span_141 rfl ?_
              refine pw_iload_n (pc := 143) dX8_span_143 rfl ?_
              refine pw_iload (pc := 144) dX8_span_144 rfl ?_
              refine pw_isub (pc := 146) dX8_span_146 ?_
              refine pw_imul (pc := 147) dX8_span_147 ?_
              refine pw_iadd (pc := 148) dX8_span_148 ?_
              refine pw_ist8 (pc := 149) dX8_span_149 (Nat.le_of_ble_eq_true rfl) rfl ?_
              refine dec _ _ (fun q => ?_) (fun q => ?_)
              · rw [hb0 q, Int32.mul_comm, by_eq]
              · rw [hb1 q, Int32.mul_comm, by_eq]
            refine pw_iload (pc := 94) dX8_span_94 rfl ?_
            refine pw_ist5 (pc := 96) dX8_span_96 (Nat.le_of_ble_eq_true rfl) rfl ?_
            refine pw_iload (pc := 98) dX8_span_98 rfl ?_
            refine pw_iload_n (pc := 100) dX8_span_100 rfl ?_
            refine pw_icmp_ge_n (pc := 101) 108 dX8_span_101 (by decide) (by omega) (by omega) (fun y => ?_) (fun y => ?_)
            · refine pw_iconst (pc := 108) (nI 0) dX8_span_108 (by decide) ?_
              refine pw_iload_n (pc := 109) dX8_span_109 rfl ?_
              refine pw_if_ne (pc := 110) 117 dX8_span_110 (by decide) (fun q => ?_) (fun q => ?_)
              · refine pw_iconst (pc := 117) (nI 0) dX8_span_117 (by decide) ?_
                refine pw_icmp_ne (pc := 118) 128 dX8_span_118 (by decide) (fun y2 => absurd rfl y2) (fun y2 => ?_)
                refine pw_aload_n (pc := 121) dX8_span_121 rfl ?_
                refine pw_get (pc := 122) fg_X8_26 dX8_span_122 (by first | assumption | exact va_up_self _ _ _ | exact lk1 (by first | assumption | (apply Ne.symm; assumption) | (simp; done)) (by assumption) | exact lk1 (by first | assumption | (apply Ne.symm; assumption) | (simp; done)) (va_up_self _ _ _) | exact lk1 (by first | assumption | (apply Ne.symm; assumption) | (simp; done)) (lk1 (by first | assumption | (apply Ne.symm; assumption) | (simp; done)) (by assumption)) | exact lk1 (by first | assumption | (apply Ne.symm; assumption) | (simp; done)) (lk1 (by first | assumption | (apply Ne.symm; assumption) | (simp; done)) (va_up_self _ _ _)) | exact lk1 (by first | assumption | (apply Ne.symm; assumption) | (simp; done)) (lk1 (by first | assumption | (apply Ne.symm; assumption) | (simp; done)) (lk1 (by first | assumption | (apply Ne.symm; assumption) | (simp; done)) (by assumption))) | exact lk1 (by first | assumption | (apply Ne.symm; assumption) | (simp; done)) (lk1 (by first | assumption | (apply Ne.symm; assumption) | (simp; done)) (lk1 (by first | assumption | (apply Ne.symm; assumption) | (simp; done)) (va_up_self _ _ _))) | exact lk1 (by first | assumption | (apply Ne.symm; assumption) | (simp; done)) (lk1 (by first | assumption | (apply Ne.symm; assumption) | (simp; done)) (lk1 (by first | assumption | (apply Ne.symm; assumption) | (simp; done)) (lk1 (by first | assumption | (apply Ne.symm; assumption) | (simp; done)) (by assumption)))) | exact lk1 (by first | assumption | (apply Ne.symm; assumption) | (simp; done)) (lk1 (by first | assumption | (apply Ne.symm; assumption) | (simp; done)) (lk1 (by first | assumption | (apply Ne.symm; assumption) | (simp; done)) (lk1 (by first | assumption | (apply Ne.symm; assumption) | (simp; done)) (va_up_self _ _ _))))) (by first | rfl | assumption) ?_
                refine pw_goto (pc := 125) 132 dX8_span_125 (by decide) ?_
                exact mul _ _ _ (fun q2 => absurd q2 q) (fun _ => by rw [if_neg (by omega)])
              · refine pw_iconst (pc := 113) (nI 1) dX8_span_113 (by decide) ?_
                refine pw_goto (pc := 114) 118 dX8_span_114 (by decide) ?_
                refine pw_icmp_ne (pc := 118) 128 dX8_span_118 (by decide) (fun y2 => ?_) (fun y2 => absurd y2 (by decide))
                refine pw_aload_n (pc := 128) dX8_span_128 rfl ?_
                refine pw_get (pc := 129) fg_X8_30 dX8_span_129 (by first | assumption | exact va_up_self _ _ _ | exact lk1 (by first | assumption | (apply Ne.symm; assumption) | (simp; done)) (by assumption) | exact lk1 (by first | assumption | (apply Ne.symm; assumption) | (simp; done)) (va_up_self _ _ _) | exact lk1 (by first | assumption | (apply Ne.symm; assumption) | (simp; done)) (lk1 (by first | assumption | (apply Ne.symm; assumption) | (simp; done)) (by assumption)) | exact lk1 (by first | assumption | (apply Ne.symm; assumption) | (simp; done)) (lk1 (by first | assumption | (apply Ne.symm; assumption) | (simp; done)) (va_up_self _ _ _)) | exact lk1 (by first | assumption | (apply Ne.symm; assumption) | (simp; done)) (lk1 (by first | assumption | (apply Ne.symm; assumption) | (simp; done)) (lk1 (by first | assumption | (apply Ne.symm; assumption) | (simp; done)) (by assumption))) | exact lk1 (by first | assumption | (apply Ne.symm; assumption) | (simp; done)) (lk1 (by first | assumption | (apply Ne.symm; assumption) | (simp; done)) (lk1 (by first | assumption | (apply Ne.symm; assumption) | (simp; done)) (va_up_self _ _ _))) | exact lk1 (by first | assumption | (apply Ne.symm; assumption) | (simp; done)) (lk1 (by first | assumption | (apply Ne.symm; assumption) | (simp; done)) (lk1 (by first | assumption | (apply Ne.symm; assumption) | (simp; done)) (lk1 (by first | assumption | (apply Ne.symm; assumption) | (simp; done)) (by assumption)))) | exact lk1 (by first | assumption | (apply Ne.symm; assumption) | (simp; done)) (lk1 (by first | assumption | (apply Ne.symm; assumption) | (simp; done)) (lk1 (by first | assumption | (apply Ne.symm; assumption) | (simp; done)) (lk1 (by first | assumption | (apply Ne.symm; assumption) | (simp; done)) (va_up_self _ _ _))))) (by first | rfl | assumption) ?_
                exact mul _ _ _ (fun _ => by rw [if_neg (by omega)]) (fun q2 => absurd q q2)
            · refine pw_iconst (pc := 104) (nI 1) dX8_span_104 (by decide) ?_
              refine pw_goto (pc := 105) 109 dX8_span_105 (by decide) ?_
              refine pw_iload_n (pc := 109) dX8_span_109 rfl ?_
              refine pw_if_ne (pc := 110) 117 dX8_span_110 (by decide) (fun q => ?_) (fun q => ?_)
              · refine pw_iconst (pc := 117) (nI 0) dX8_span_117 (by decide) ?_
                refine pw_icmp_ne (pc := 118) 128 dX8_span_118 (by decide) (fun y2 => ?_) (fun y2 => absurd y2 (by decide))
                refine pw_aload_n (pc := 128) dX8_span_128 rfl ?_
                refine pw_get (pc := 129) fg_X8_30 dX8_span_129 (by first | assumption | exact va_up_self _ _ _ | exact lk1 (by first | assumption | (apply Ne.symm; assumption) | (simp; done)) (by assumption) | exact lk1 (by first | assumption | (apply Ne.symm; assumption) | (simp; done)) (va_up_self _ _ _) | exact lk1 (by first | assumption | (apply Ne.symm; assumption) | (simp; done)) (lk1 (by first | assumption | (apply Ne.symm; assumption) | (simp; done)) (by assumption)) | exact lk1 (by first | assumption | (apply Ne.symm; assumption) | (simp; done)) (lk1 (by first | assumption | (apply Ne.symm; assumption) | (simp; done)) (va_up_self _ _ _)) | exact lk1 (by first | assumption | (apply Ne.symm; assumption) | (simp; done)) (lk1 (by first | assumption | (apply Ne.symm; assumption) | (simp; done)) (lk1 (by first | assumption | (apply Ne.symm; assumption) | (simp; done)) (by assumption))) | exact lk1 (by first | assumption | (apply Ne.symm; assumption) | (simp; done)) (lk1 (by first | assumption | (apply Ne.symm; assumption) | (simp; done)) (lk1 (by first | assumption | (apply Ne.symm; assumption) | (simp; done)) (va_up_self _ _ _))) | exact lk1 (by first | assumption | (apply Ne.symm; assumption) | (simp; done)) (lk1 (by first | assumption | (apply Ne.symm; assumption) | (simp; done)) (lk1 (by first | assumption | (apply Ne.symm; assumption) | (simp; done)) (lk1 (by first | assumption | (apply Ne.symm; assumption) | (simp; done)) (by assumption)))) | exact lk1 (by first | assumption | (apply Ne.symm; assumption) | (simp; done)) (lk1 (by first | assumption | (apply Ne.symm; assumption) | (simp; done)) (lk1 (by first | assumption | (apply Ne.symm; assumption) | (simp; done)) (lk1 (by first | assumption | (apply Ne.symm; assumption) | (simp; done)) (va_up_self _ _ _))))) (by first | rfl | assumption) ?_
                exact mul _ _ _ (fun q2 => absurd q2 q) (fun _ => by rw [if_pos (by omega)])
              · refine pw_iconst (pc := 113) (nI 1) dX8_span_113 (by decide) ?_
                refine pw_goto (pc := 114) 118 dX8_span_114 (by decide) ?_
                refine pw_icmp_ne (pc := 118) 128 dX8_span_118 (by decide) (fun y2 => absurd rfl y2) (fun y2 => ?_)
                refine pw_aload_n (pc := 121) dX8_span_121 rfl ?_
                refine pw_get (pc := 122) fg_X8_26 dX8_span_122 (by first | assumption | exact va_up_self _ _ _ | exact lk1 (by first | assumption | (apply Ne.symm; assumption) | (simp; done)) (by assumption) | exact lk1 (by first | assumption | (apply Ne.symm; assumption) | (simp; done)) (va_up_self _ _ _) | exact lk1 (by first | assumption | (apply Ne.symm; assumption) | (simp; done)) (lk1 (by first | assumption | (apply Ne.symm; assumption) | (simp; done)) (by assumption)) | exact lk1 (by first | assumption | (apply Ne.symm; assumption) | (simp; done)) (lk1 (by first | assumption | (apply Ne.symm; assumption) | (simp; done)) (va_up_self _ _ _)) | exact lk1 (by first | assumption | (apply Ne.symm; assumption) | (simp; done)) (lk1 (by first | assumption | (apply Ne.symm; assumption) | (simp; done)) (lk1 (by first | assumption | (apply Ne.symm; assumption) | (simp; done)) (by assumption))) | exact lk1 (by first | assumption | (apply Ne.symm; assumption) | (simp; done)) (lk1 (by first | assumption | (apply Ne.symm; assumption) | (simp; done)) (lk1 (by first | assumption | (apply Ne.symm; assumption) | (simp; done)) (va_up_self _ _ _))) | exact lk1 (by first | assumption | (apply Ne.symm; assumption) | (simp; done)) (lk1 (by first | assumption | (apply Ne.symm; assumption) | (simp; done)) (lk1 (by first | assumption | (apply Ne.symm; assumption) | (simp; done)) (lk1 (by first | assumption | (apply Ne.symm; assumption) | (simp; done)) (by assumption)))) | exact lk1 (by first | assumption | (apply Ne.symm; assumption) | (simp; done)) (lk1 (by first | assumption | (apply Ne.symm; assumption) | (simp; done)) (lk1 (by first | assumption | (apply Ne.symm; assumption) | (simp; done)) (lk1 (by first | assumption | (apply Ne.symm; assumption) | (simp; done)) (va_up_self _ _ _))))) (by first | rfl | assumption) ?_
                refine pw_goto (pc := 125) 132 dX8_span_125 (by decide) ?_
                exact mul _ _ _ (fun _ => by rw [if_pos (by omega)]) (fun q2 => absurd q q2)
          cases e3 : lsD (sN S) p j with
          | none =>
            have go' := go (okC_s hoc (fun _ l hl => by rw [e3] at hl; cases hl))
            rw [e3] at go'
            refine pw_iload (pc := 72) dX8_span_72 rfl ?_
            refine pw_bipush (pc := 74) (-9) dX8_span_74 (by decide) ?_
            refine pw_icmp_eq (pc := 76) 94 dX8_span_76 (by decide) (fun _ => ?_) (fun q => absurd rfl q)
            exact go'
          | some l =>
            obtain ⟨q1', q2', q3'⟩ := (lsD_spec (R := sN S) (i := p) j).2 l e3
            have wi := wi_iff hw (lo := lo) (hi := hi) (show p < 4 by omega) q1' hjl q2' z1 hlo hhi
            refine pw_iload (pc := 72) dX8_span_72 rfl ?_
            refine pw_bipush (pc := 74) (-9) dX8_span_74 (by decide) ?_
            refine pw_icmp_eq (pc := 76) 94 dX8_span_76 (by decide) (fun q => absurd q (ni_ne9 (by omega))) (fun _ => ?_)
            rw [show oI (some l) = nI l from rfl]
            refine pw_aload_n (pc := 79) dX8_span_79 rfl ?_
            refine pw_iload_n (pc := 80) dX8_span_80 rfl ?_
            refine pw_iload (pc := 81) dX8_span_81 rfl ?_
            refine pw_iload (pc := 83) dX8_span_83 rfl ?_
            refine pw_callV_i (pc := 85) cv_X8_187 dX8_span_85 (by first | assumption | exact va_up_self _ _ _ | exact lk1 (by first | assumption | (apply Ne.symm; assumption) | (simp; done)) (by assumption) | exact lk1 (by first | assumption | (apply Ne.symm; assumption) | (simp; done)) (va_up_self _ _ _) | exact lk1 (by first | assumption | (apply Ne.symm; assumption) | (simp; done)) (lk1 (by first | assumption | (apply Ne.symm; assumption) | (simp; done)) (by assumption)) | exact lk1 (by first | assumption | (apply Ne.symm; assumption) | (simp; done)) (lk1 (by first | assumption | (apply Ne.symm; assumption) | (simp; done)) (va_up_self _ _ _)) | exact lk1 (by first | assumption | (apply Ne.symm; assumption) | (simp; done)) (lk1 (by first | assumption | (apply Ne.symm; assumption) | (simp; done)) (lk1 (by first | assumption | (apply Ne.symm; assumption) | (simp; done)) (by assumption))) | exact lk1 (by first | assumption | (apply Ne.symm; assumption) | (simp; done)) (lk1 (by first | assumption | (apply Ne.symm; assumption) | (simp; done)) (lk1 (by first | assumption | (apply Ne.symm; assumption) | (simp; done)) (va_up_self _ _ _))) | exact lk1 (by first | assumption | (apply Ne.symm; assumption) | (simp; done)) (lk1 (by first | assumption | (apply Ne.symm; assumption) | (simp; done)) (lk1 (by first | assumption | (apply Ne.symm; assumption) | (simp; done)) (lk1 (by first | assumption | (apply Ne.symm; assumption) | (simp; done)) (by assumption)))) | exact lk1 (by first | assumption | (apply Ne.symm; assumption) | (simp; done)) (lk1 (by first | assumption | (apply Ne.symm; assumption) | (simp; done)) (lk1 (by first | assumption | (apply Ne.symm; assumption) | (simp; done)) (lk1 (by first | assumption | (apply Ne.symm; assumption) | (simp; done)) (va_up_self _ _ _))))) rfl (c_misWithin m0 rfl rfl rfl q1 k1 hw p l j (by omega) q1' hjl) rfl rfl (Nat.le_of_ble_eq_true rfl) ⟨(Nat.le_of_ble_eq_true rfl), (Nat.le_of_ble_eq_true rfl)⟩ ?_
            refine pw_if_ne_b (pc := 88) 94 dX8_span_88 (by decide) (fun y => ?_) (fun y => ?_)
            · have go' := go (okC_s hoc (fun _ l' hl => by rw [e3] at hl; cases hl; exact wi.mp y))
              rw [e3] at go'
              exact go'
            · refine pw_ldc (pc := 91) (-1000000) dX8_span_91 lc_X8_186 ?_
              refine pw_iret dX8_span_93 rfl (p0.Q ?_)
              rw [fin_no (fun q => by have := wi.mpr (q j hjl z1 l e3); rw [this] at y; cases y)]
  refine pw_ldc (pc := 39) (-1000000) dX8_span_39 lc_X8_186 ?_
  refine pw_ist4 (pc := 41) dX8_span_41 (Nat.le_of_ble_eq_true rfl) rfl ?_
  refine pw_bipush (pc := 43) (-9) dX8_span_43 (by decide) ?_
  refine pw_ist5 (pc := 45) dX8_span_45 (Nat.le_of_ble_eq_true rfl) rfl ?_
  refine pw_iconst (pc := 47) (nI 0) dX8_span_47 (by decide) ?_
  refine pw_ist6 (pc := 48) dX8_span_48 (Nat.le_of_ble_eq_true rfl) rfl ?_
  have h0 := loop ((sN S).1 p).length 0 .null .null (by omega) (fun j hj => absurd hj (Nat.not_lt_zero j))
  rw [show bdF (sN S) (nI lo) (nI hi) p kk w 0 = -1000000 by rw [bdF]; split <;> rfl] at h0
  exact h0
theorem o_span (hm : modP h m S) (hws : wfS S) (i k w : Int32) : PM E mX8_span [.ref m, .int i, .int k, .int w] h n n 0 (QM m h (some (.int (a_span S i k w))) S) := by
  have hw := hws.2.2.2.1
  by_cases hv : rg 0 3 i = true ∧ (0 ≤ k.toInt ∧ k.toInt < (((sN S).1 (ixN i)).length : Int)) ∧ rg 0 1 w = true
  · obtain ⟨z0, ⟨k0, k1⟩, zw⟩ := hv
    obtain ⟨p, hp, rfl, ep⟩ := rg_ix (hi := 3) z0
    rw [ep] at k1
    have hl := (hw.1 p (by omega)).1
    obtain ⟨kk, hkk, ek⟩ := ix_of k0 k1 (by omega)
    have ek2 : ixN k = kk := by rw [ek, ixN, nI_toInt (by omega)]; omega
    subst ek
    exact o_span1 hm hws p kk w hp z0 ep hkk ek2 zw
  have ea : a_span S i k w = -1000000 := by
    rw [a_span, if_neg]
    intro q
    simp only [okSpan, Bool.and_eq_true, decide_eq_true_eq] at q
    exact hv ⟨q.1.1.1.1, q.1.1.2, q.1.1.1.2⟩
  obtain ⟨⟨th, nx, tk, pl, vl, ft, sz, nm, m0⟩, ma⟩ := id hm
  obtain ⟨⟨g, q1, k1⟩, -⟩ := id ma
  have q1' := lk1 (v := some (.inr (8, mob m (nI 0) (sQ S) (nI (sT S).length) nx tk pl vl ft (sLo S) (sHi S) sz nm))) (k := m) (by omega) q1
  have bad : PW (KX E mX8_span n (QM m h (some (.int (a_span S i k w))) S)) 36 [.ref m, .int i, .int k, .int w, .null, .null, .null, .null, .null] [] (va_up h m (some (.inr (8, mob m (nI 0) (sQ S) (nI (sT S).length) nx tk pl vl ft (sLo S) (sHi S) sz nm)))) n 0 := by
    refine pw_ldc (pc := 36) (-1000000) dX8_span_36 lc_X8_186 ?_
    refine pw_iret dX8_span_38 rfl ⟨?_, ⟨⟨_, _, _, _, _, _, _, _, va_up_self _ _ _⟩, ma.on up_m⟩, on_m⟩
    rw [ea]
  refine PM.of [.ref m, .int i, .int k, .int w, .null, .null, .null, .null, .null] rfl (Nat.le_of_ble_eq_true rfl) rfl ?_
  refine pw_aload_n (pc := 0) dX8_span_0 rfl ?_
  refine pw_iconst (pc := 1) (nI 0) dX8_span_1 (by decide) ?_
  refine pw_put0 (pc := 2) fp_X8_61 dX8_span_2 (by first | assumption | exact va_up_self _ _ _ | exact lk1 (by first | assumption | (apply Ne.symm; assumption) | (simp; done)) (by assumption) | exact lk1 (by first | assumption | (apply Ne.symm; assumption) | (simp; done)) (va_up_self _ _ _) | exact lk1 (by first | assumption | (apply Ne.symm; assumption) | (simp; done)) (lk1 (by first | assumption | (apply Ne.symm; assumption) | (simp; done)) (by assumption)) | exact lk1 (by first | assumption | (apply Ne.symm; assumption) | (simp; done)) (lk1 (by first | assumption | (apply Ne.symm; assumption) | (simp; done)) (va_up_self _ _ _)) | exact lk1 (by first | assumption | (apply Ne.symm; assumption) | (simp; done)) (lk1 (by first | assumption | (apply Ne.symm; assumption) | (simp; done)) (lk1 (by first | assumption | (apply Ne.symm; assumption) | (simp; done)) (by assumption))) | exact lk1 (by first | assumption | (apply Ne.symm; assumption) | (simp; done)) (lk1 (by first | assumption | (apply Ne.symm; assumption) | (simp; done)) (lk1 (by first | assumption | (apply Ne.symm; assumption) | (simp; done)) (va_up_self _ _ _))) | exact lk1 (by first | assumption | (apply Ne.symm; assumption) | (simp; done)) (lk1 (by first | assumption | (apply Ne.symm; assumption) | (simp; done)) (lk1 (by first | assumption | (apply Ne.symm; assumption) | (simp; done)) (lk1 (by first | assumption | (apply Ne.symm; assumption) | (simp; done)) (by assumption)))) | exact lk1 (by first | assumption | (apply Ne.symm; assumption) | (simp; done)) (lk1 (by first | assumption | (apply Ne.symm; assumption) | (simp; done)) (lk1 (by first | assumption | (apply Ne.symm; assumption) | (simp; done)) (lk1 (by first | assumption | (apply Ne.symm; assumption) | (simp; done)) (va_up_self _ _ _))))) rfl rfl ?_
  refine pw_iload_n (pc := 5) dX8_span_5 rfl ?_
  refine pw_callS_i (pc := 6) cs_X8_124 dX8_span_6 (c_misList i) rfl rfl (Nat.le_of_ble_eq_true rfl) ⟨(Nat.le_of_ble_eq_true rfl), (Nat.le_of_ble_eq_true rfl)⟩ ?_
  refine pw_if_eq_b (pc := 9) 36 dX8_span_9 (by decide) (fun z => bad) (fun z => ?_)
  obtain ⟨p, hp, ei, ep⟩ := rg_ix (hi := 3) z
  have es := k1.z.1 p (by omega)
  have hl := (hw.1 p (by omega)).1
  have hsub : (nI ((sN S).1 p).length - nI 1).toInt = (((sN S).1 p).length : Int) - 1 := pk_sub_toInt (by omega) (by omega)
  rw [ei]
  refine pw_iload_n (pc := 12) dX8_span_12 rfl ?_
  refine pw_iconst (pc := 13) (nI 0) dX8_span_13 (by decide) ?_
  refine pw_aload_n (pc := 14) dX8_span_14 rfl ?_
  refine pw_iload_n (pc := 15) dX8_span_15 rfl ?_
  refine pw_callV_i (pc := 16) cv_X8_68 dX8_span_16 (by first | assumption | exact va_up_self _ _ _ | exact lk1 (by first | assumption | (apply Ne.symm; assumption) | (simp; done)) (by assumption) | exact lk1 (by first | assumption | (apply Ne.symm; assumption) | (simp; done)) (va_up_self _ _ _) | exact lk1 (by first | assumption | (apply Ne.symm; assumption) | (simp; done)) (lk1 (by first | assumption | (apply Ne.symm; assumption) | (simp; done)) (by assumption)) | exact lk1 (by first | assumption | (apply Ne.symm; assumption) | (simp; done)) (lk1 (by first | assumption | (apply Ne.symm; assumption) | (simp; done)) (va_up_self _ _ _)) | exact lk1 (by first | assumption | (apply Ne.symm; assumption) | (simp; done)) (lk1 (by first | assumption | (apply Ne.symm; assumption) | (simp; done)) (lk1 (by first | assumption | (apply Ne.symm; assumption) | (simp; done)) (by assumption))) | exact lk1 (by first | assumption | (apply Ne.symm; assumption) | (simp; done)) (lk1 (by first | assumption | (apply Ne.symm; assumption) | (simp; done)) (lk1 (by first | assumption | (apply Ne.symm; assumption) | (simp; done)) (va_up_self _ _ _))) | exact lk1 (by first | assumption | (apply Ne.symm; assumption) | (simp; done)) (lk1 (by first | assumption | (apply Ne.symm; assumption) | (simp; done)) (lk1 (by first | assumption | (apply Ne.symm; assumption) | (simp; done)) (lk1 (by first | assumption | (apply Ne.symm; assumption) | (simp; done)) (by assumption)))) | exact lk1 (by first | assumption | (apply Ne.symm; assumption) | (simp; done)) (lk1 (by first | assumption | (apply Ne.symm; assumption) | (simp; done)) (lk1 (by first | assumption | (apply Ne.symm; assumption) | (simp; done)) (lk1 (by first | assumption | (apply Ne.symm; assumption) | (simp; done)) (va_up_self _ _ _))))) rfl (c_msizeOf (va_up_self _ _ _) rfl q1' p (by omega)) rfl rfl (Nat.le_of_ble_eq_true rfl) ⟨(Nat.le_of_ble_eq_true rfl), (Nat.le_of_ble_eq_true rfl)⟩ ?_
  rw [es, ← ei]
  refine pw_iconst (pc := 19) (nI 1) dX8_span_19 (by decide) ?_
  refine pw_isub (pc := 20) dX8_span_20 ?_
  refine pw_callS_i (pc := 21) cs_X8_64 dX8_span_21 (c_in _ _ _) rfl rfl (Nat.le_of_ble_eq_true rfl) ⟨(Nat.le_of_ble_eq_true rfl), (Nat.le_of_ble_eq_true rfl)⟩ ?_
  refine pw_if_eq_b (pc := 24) 36 dX8_span_24 (by decide) (fun z => bad) (fun z2 => ?_)
  have z3 := rg_t z2
  rw [hsub, show (nI 0).toInt = 0 by decide] at z3
  refine pw_iload_n (pc := 27) dX8_span_27 rfl ?_
  refine pw_iconst (pc := 28) (nI 0) dX8_span_28 (by decide) ?_
  refine pw_iconst (pc := 29) (nI 1) dX8_span_29 (by decide) ?_
  refine pw_callS_i (pc := 30) cs_X8_64 dX8_span_30 (c_in w (nI 0) (nI 1)) rfl rfl (Nat.le_of_ble_eq_true rfl) ⟨(Nat.le_of_ble_eq_true rfl), (Nat.le_of_ble_eq_true rfl)⟩ ?_
  refine pw_if_ne_b (pc := 33) 39 dX8_span_33 (by decide) (fun z4 => absurd ⟨z, ⟨z3.1, by rw [ep]; omega⟩, z4⟩ hv) (fun z4 => bad)
end Y3
