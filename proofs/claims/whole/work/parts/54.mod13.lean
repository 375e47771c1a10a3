/-! the reference: quarrel, ahead -/
def bM (b : Nat) : Int32 := if b = 0 then -9 else nI b
theorem bM_9 {b : Nat} (hb : b < 16) : bM b = -9 ↔ b = 0 := by
  rw [bM]
  split
  · rename_i e; simp [e]
  · rename_i e
    constructor
    · intro q
      exact absurd q ((by decide : ∀ b : Fin 16, nI b.1 ≠ -9) ⟨b, hb⟩)
    · intro q; exact absurd q e
theorem on_nI {b : Nat} (hb : b < 16) : onesF (nI b) 26 = nI (popN b 26) := by
  rw [onesF_pop _ _ (by omega), nI_bv (by omega)]
section Q1
variable {E : EV} {h : HP} {n m : Nat} {S : AS}
theorem o_quarrel (hm : modP h m S) (hw : wfR (sN S)) (set w : Int32) : PM E mX8_quarrel [.ref m, .int set, .int w] h n n 0 (QM m h (some (.int (a_quarrel S set w))) S) := by
  obtain ⟨⟨th, nx, tk, pl, vl, ft, sz, nm, m0⟩, ma⟩ := id hm
  refine PM.of [.ref m, .int set, .int w, .null, .null] rfl (Nat.le_of_ble_eq_true rfl) rfl ?_
  refine pw_aload_n (pc := 0) dX8_quarrel_0 rfl ?_
  refine pw_iconst (pc := 1) (nI 0) dX8_quarrel_1 (by decide) ?_
  refine pw_put0 (pc := 2) fp_X8_61 dX8_quarrel_2 (by first | assumption | exact va_up_self _ _ _ | exact lk1 (by first | assumption | (apply Ne.symm; assumption) | (simp; done)) (by assumption) | exact lk1 (by first | assumption | (apply Ne.symm; assumption) | (simp; done)) (va_up_self _ _ _) | exact lk1 (by first | assumption | (apply Ne.symm; assumption) | (simp; done)) (lk1 (by first | assumption | (apply Ne.symm; assumption) | (simp; done)) (by assumption)) | exact lk1 (by first | assumption | (apply Ne.symm; assumption) | (simp; done)) (lk1 (by first | assumption | (apply Ne.symm; assumption) | (simp; done)) (va_up_self _ _ _)) | exact lk1 (by first | assumption | (apply Ne.symm; assumption) | (simp; done)) (lk1 (by first | assumption | (apply Ne.symm; assumption) | (simp; done)) (lk1 (by first | assumption | (apply Ne.symm; assumption) | (simp; done)) (by assumption))) | exact lk1 (by first | assumption | (apply Ne.symm; assumption) | (simp; done)) (lk1 (by first | assumption | (apply Ne.symm; assumption) | (simp; done)) (lk1 (by first | assumption | (apply Ne.symm; assumption) | (simp; done)) (va_up_self _ _ _))) | exact lk1 (by first | assumption | (apply Ne.symm; assumption) | (simp; done)) (lk1 (by first | assumption | (apply Ne.symm; assumption) | (simp; done)) (lk1 (by first | assumption | (apply Ne.symm; assumption) | (simp; done)) (lk1 (by first | assumption | (apply Ne.symm; assumption) | (simp; done)) (by assumption)))) | exact lk1 (by first | assumption | (apply Ne.symm; assumption) | (simp; done)) (lk1 (by first | assumption | (apply Ne.symm; assumption) | (simp; done)) (lk1 (by first | assumption | (apply Ne.symm; assumption) | (simp; done)) (lk1 (by first | assumption | (apply Ne.symm; assumption) | (simp; done)) (va_up_self _ _ _))))) rfl rfl ?_
  have p0 : gthP h (va_up h m (some (.inr (8, mob m (nI 0) (sQ S) (nI (sT S).length) nx tk pl vl ft (sLo S) (sHi S) sz nm)))) m S := ⟨⟨_, _, _, _, _, _, _, va_up_self _ _ _⟩, ma.on up_m, on_m⟩
  generalize va_up h m (some (.inr (8, mob m (nI 0) (sQ S) (nI (sT S).length) nx tk pl vl ft (sLo S) (sHi S) sz nm))) = h2 at p0
  have bad : (rg 1 15 set && rg 0 1 w) = false → PW (KX E mX8_quarrel n (QM m h (some (.int (a_quarrel S set w))) S)) 21 [.ref m, .int set, .int w, .null, .null] [] h2 n 0 := by
    intro hb
    refine pw_iconst (pc := 21) (-1) dX8_quarrel_21 (by decide) ?_
    refine pw_iret dX8_quarrel_22 rfl (p0.Q ?_)
    rw [a_quarrel, hb]; rfl
  refine pw_iload_n (pc := 5) dX8_quarrel_5 rfl ?_
  refine pw_callS_i (pc := 6) cs_X8_169 dX8_quarrel_6 (c_misSet set) rfl rfl (Nat.le_of_ble_eq_true rfl) ⟨(Nat.le_of_ble_eq_true rfl), (Nat.le_of_ble_eq_true rfl)⟩ ?_
  refine pw_if_eq_b (pc := 9) 21 dX8_quarrel_9 (by decide) (fun z => ?_) (fun z => ?_)
  · exact bad (by rw [z]; rfl)
  refine pw_iload_n (pc := 12) dX8_quarrel_12 rfl ?_
  refine pw_iconst (pc := 13) (nI 0) dX8_quarrel_13 (by decide) ?_
  refine pw_iconst (pc := 14) (nI 1) dX8_quarrel_14 (by decide) ?_
  refine pw_callS_i (pc := 15) cs_X8_64 dX8_quarrel_15 (c_in w (nI 0) (nI 1)) rfl rfl (Nat.le_of_ble_eq_true rfl) ⟨(Nat.le_of_ble_eq_true rfl), (Nat.le_of_ble_eq_true rfl)⟩ ?_
  refine pw_if_ne_b (pc := 18) 23 dX8_quarrel_18 (by decide) (fun z1 => ?_) (fun z1 => ?_)
  · have z1' : rg 0 1 w = true := z1
    have hok : (rg 1 15 set && rg 0 1 w) = true := by rw [z, z1']; rfl
    obtain ⟨o, ho, eo, eo2⟩ := rg_ix (hi := 15) (rg_wide z (by omega) (by omega))
    have hw01 : w = 0 ∨ w = 1 := by
      have := rg_t z1'
      by_cases e : w.toInt = 0
      · left; rw [i32_eq, i32_0]; exact e
      · right; rw [i32_eq, show (1 : Int32).toInt = 1 by decide]; omega
    obtain ⟨⟨nx, tk, pl, vl, ft, sz, nm, m0⟩, ma, mo⟩ := id p0
    obtain ⟨⟨g1, q1, k1⟩, -, -, -, -, -, -, -, ⟨g9, q9⟩, ⟨g10, q10⟩, -, -⟩ := id ma
    refine pw_aload_n (pc := 23) dX8_quarrel_23 rfl ?_
    refine pw_iload_n (pc := 24) dX8_quarrel_24 rfl ?_
    refine pw_callV (pc := 25) cv_X8_174 dX8_quarrel_25 (by first | assumption | exact va_up_self _ _ _ | exact lk1 (by first | assumption | (apply Ne.symm; assumption) | (simp; done)) (by assumption) | exact lk1 (by first | assumption | (apply Ne.symm; assumption) | (simp; done)) (va_up_self _ _ _) | exact lk1 (by first | assumption | (apply Ne.symm; assumption) | (simp; done)) (lk1 (by first | assumption | (apply Ne.symm; assumption) | (simp; done)) (by assumption)) | exact lk1 (by first | assumption | (apply Ne.symm; assumption) | (simp; done)) (lk1 (by first | assumption | (apply Ne.symm; assumption) | (simp; done)) (va_up_self _ _ _)) | exact lk1 (by first | assumption | (apply Ne.symm; assumption) | (simp; done)) (lk1 (by first | assumption | (apply Ne.symm; assumption) | (simp; done)) (lk1 (by first | assumption | (apply Ne.symm; assumption) | (simp; done)) (by assumption))) | exact lk1 (by first | assumption | (apply Ne.symm; assumption) | (simp; done)) (lk1 (by first | assumption | (apply Ne.symm; assumption) | (simp; done)) (lk1 (by first | assumption | (apply Ne.symm; assumption) | (simp; done)) (va_up_self _ _ _))) | exact lk1 (by first | assumption | (apply Ne.symm; assumption) | (simp; done)) (lk1 (by first | assumption | (apply Ne.symm; assumption) | (simp; done)) (lk1 (by first | assumption | (apply Ne.symm; assumption) | (simp; done)) (lk1 (by first | assumption | (apply Ne.symm; assumption) | (simp; done)) (by assumption)))) | exact lk1 (by first | assumption | (apply Ne.symm; assumption) | (simp; done)) (lk1 (by first | assumption | (apply Ne.symm; assumption) | (simp; done)) (lk1 (by first | assumption | (apply Ne.symm; assumption) | (simp; done)) (lk1 (by first | assumption | (apply Ne.symm; assumption) | (simp; done)) (va_up_self _ _ _))))) rfl (c_mgathers m0 q1 k1 q9 q10 hw set) rfl rfl (Nat.le_of_ble_eq_true rfl) ⟨(Nat.le_of_ble_eq_true rfl), (Nat.le_of_ble_eq_true rfl)⟩ (Nat.le_refl _) (Nat.le_refl _) (Nat.zero_le _) (fun v h' q => ?_)
    obtain ⟨rfl, wk⟩ := q
    have p1 := gth_of ma mo wk
    obtain ⟨⟨nx, tk, pl, vl, ft, sz, m0⟩, ma, mo, -, ⟨g10, q10, k10⟩⟩ := id p1
    have l26 := ndR_len (gaA_ndR (set := set) hw 4 (Nat.le_refl _))
    refine pw_aload_n (pc := 28) dX8_quarrel_28 rfl ?_
    refine pw_get (pc := 29) fg_X8_163 dX8_quarrel_29 (by first | assumption | exact va_up_self _ _ _ | exact lk1 (by first | assumption | (apply Ne.symm; assumption) | (simp; done)) (by assumption) | exact lk1 (by first | assumption | (apply Ne.symm; assumption) | (simp; done)) (va_up_self _ _ _) | exact lk1 (by first | assumption | (apply Ne.symm; assumption) | (simp; done)) (lk1 (by first | assumption | (apply Ne.symm; assumption) | (simp; done)) (by assumption)) | exact lk1 (by first | assumption | (apply Ne.symm; assumption) | (simp; done)) (lk1 (by first | assumption | (apply Ne.symm; assumption) | (simp; done)) (va_up_self _ _ _)) | exact lk1 (by first | assumption | (apply Ne.symm; assumption) | (simp; done)) (lk1 (by first | assumption | (apply Ne.symm; assumption) | (simp; done)) (lk1 (by first | assumption | (apply Ne.symm; assumption) | (simp; done)) (by assumption))) | exact lk1 (by first | assumption | (apply Ne.symm; assumption) | (simp; done)) (lk1 (by first | assumption | (apply Ne.symm; assumption) | (simp; done)) (lk1 (by first | assumption | (apply Ne.symm; assumption) | (simp; done)) (va_up_self _ _ _))) | exact lk1 (by first | assumption | (apply Ne.symm; assumption) | (simp; done)) (lk1 (by first | assumption | (apply Ne.symm; assumption) | (simp; done)) (lk1 (by first | assumption | (apply Ne.symm; assumption) | (simp; done)) (lk1 (by first | assumption | (apply Ne.symm; assumption) | (simp; done)) (by assumption)))) | exact lk1 (by first | assumption | (apply Ne.symm; assumption) | (simp; done)) (lk1 (by first | assumption | (apply Ne.symm; assumption) | (simp; done)) (lk1 (by first | assumption | (apply Ne.symm; assumption) | (simp; done)) (lk1 (by first | assumption | (apply Ne.symm; assumption) | (simp; done)) (va_up_self _ _ _))))) (by first | rfl | assumption) ?_
    refine pw_bipush (pc := 32) (nI 12) dX8_quarrel_32 (by decide) ?_
    refine pw_icmp_le_n (pc := 34) 40 dX8_quarrel_34 (by decide) (by omega) (by omega) (fun z2 => ?_) (fun z2 => ?_)
    · have hmany : ¬ manyB (sN S) set = true := by rw [manyB, ← ga_len hw]; simp; omega
      have ea : a_quarrel S set w = if fwO (sN S) o 3 2 = 0 then -9 else if w = 0 then bcI (fwO (sN S) o 3 2) else fwO (sN S) o 3 2 := by rw [a_quarrel, hok, if_pos rfl, if_neg hmany, eo2]
      have few := fwO_bs (R := sN S) hw (o := o) ho
      have blt := bsF_lt (bad := badB (sN S)) (o := o)
      have fin : ∀ b h3 w4, b = bsF (badB (sN S)) o 15 1 0 → gthP h h3 m S → PW (KX E mX8_quarrel n (QM m h (some (.int (a_quarrel S set w))) S)) 108 [.ref m, .int set, .int w, .int (bM b), w4] [] h3 n 0 := by
        intro b h3 w4 eb p3
        rw [← eb] at few blt
        have e0 : nI b = 0 ↔ b = 0 := nI_eq (b := 0) (by omega) (by omega)
        refine pw_iload_n (pc := 108) dX8_quarrel_108 rfl ?_
        refine pw_bipush (pc := 109) (-9) dX8_quarrel_109 (by decide) ?_
        refine pw_icmp_eq (pc := 111) 119 dX8_quarrel_111 (by decide) (fun y => ?_) (fun y => ?_)
        · have hb := (bM_9 blt).mp y
          refine pw_iload_n (pc := 119) dX8_quarrel_119 rfl ?_
          refine pw_goto (pc := 120) 127 dX8_quarrel_120 (by decide) ?_
          refine pw_iret dX8_quarrel_127 rfl (p3.Q ?_)
          rw [ea, few, if_pos (e0.mpr hb), y]
        · have hb : b ≠ 0 := fun q => y ((bM_9 blt).mpr q)
          have eM : bM b = nI b := by rw [bM, if_neg hb]
          refine pw_iload_n (pc := 114) dX8_quarrel_114 rfl ?_
          refine pw_iconst (pc := 115) (nI 1) dX8_quarrel_115 (by decide) ?_
          refine pw_icmp_ne (pc := 116) 123 dX8_quarrel_116 (by decide) (fun y2 => ?_) (fun y2 => ?_)
          · have hw0 : w = 0 := hw01.resolve_right y2
            refine pw_iload_n (pc := 123) dX8_quarrel_123 rfl ?_
            refine pw_callS_i (pc := 124) cs_X8_160 dX8_quarrel_124 (c_mones _) rfl rfl (Nat.le_of_ble_eq_true rfl) ⟨(Nat.le_of_ble_eq_true rfl), (Nat.le_of_ble_eq_true rfl)⟩ ?_
            refine pw_iret dX8_quarrel_127 rfl (p3.Q ?_)
            rw [ea, few, if_neg (fun q => hb (e0.mp q)), if_pos hw0, eM, bcI_pop (by rw [nI_bv (by omega)]; omega)]
          · have hw1 : w = 1 := y2
            refine pw_iload_n (pc := 119) dX8_quarrel_119 rfl ?_
            refine pw_goto (pc := 120) 127 dX8_quarrel_120 (by decide) ?_
            refine pw_iret dX8_quarrel_127 rfl (p3.Q ?_)
            rw [ea, few, if_neg (fun q => hb (e0.mp q)), if_neg (by rw [hw1]; decide), eM]
      have loop : ∀ q p b h3, p + q = 16 → 1 ≤ p → b < 16 → bsF (badB (sN S)) o q p b = bsF (badB (sN S)) o 15 1 0 → gthP h h3 m S → PW (KX E mX8_quarrel n (QM m h (some (.int (a_quarrel S set w))) S)) 46 [.ref m, .int set, .int w, .int (bM b), .int (nI p)] [] h3 n 0 := by
        intro q
        induction q with
        | zero =>
          intro p b h3 hp h1 hb eb p3
          refine pw_iload (pc := 46) dX8_quarrel_46 rfl ?_
          refine pw_bipush (pc := 48) (nI 16) dX8_quarrel_48 (by decide) ?_
          refine pw_icmp_ge_n (pc := 50) 108 dX8_quarrel_50 (by decide) (by omega) (by omega) (fun cb => ?_) (fun cb => ?_)
          · exact fin b h3 _ eb p3
          · omega
        | succ q ih =>
          intro p b h3 hp h1 hb eb p3
          have p3' := id p3
          obtain ⟨⟨nx, tk, pl, vl, ft, sz, nm, m0⟩, ma, mo⟩ := p3'
          obtain ⟨⟨g1, q1, k1⟩, -, -, -, -, -, -, -, ⟨g9, q9⟩, ⟨g10, q10⟩, -, -⟩ := id ma
          have next : ∀ b' h4, b' = (if subN p o = true ∧ (b = 0 ∨ popN p 26 < popN b 26) ∧ badB (sN S) p = true then p else b) → gthP h h4 m S → PW (KX E mX8_quarrel n (QM m h (some (.int (a_quarrel S set w))) S)) 102 [.ref m, .int set, .int w, .int (bM b'), .int (nI p)] [] h4 n 0 := by
            intro b' h4 eb' p4
            refine pw_iinc4 (pc := 102) (nI (p + 1)) dX8_quarrel_102 (Nat.le_of_ble_eq_true rfl) rfl (ni_inc _) ?_
            refine pw_goto (pc := 105) 46 dX8_quarrel_105 (by decide) ?_
            refine ih (p + 1) b' h4 (by omega) (by omega) ?_ ?_ p4
            · rw [eb']; split <;> omega
            · rw [← eb, bsF, ← eb']
          have go : subN p o = true → (b = 0 ∨ popN p 26 < popN b 26) → PW (KX E mX8_quarrel n (QM m h (some (.int (a_quarrel S set w))) S)) 80 [.ref m, .int set, .int w, .int (bM b), .int (nI p)] [] h3 n 0 := by
            intro hs hbb
            refine pw_aload_n (pc := 80) dX8_quarrel_80 rfl ?_
            refine pw_iload (pc := 81) dX8_quarrel_81 rfl ?_
            refine pw_callV (pc := 83) cv_X8_174 dX8_quarrel_83 (by first | assumption | exact va_up_self _ _ _ | exact lk1 (by first | assumption | (apply Ne.symm; assumption) | (simp; done)) (by assumption) | exact lk1 (by first | assumption | (apply Ne.symm; assumption) | (simp; done)) (va_up_self _ _ _) | exact lk1 (by first | assumption | (apply Ne.symm; assumption) | (simp; done)) (lk1 (by first | assumption | (apply Ne.symm; assumption) | (simp; done)) (by assumption)) | exact lk1 (by first | assumption | (apply Ne.symm; assumption) | (simp; done)) (lk1 (by first | assumption | (apply Ne.symm; assumption) | (simp; done)) (va_up_self _ _ _)) | exact lk1 (by first | assumption | (apply Ne.symm; assumption) | (simp; done)) (lk1 (by first | assumption | (apply Ne.symm; assumption) | (simp; done)) (lk1 (by first | assumption | (apply Ne.symm; assumption) | (simp; done)) (by assumption))) | exact lk1 (by first | assumption | (apply Ne.symm; assumption) | (simp; done)) (lk1 (by first | assumption | (apply Ne.symm; assumption) | (simp; done)) (lk1 (by first | assumption | (apply Ne.symm; assumption) | (simp; done)) (va_up_self _ _ _))) | exact lk1 (by first | assumption | (apply Ne.symm; assumption) | (simp; done)) (lk1 (by first | assumption | (apply Ne.symm; assumption) | (simp; done)) (lk1 (by first | assumption | (apply Ne.symm; assumption) | (simp; done)) (lk1 (by first | assumption | (apply Ne.symm; assumption) | (simp; done)) (by assumption)))) | exact lk1 (by first | assumption | (apply Ne.symm; assumption) | (simp; done)) (lk1 (by first | assumption | (apply Ne.symm; assumption) | (simp; done)) (lk1 (by first | assumption | (apply Ne.symm; assumption) | (simp; done)) (lk1 (by first | assumption | (apply Ne.symm; assumption) | (simp; done)) (va_up_self _ _ _))))) rfl (c_mgathers m0 q1 k1 q9 q10 hw (nI p)) rfl rfl (Nat.le_of_ble_eq_true rfl) ⟨(Nat.le_of_ble_eq_true rfl), (Nat.le_of_ble_eq_true rfl)⟩ (Nat.le_refl _) (Nat.le_refl _) (Nat.zero_le _) (fun v h' q => ?_)
            obtain ⟨rfl, wk⟩ := q
            have p4 := gth_of ma mo wk
            obtain ⟨⟨nx, tk, pl, vl, ft, sz, m0⟩, ma, mo, -, ⟨g10, q10, k10⟩⟩ := id p4
            obtain ⟨-, -, -, -, -, -, -, -, -, -, ⟨g11, q11⟩, -⟩ := id ma
            have hl : (gaA (sN S) (nI p) 4).1.length ≤ 12 := by
              have h3 := lo_mono (s1 := nI p) (s2 := set) hw (fun i hc => by
                refine ⟨hc.1, ?_⟩
                have h4 := hc.2
                have hi4 := hc.1
                rw [inB_bt _ (by omega), bt_nI (by omega)] at h4
                rw [eo, inB_bt _ (by omega), bt_nI (by omega)]
                exact sub_bits.mp hs i h4)
              rw [ga_len hw] at z2 ⊢
              omega
            refine pw_aload_n (pc := 86) dX8_quarrel_86 rfl ?_
            refine pw_callV (pc := 87) cv_X8_179 dX8_quarrel_87 (by first | assumption | exact va_up_self _ _ _ | exact lk1 (by first | assumption | (apply Ne.symm; assumption) | (simp; done)) (by assumption) | exact lk1 (by first | assumption | (apply Ne.symm; assumption) | (simp; done)) (va_up_self _ _ _) | exact lk1 (by first | assumption | (apply Ne.symm; assumption) | (simp; done)) (lk1 (by first | assumption | (apply Ne.symm; assumption) | (simp; done)) (by assumption)) | exact lk1 (by first | assumption | (apply Ne.symm; assumption) | (simp; done)) (lk1 (by first | assumption | (apply Ne.symm; assumption) | (simp; done)) (va_up_self _ _ _)) | exact lk1 (by first | assumption | (apply Ne.symm; assumption) | (simp; done)) (lk1 (by first | assumption | (apply Ne.symm; assumption) | (simp; done)) (lk1 (by first | assumption | (apply Ne.symm; assumption) | (simp; done)) (by assumption))) | exact lk1 (by first | assumption | (apply Ne.symm; assumption) | (simp; done)) (lk1 (by first | assumption | (apply Ne.symm; assumption) | (simp; done)) (lk1 (by first | assumption | (apply Ne.symm; assumption) | (simp; done)) (va_up_self _ _ _))) | exact lk1 (by first | assumption | (apply Ne.symm; assumption) | (simp; done)) (lk1 (by first | assumption | (apply Ne.symm; assumption) | (simp; done)) (lk1 (by first | assumption | (apply Ne.symm; assumption) | (simp; done)) (lk1 (by first | assumption | (apply Ne.symm; assumption) | (simp; done)) (by assumption)))) | exact lk1 (by first | assumption | (apply Ne.symm; assumption) | (simp; done)) (lk1 (by first | assumption | (apply Ne.symm; assumption) | (simp; done)) (lk1 (by first | assumption | (apply Ne.symm; assumption) | (simp; done)) (lk1 (by first | assumption | (apply Ne.symm; assumption) | (simp; done)) (va_up_self _ _ _))))) rfl (c_mcounts (nd := ndM (gaA (sN S) (nI p) 4)) m0 rfl rfl rfl q10 (fun j hj => (k10 j hj).trans (nI_back _).symm) (fun j _ => ((gaA (sN S) (nI p) 4).2 j).toBitVec.isLt) q11 (by omega) (by omega) hl) rfl rfl (Nat.le_of_ble_eq_true rfl) ⟨(Nat.le_of_ble_eq_true rfl), (Nat.le_of_ble_eq_true rfl)⟩ (Nat.le_refl _) (Nat.le_refl _) (Nat.zero_le _) (fun v h' q => ?_)
            obtain ⟨rfl, c1, c2⟩ := q
            have p5 := (p4.cnt c1 c2).P
            refine pw_lconst (pc := 90) (0) dX8_quarrel_90 (by decide) ?_
            refine pw_lcmp (pc := 91) dX8_quarrel_91 ?_
            refine pw_if_ne (pc := 92) 100 dX8_quarrel_92 (by decide) (fun y => ?_) (fun y => ?_)
            · rw [ne_eq, lg_cmp_eq] at y
              have hb : ¬ badB (sN S) p = true := fun q => y ((cn_iff hw hl).mpr (by simpa [badB] using q))
              refine pw_iload_n (pc := 100) dX8_quarrel_100 rfl ?_
              refine pw_ist3 (pc := 101) dX8_quarrel_101 (Nat.le_of_ble_eq_true rfl) rfl ?_
              exact next b _ (by rw [if_neg (fun q => hb q.2.2)]) p5
            · rw [lg_cmp_eq] at y
              have hb : badB (sN S) p = true := by
                have := (cn_iff hw hl).mp y
                show (!ordB (sN S) (nI p)) = true
                rw [this]; rfl
              refine pw_iload (pc := 95) dX8_quarrel_95 rfl ?_
              refine pw_goto (pc := 97) 101 dX8_quarrel_97 (by decide) ?_
              refine pw_ist3 (pc := 101) dX8_quarrel_101 (Nat.le_of_ble_eq_true rfl) rfl ?_
              have e : bM p = nI p := by rw [bM, if_neg (by omega)]
              have nx1 := next p _ (by rw [if_pos ⟨hs, hbb, hb⟩]) p5
              rw [e] at nx1
              exact nx1
          refine pw_iload (pc := 46) dX8_quarrel_46 rfl ?_
          refine pw_bipush (pc := 48) (nI 16) dX8_quarrel_48 (by decide) ?_
          refine pw_icmp_ge_n (pc := 50) 108 dX8_quarrel_50 (by decide) (by omega) (by omega) (fun cb => ?_) (fun cb => ?_)
          · omega
          · refine pw_iload (pc := 53) dX8_quarrel_53 rfl ?_
            refine pw_iload_n (pc := 55) dX8_quarrel_55 rfl ?_
            refine pw_iconst (pc := 56) (-1) dX8_quarrel_56 (by decide) ?_
            refine pw_ixor (pc := 57) dX8_quarrel_57 ?_
            refine pw_iand (pc := 58) dX8_quarrel_58 ?_
            refine pw_if_ne (pc := 59) 102 dX8_quarrel_59 (by decide) (fun y => ?_) (fun y => ?_)
            · rw [eo, ne_eq, and_notN (by omega) (by omega)] at y
              exact next b h3 (by rw [if_neg (fun q => y q.1)]) p3
            · rw [eo, and_notN (by omega) (by omega)] at y
              refine pw_iload_n (pc := 62) dX8_quarrel_62 rfl ?_
              refine pw_bipush (pc := 63) (-9) dX8_quarrel_63 (by decide) ?_
              refine pw_icmp_eq (pc := 65) 80 dX8_quarrel_65 (by decide) (fun y2 => ?_) (fun y2 => ?_)
              · exact go y (Or.inl ((bM_9 hb).mp y2))
              · have hb0 : b ≠ 0 := fun q => y2 ((bM_9 hb).mpr q)
                have eM : bM b = nI b := by rw [bM, if_neg hb0]
                have l1 := popN_le p 26
                have l2 := popN_le b 26
                refine pw_iload (pc := 68) dX8_quarrel_68 rfl ?_
                refine pw_callS_i (pc := 70) cs_X8_160 dX8_quarrel_70 (c_mones _) rfl rfl (Nat.le_of_ble_eq_true rfl) ⟨(Nat.le_of_ble_eq_true rfl), (Nat.le_of_ble_eq_true rfl)⟩ ?_
                refine pw_iload_n (pc := 73) dX8_quarrel_73 rfl ?_
                refine pw_callS_i (pc := 74) cs_X8_160 dX8_quarrel_74 (c_mones _) rfl rfl (Nat.le_of_ble_eq_true rfl) ⟨(Nat.le_of_ble_eq_true rfl), (Nat.le_of_ble_eq_true rfl)⟩ ?_
                rw [eM, on_nI (b := p) (by omega), on_nI (b := b) hb, ← eM]
                refine pw_icmp_ge_n (pc := 77) 102 dX8_quarrel_77 (by decide) (by omega) (by omega) (fun y3 => ?_) (fun y3 => ?_)
                · refine next b h3 ?_ p3
                  rw [if_neg (fun q => by have := q.2.1; omega)]
                · exact go y (Or.inr y3)
      refine pw_bipush (pc := 40) (-9) dX8_quarrel_40 (by decide) ?_
      refine pw_ist3 (pc := 42) dX8_quarrel_42 (Nat.le_of_ble_eq_true rfl) rfl ?_
      refine pw_iconst (pc := 43) (nI 1) dX8_quarrel_43 (by decide) ?_
      refine pw_ist4 (pc := 44) dX8_quarrel_44 (Nat.le_of_ble_eq_true rfl) rfl ?_
      exact loop 15 1 0 _ (by omega) (by omega) (by omega) rfl p1.P
    · refine pw_bipush (pc := 37) (-2) dX8_quarrel_37 (by decide) ?_
      refine pw_iret dX8_quarrel_39 rfl (p1.P.Q ?_)
      rw [a_quarrel, hok, if_pos rfl, if_pos (by rw [manyB, ← ga_len hw]; simp; omega)]
  · exact bad (by rw [show rg 0 1 w = false from z1]; simp)
end Q1
