theorem mArr.setS {h h' : HP} {m : Nat} {S : AS} {g : Nat → Int32} {R : RecS} (p : mArr h m S) (he : eqOn h h' (m + 2) (m + 13)) (h1 : h' (m + 1) = some (.inl (0, 90, .inl g))) (h2 : sHold g 0 R) : mArr h' m (setN S R) := by
  obtain ⟨⟨g1, a1, b1⟩, ⟨g2, a2, b2⟩, ⟨g3, a3, b3⟩, ⟨g4, a4, b4⟩, ⟨g5, a5, b5⟩, ⟨g6, a6⟩, ⟨g7, a7⟩, ⟨g8, a8, b8⟩, ⟨g9, a9⟩, ⟨g10, a10⟩, ⟨g11, a11⟩, g12, a12⟩ := p
  exact ⟨⟨g, h1, h2⟩, ⟨g2, (he _ (by omega) (by omega)).trans a2, b2⟩, ⟨g3, (he _ (by omega) (by omega)).trans a3, b3⟩, ⟨g4, (he _ (by omega) (by omega)).trans a4, b4⟩, ⟨g5, (he _ (by omega) (by omega)).trans a5, b5⟩, ⟨g6, (he _ (by omega) (by omega)).trans a6⟩, ⟨g7, (he _ (by omega) (by omega)).trans a7⟩, ⟨g8, (he _ (by omega) (by omega)).trans a8, b8⟩, ⟨g9, (he _ (by omega) (by omega)).trans a9⟩, ⟨g10, (he _ (by omega) (by omega)).trans a10⟩, ⟨g11, (he _ (by omega) (by omega)).trans a11⟩, g12, (he _ (by omega) (by omega)).trans a12⟩
theorem sHold.st {g : Nat → Int32} {R : RecS} (hs : sHold g 0 R) (hl : ∀ i, i < 4 → (R.1 i).length ≤ 12) (j : Nat) (hj : j < 6) (v : Int32) : sHold (upd g (52 + j) v) 0 (R.1, upd R.2.1 j v, R.2.2) := by
  refine ⟨fun i hi => ⟨?_, fun k hk => ?_⟩, fun k hk => ?_, fun k hk => ?_, fun k hk => ?_⟩
  · rw [pk_un (by omega)]; exact (hs.1 i hi).1
  · have := hl i hi
    have hk' : k < (R.1 i).length := hk
    rw [pk_un (by omega)]; exact (hs.1 i hi).2 k hk
  · show upd g (52 + j) v (0 + (52 + k)) = upd R.2.1 j v k
    by_cases e : k = j
    · subst e; rw [show 0 + (52 + k) = 52 + k by omega, pk_us, pk_us]
    · rw [pk_un (by omega), pk_un e]; exact hs.2.1 k hk
  · rw [pk_un (by omega)]; exact hs.2.2.1 k hk
  · rw [pk_un (by omega)]; exact hs.2.2.2 k hk
theorem sHold.cl {g : Nat → Int32} {R : RecS} (hs : sHold g 0 R) (hl : ∀ i, i < 4 → (R.1 i).length ≤ 12) (j : Nat) (hj : j < 6) (v : Int32) : sHold (upd g (58 + j) v) 0 (R.1, R.2.1, upd R.2.2.1 j v, R.2.2.2) := by
  refine ⟨fun i hi => ⟨?_, fun k hk => ?_⟩, fun k hk => ?_, fun k hk => ?_, fun k hk => ?_⟩
  · rw [pk_un (by omega)]; exact (hs.1 i hi).1
  · have := hl i hi
    have hk' : k < (R.1 i).length := hk
    rw [pk_un (by omega)]; exact (hs.1 i hi).2 k hk
  · rw [pk_un (by omega)]; exact hs.2.1 k hk
  · show upd g (58 + j) v (0 + (58 + k)) = upd R.2.2.1 j v k
    by_cases e : k = j
    · subst e; rw [show 0 + (58 + k) = 58 + k by omega, pk_us, pk_us]
    · rw [pk_un (by omega), pk_un e]; exact hs.2.2.1 k hk
  · rw [pk_un (by omega)]; exact hs.2.2.2 k hk
theorem sHold.dt {g : Nat → Int32} {R : RecS} (hs : sHold g 0 R) (hl : ∀ i, i < 4 → (R.1 i).length ≤ 12) (j : Nat) (hj : j < 26) (v : Int32) : sHold (upd g (64 + j) v) 0 (R.1, R.2.1, R.2.2.1, upd R.2.2.2 j v) := by
  refine ⟨fun i hi => ⟨?_, fun k hk => ?_⟩, fun k hk => ?_, fun k hk => ?_, fun k hk => ?_⟩
  · rw [pk_un (by omega)]; exact (hs.1 i hi).1
  · have := hl i hi
    have hk' : k < (R.1 i).length := hk
    rw [pk_un (by omega)]; exact (hs.1 i hi).2 k hk
  · rw [pk_un (by omega)]; exact hs.2.1 k hk
  · rw [pk_un (by omega)]; exact hs.2.2.1 k hk
  · show upd g (64 + j) v (0 + (64 + k)) = upd R.2.2.2 j v k
    by_cases e : k = j
    · subst e; rw [show 0 + (64 + k) = 64 + k by omega, pk_us, pk_us]
    · rw [pk_un (by omega), pk_un e]; exact hs.2.2.2 k hk
theorem sHold.z {g : Nat → Int32} {R : RecS} (hs : sHold g 0 R) : (∀ i, i < 4 → g (13 * i) = nI (R.1 i).length) ∧ (∀ i, i < 4 → ∀ k, k < (R.1 i).length → g (13 * i + 1 + k) = (R.1 i).getD k 0) ∧ (∀ k, k < 6 → g (52 + k) = R.2.1 k) ∧ (∀ k, k < 6 → g (58 + k) = R.2.2.1 k) ∧ ∀ k, k < 26 → g (64 + k) = R.2.2.2 k := by
  obtain ⟨h1, h2, h3, h4⟩ := hs
  simp only [Nat.zero_add] at h1 h2 h3 h4
  exact ⟨fun i hi => (h1 i hi).1, fun i hi => (h1 i hi).2, h2, h3, h4⟩
section M3
variable {E : EV} {h : HP} {n m : Nat} {S : AS}
theorem o_name (hm : modP h m S) (hw : wfR (sN S)) (i k : Int32) : PM E mX8_name [.ref m, .int i, .int k] h n n 0 (QM m h (some (.int (a_name S i k))) S) := by
  obtain ⟨⟨th, nx, tk, pl, vl, ft, sz, nm, m0⟩, ma⟩ := id hm
  obtain ⟨⟨g, q1, k1⟩, -⟩ := id ma
  have post : ∀ v0, v0 = a_name S i k → QM m h (some (.int (a_name S i k))) S (some (.int v0)) (va_up h m (some (.inr (8, mob m (nI 0) (sQ S) (nI (sT S).length) nx tk pl vl ft (sLo S) (sHi S) sz nm)))) := fun v0 e => ⟨by rw [e], ⟨⟨_, _, _, _, _, _, _, _, va_up_self _ _ _⟩, ma.on up_m⟩, on_m⟩
  have e1 : (-1 : Int32).toInt = -1 := by decide
  refine PM.of [.ref m, .int i, .int k] rfl (Nat.le_of_ble_eq_true rfl) rfl ?_
  refine pw_aload_n (pc := 0) dX8_name_0 rfl ?_
  refine pw_iconst (pc := 1) (nI 0) dX8_name_1 (by decide) ?_
  refine pw_put0 (pc := 2) fp_X8_61 dX8_name_2 (by first | assumption | exact va_up_self _ _ _ | exact lk1 (by first | assumption | (apply Ne.symm; assumption) | (simp; done)) (by assumption) | exact lk1 (by first | assumption | (apply Ne.symm; assumption) | (simp; done)) (va_up_self _ _ _) | exact lk1 (by first | assumption | (apply Ne.symm; assumption) | (simp; done)) (lk1 (by first | assumption | (apply Ne.symm; assumption) | (simp; done)) (by assumption)) | exact lk1 (by first | assumption | (apply Ne.symm; assumption) | (simp; done)) (lk1 (by first | assumption | (apply Ne.symm; assumption) | (simp; done)) (va_up_self _ _ _)) | exact lk1 (by first | assumption | (apply Ne.symm; assumption) | (simp; done)) (lk1 (by first | assumption | (apply Ne.symm; assumption) | (simp; done)) (lk1 (by first | assumption | (apply Ne.symm; assumption) | (simp; done)) (by assumption))) | exact lk1 (by first | assumption | (apply Ne.symm; assumption) | (simp; done)) (lk1 (by first | assumption | (apply Ne.symm; assumption) | (simp; done)) (lk1 (by first | assumption | (apply Ne.symm; assumption) | (simp; done)) (va_up_self _ _ _))) | exact lk1 (by first | assumption | (apply Ne.symm; assumption) | (simp; done)) (lk1 (by first | assumption | (apply Ne.symm; assumption) | (simp; done)) (lk1 (by first | assumption | (apply Ne.symm; assumption) | (simp; done)) (lk1 (by first | assumption | (apply Ne.symm; assumption) | (simp; done)) (by assumption)))) | exact lk1 (by first | assumption | (apply Ne.symm; assumption) | (simp; done)) (lk1 (by first | assumption | (apply Ne.symm; assumption) | (simp; done)) (lk1 (by first | assumption | (apply Ne.symm; assumption) | (simp; done)) (lk1 (by first | assumption | (apply Ne.symm; assumption) | (simp; done)) (va_up_self _ _ _))))) rfl rfl ?_
  refine pw_iload_n (pc := 5) dX8_name_5 rfl ?_
  refine pw_callS_i (pc := 6) cs_X8_124 dX8_name_6 (c_misList i) rfl rfl (Nat.le_of_ble_eq_true rfl) ⟨(Nat.le_of_ble_eq_true rfl), (Nat.le_of_ble_eq_true rfl)⟩ ?_
  refine pw_if_eq_b (pc := 9) 27 dX8_name_9 (by decide) (fun z => ?_) (fun z => ?_)
  · refine pw_iconst (pc := 27) (-1) dX8_name_27 (by decide) ?_
    refine pw_goto (pc := 28) 49 dX8_name_28 (by decide) ?_
    exact pw_iret dX8_name_49 rfl (post _ (by rw [a_name, z]; rfl))
  · obtain ⟨j, hj, rfl, ej⟩ := rg_ix (hi := 3) z
    have hl := (hw.1 j (by omega)).1
    have es := k1.z.1 j (by omega)
    have hl' : (sLs S j).length ≤ 12 := hl
    have hsub : (nI ((sN S).1 j).length - nI 1).toInt = ((sLs S j).length : Int) - 1 := pk_sub_toInt (by omega) (by omega)
    refine pw_iload_n (pc := 12) dX8_name_12 rfl ?_
    refine pw_iconst (pc := 13) (-1) dX8_name_13 (by decide) ?_
    refine pw_aload_n (pc := 14) dX8_name_14 rfl ?_
    refine pw_iload_n (pc := 15) dX8_name_15 rfl ?_
    refine pw_callV_i (pc := 16) cv_X8_68 dX8_name_16 (by first | assumption | exact va_up_self _ _ _ | exact lk1 (by first | assumption | (apply Ne.symm; assumption) | (simp; done)) (by assumption) | exact lk1 (by first | assumption | (apply Ne.symm; assumption) | (simp; done)) (va_up_self _ _ _) | exact lk1 (by first | assumption | (apply Ne.symm; assumption) | (simp; done)) (lk1 (by first | assumption | (apply Ne.symm; assumption) | (simp; done)) (by assumption)) | exact lk1 (by first | assumption | (apply Ne.symm; assumption) | (simp; done)) (lk1 (by first | assumption | (apply Ne.symm; assumption) | (simp; done)) (va_up_self _ _ _)) | exact lk1 (by first | assumption | (apply Ne.symm; assumption) | (simp; done)) (lk1 (by first | assumption | (apply Ne.symm; assumption) | (simp; done)) (lk1 (by first | assumption | (apply Ne.symm; assumption) | (simp; done)) (by assumption))) | exact lk1 (by first | assumption | (apply Ne.symm; assumption) | (simp; done)) (lk1 (by first | assumption | (apply Ne.symm; assumption) | (simp; done)) (lk1 (by first | assumption | (apply Ne.symm; assumption) | (simp; done)) (va_up_self _ _ _))) | exact lk1 (by first | assumption | (apply Ne.symm; assumption) | (simp; done)) (lk1 (by first | assumption | (apply Ne.symm; assumption) | (simp; done)) (lk1 (by first | assumption | (apply Ne.symm; assumption) | (simp; done)) (lk1 (by first | assumption | (apply Ne.symm; assumption) | (simp; done)) (by assumption)))) | exact lk1 (by first | assumption | (apply Ne.symm; assumption) | (simp; done)) (lk1 (by first | assumption | (apply Ne.symm; assumption) | (simp; done)) (lk1 (by first | assumption | (apply Ne.symm; assumption) | (simp; done)) (lk1 (by first | assumption | (apply Ne.symm; assumption) | (simp; done)) (va_up_self _ _ _))))) rfl (c_msizeOf (va_up_self _ _ _) rfl (lk1 (by omega) q1) j (by omega)) rfl rfl (Nat.le_of_ble_eq_true rfl) ⟨(Nat.le_of_ble_eq_true rfl), (Nat.le_of_ble_eq_true rfl)⟩ ?_
    refine pw_iconst (pc := 19) (nI 1) dX8_name_19 (by decide) ?_
    refine pw_isub (pc := 20) dX8_name_20 ?_
    refine pw_callS_i (pc := 21) cs_X8_64 dX8_name_21 (c_in _ _ _) rfl rfl (Nat.le_of_ble_eq_true rfl) ⟨(Nat.le_of_ble_eq_true rfl), (Nat.le_of_ble_eq_true rfl)⟩ ?_
    rw [es]
    refine pw_if_ne_b (pc := 24) 31 dX8_name_24 (by decide) (fun z2 => ?_) (fun z2 => ?_)
    · have z3 := rg_t z2
      rw [hsub, e1] at z3
      refine pw_iload_n (pc := 31) dX8_name_31 rfl ?_
      refine pw_if_ge (pc := 32) 43 dX8_name_32 (by decide) (fun z4 => ?_) (fun z4 => ?_)
      · rw [i32_le, i32_0] at z4
        obtain ⟨p, hp, ek⟩ := ix_of (sz := (sLs S j).length) z4 (by omega) (by omega)
        have ek2 : ixN k = p := by rw [ek, ixN, nI_toInt (by omega)]; omega
        have hp' : p < ((sN S).1 j).length := hp
        rw [ek]
        refine pw_aload_n (pc := 43) dX8_name_43 rfl ?_
        refine pw_iload_n (pc := 44) dX8_name_44 rfl ?_
        refine pw_iload_n (pc := 45) dX8_name_45 rfl ?_
        refine pw_callV_i (pc := 46) cv_X8_72 dX8_name_46 (by first | assumption | exact va_up_self _ _ _ | exact lk1 (by first | assumption | (apply Ne.symm; assumption) | (simp; done)) (by assumption) | exact lk1 (by first | assumption | (apply Ne.symm; assumption) | (simp; done)) (va_up_self _ _ _) | exact lk1 (by first | assumption | (apply Ne.symm; assumption) | (simp; done)) (lk1 (by first | assumption | (apply Ne.symm; assumption) | (simp; done)) (by assumption)) | exact lk1 (by first | assumption | (apply Ne.symm; assumption) | (simp; done)) (lk1 (by first | assumption | (apply Ne.symm; assumption) | (simp; done)) (va_up_self _ _ _)) | exact lk1 (by first | assumption | (apply Ne.symm; assumption) | (simp; done)) (lk1 (by first | assumption | (apply Ne.symm; assumption) | (simp; done)) (lk1 (by first | assumption | (apply Ne.symm; assumption) | (simp; done)) (by assumption))) | exact lk1 (by first | assumption | (apply Ne.symm; assumption) | (simp; done)) (lk1 (by first | assumption | (apply Ne.symm; assumption) | (simp; done)) (lk1 (by first | assumption | (apply Ne.symm; assumption) | (simp; done)) (va_up_self _ _ _))) | exact lk1 (by first | assumption | (apply Ne.symm; assumption) | (simp; done)) (lk1 (by first | assumption | (apply Ne.symm; assumption) | (simp; done)) (lk1 (by first | assumption | (apply Ne.symm; assumption) | (simp; done)) (lk1 (by first | assumption | (apply Ne.symm; assumption) | (simp; done)) (by assumption)))) | exact lk1 (by first | assumption | (apply Ne.symm; assumption) | (simp; done)) (lk1 (by first | assumption | (apply Ne.symm; assumption) | (simp; done)) (lk1 (by first | assumption | (apply Ne.symm; assumption) | (simp; done)) (lk1 (by first | assumption | (apply Ne.symm; assumption) | (simp; done)) (va_up_self _ _ _))))) rfl (c_mat (va_up_self _ _ _) rfl (lk1 (by omega) q1) j p (by omega) (by omega)) rfl rfl (Nat.le_of_ble_eq_true rfl) ⟨(Nat.le_of_ble_eq_true rfl), (Nat.le_of_ble_eq_true rfl)⟩ ?_
        have hne : ¬ k = -1 := fun q => by rw [q, e1] at z4; omega
        rw [← ek]
        refine pw_iret dX8_name_49 rfl (post _ ?_)
        rw [a_name, z, if_pos rfl, if_neg hne, ej, if_pos ⟨z4, by omega⟩, ek2, k1.z.2.1 j (by omega) p hp']
      · rw [i32_le, i32_0] at z4
        have hk : k = -1 := by rw [i32_eq, e1]; omega
        refine pw_aload_n (pc := 35) dX8_name_35 rfl ?_
        refine pw_iload_n (pc := 36) dX8_name_36 rfl ?_
        refine pw_callV_i (pc := 37) cv_X8_68 dX8_name_37 (by first | assumption | exact va_up_self _ _ _ | exact lk1 (by first | assumption | (apply Ne.symm; assumption) | (simp; done)) (by assumption) | exact lk1 (by first | assumption | (apply Ne.symm; assumption) | (simp; done)) (va_up_self _ _ _) | exact lk1 (by first | assumption | (apply Ne.symm; assumption) | (simp; done)) (lk1 (by first | assumption | (apply Ne.symm; assumption) | (simp; done)) (by assumption)) | exact lk1 (by first | assumption | (apply Ne.symm; assumption) | (simp; done)) (lk1 (by first | assumption | (apply Ne.symm; assumption) | (simp; done)) (va_up_self _ _ _)) | exact lk1 (by first | assumption | (apply Ne.symm; assumption) | (simp; done)) (lk1 (by first | assumption | (apply Ne.symm; assumption) | (simp; done)) (lk1 (by first | assumption | (apply Ne.symm; assumption) | (simp; done)) (by assumption))) | exact lk1 (by first | assumption | (apply Ne.symm; assumption) | (simp; done)) (lk1 (by first | assumption | (apply Ne.symm; assumption) | (simp; done)) (lk1 (by first | assumption | (apply Ne.symm; assumption) | (simp; done)) (va_up_self _ _ _))) | exact lk1 (by first | assumption | (apply Ne.symm; assumption) | (simp; done)) (lk1 (by first | assumption | (apply Ne.symm; assumption) | (simp; done)) (lk1 (by first | assumption | (apply Ne.symm; assumption) | (simp; done)) (lk1 (by first | assumption | (apply Ne.symm; assumption) | (simp; done)) (by assumption)))) | exact lk1 (by first | assumption | (apply Ne.symm; assumption) | (simp; done)) (lk1 (by first | assumption | (apply Ne.symm; assumption) | (simp; done)) (lk1 (by first | assumption | (apply Ne.symm; assumption) | (simp; done)) (lk1 (by first | assumption | (apply Ne.symm; assumption) | (simp; done)) (va_up_self _ _ _))))) rfl (c_msizeOf (va_up_self _ _ _) rfl (lk1 (by omega) q1) j (by omega)) rfl rfl (Nat.le_of_ble_eq_true rfl) ⟨(Nat.le_of_ble_eq_true rfl), (Nat.le_of_ble_eq_true rfl)⟩ ?_
        refine pw_goto (pc := 40) 49 dX8_name_40 (by decide) ?_
        refine pw_iret dX8_name_49 rfl (post _ ?_)
        rw [a_name, z, if_pos rfl, if_pos hk, ej, es]
    · have z3 := rg_f z2
      rw [hsub, e1] at z3
      have hne : ¬ k = -1 := fun q => z3 (by rw [q, e1]; omega)
      refine pw_iconst (pc := 27) (-1) dX8_name_27 (by decide) ?_
      refine pw_goto (pc := 28) 49 dX8_name_28 (by decide) ?_
      refine pw_iret dX8_name_49 rfl (post _ ?_)
      rw [a_name, z, if_pos rfl, if_neg hne, ej, if_neg (by omega)]
theorem o_date (hm : modP h m S) (hw : wfR (sN S)) (x v : Int32) : PM E mX8_date [.ref m, .int x, .int v] h n n 0 (QM m h (some (.int (a_date S x v))) (n_date S x v)) := by
  obtain ⟨⟨th, nx, tk, pl, vl, ft, sz, nm, m0⟩, ma⟩ := id hm
  obtain ⟨⟨g, q1, k1⟩, -⟩ := id ma
  have bad : (rg 0 25 x && (decide (v = -9) || rg 0 2000 v)) = false → PW (KX E mX8_date n (QM m h (some (.int (a_date S x v))) (n_date S x v))) 29 [.ref m, .int x, .int v, .null] [] (va_up h m (some (.inr (8, mob m (nI 0) (sQ S) (nI (sT S).length) nx tk pl vl ft (sLo S) (sHi S) sz nm)))) n 0 := by
    intro hno
    refine pw_iconst (pc := 29) (-1) dX8_date_29 (by decide) ?_
    refine pw_iret dX8_date_30 rfl ⟨?_, ?_, on_m⟩
    · rw [a_date, hno]; rfl
    · rw [n_date, hno]; exact ⟨⟨_, _, _, _, _, _, _, _, va_up_self _ _ _⟩, ma.on up_m⟩
  have good : rg 0 25 x = true → (decide (v = -9) || rg 0 2000 v) = true → PW (KX E mX8_date n (QM m h (some (.int (a_date S x v))) (n_date S x v))) 31 [.ref m, .int x, .int v, .null] [] (va_up h m (some (.inr (8, mob m (nI 0) (sQ S) (nI (sT S).length) nx tk pl vl ft (sLo S) (sHi S) sz nm)))) n 0 := by
    intro h1 h2
    obtain ⟨j, hj, ex, ej⟩ := rg_ix (hi := 25) h1
    rw [ex]
    have q1' := lk1 (v := some (.inr (8, mob m (nI 0) (sQ S) (nI (sT S).length) nx tk pl vl ft (sLo S) (sHi S) sz nm))) (k := m) (by omega) q1
    refine pw_aload_n (pc := 31) dX8_date_31 rfl ?_
    refine pw_get (pc := 32) fg_X8_7 dX8_date_32 (by first | assumption | exact va_up_self _ _ _ | exact lk1 (by first | assumption | (apply Ne.symm; assumption) | (simp; done)) (by assumption) | exact lk1 (by first | assumption | (apply Ne.symm; assumption) | (simp; done)) (va_up_self _ _ _) | exact lk1 (by first | assumption | (apply Ne.symm; assumption) | (simp; done)) (lk1 (by first | assumption | (apply Ne.symm; assumption) | (simp; done)) (by assumption)) | exact lk1 (by first | assumption | (apply Ne.symm; assumption) | (simp; done)) (lk1 (by first | assumption | (apply Ne.symm; assumption) | (simp; done)) (va_up_self _ _ _)) | exact lk1 (by first | assumption | (apply Ne.symm; assumption) | (simp; done)) (lk1 (by first | assumption | (apply Ne.symm; assumption) | (simp; done)) (lk1 (by first | assumption | (apply Ne.symm; assumption) | (simp; done)) (by assumption))) | exact lk1 (by first | assumption | (apply Ne.symm; assumption) | (simp; done)) (lk1 (by first | assumption | (apply Ne.symm; assumption) | (simp; done)) (lk1 (by first | assumption | (apply Ne.symm; assumption) | (simp; done)) (va_up_self _ _ _))) | exact lk1 (by first | assumption | (apply Ne.symm; assumption) | (simp; done)) (lk1 (by first | assumption | (apply Ne.symm; assumption) | (simp; done)) (lk1 (by first | assumption | (apply Ne.symm; assumption) | (simp; done)) (lk1 (by first | assumption | (apply Ne.symm; assumption) | (simp; done)) (by assumption)))) | exact lk1 (by first | assumption | (apply Ne.symm; assumption) | (simp; done)) (lk1 (by first | assumption | (apply Ne.symm; assumption) | (simp; done)) (lk1 (by first | assumption | (apply Ne.symm; assumption) | (simp; done)) (lk1 (by first | assumption | (apply Ne.symm; assumption) | (simp; done)) (va_up_self _ _ _))))) (by first | rfl | assumption) ?_
    refine pw_bipush (pc := 35) (nI 64) dX8_date_35 (by decide) ?_
    refine pw_iload_n (pc := 37) dX8_date_37 rfl ?_
    refine pw_iadd (pc := 38) dX8_date_38 ?_
    refine pw_iald (pc := 39) (64 + j) dX8_date_39 (by first | assumption | exact va_up_self _ _ _ | exact lk1 (by first | assumption | (apply Ne.symm; assumption) | (simp; done)) (by assumption) | exact lk1 (by first | assumption | (apply Ne.symm; assumption) | (simp; done)) (va_up_self _ _ _) | exact lk1 (by first | assumption | (apply Ne.symm; assumption) | (simp; done)) (lk1 (by first | assumption | (apply Ne.symm; assumption) | (simp; done)) (by assumption)) | exact lk1 (by first | assumption | (apply Ne.symm; assumption) | (simp; done)) (lk1 (by first | assumption | (apply Ne.symm; assumption) | (simp; done)) (va_up_self _ _ _)) | exact lk1 (by first | assumption | (apply Ne.symm; assumption) | (simp; done)) (lk1 (by first | assumption | (apply Ne.symm; assumption) | (simp; done)) (lk1 (by first | assumption | (apply Ne.symm; assumption) | (simp; done)) (by assumption))) | exact lk1 (by first | assumption | (apply Ne.symm; assumption) | (simp; done)) (lk1 (by first | assumption | (apply Ne.symm; assumption) | (simp; done)) (lk1 (by first | assumption | (apply Ne.symm; assumption) | (simp; done)) (va_up_self _ _ _))) | exact lk1 (by first | assumption | (apply Ne.symm; assumption) | (simp; done)) (lk1 (by first | assumption | (apply Ne.symm; assumption) | (simp; done)) (lk1 (by first | assumption | (apply Ne.symm; assumption) | (simp; done)) (lk1 (by first | assumption | (apply Ne.symm; assumption) | (simp; done)) (by assumption)))) | exact lk1 (by first | assumption | (apply Ne.symm; assumption) | (simp; done)) (lk1 (by first | assumption | (apply Ne.symm; assumption) | (simp; done)) (lk1 (by first | assumption | (apply Ne.symm; assumption) | (simp; done)) (lk1 (by first | assumption | (apply Ne.symm; assumption) | (simp; done)) (va_up_self _ _ _))))) (by first | assumption | rfl | (simp only [nI_add, pk_mul, Nat.one_mul, Nat.mul_one, Nat.zero_add, Nat.add_zero, Nat.mul_zero]; done) | exact pk_sub (by omega) | (rw [pk_sub (by omega)]; first | done | (rw [nI_add]; done) | (rw [pk_sub (by omega)]; done) | (rw [pk_sub (by omega), nI_add]; done)) | (simp only [nI_add, pk_mul]; first | exact pk_sub (by omega) | (congr 1; omega)) | (congr 1; omega)) (by omega) (by omega) ?_
    refine pw_ist3 (pc := 40) dX8_date_40 (Nat.le_of_ble_eq_true rfl) rfl ?_
    refine pw_aload_n (pc := 41) dX8_date_41 rfl ?_
    refine pw_get (pc := 42) fg_X8_7 dX8_date_42 (by first | assumption | exact va_up_self _ _ _ | exact lk1 (by first | assumption | (apply Ne.symm; assumption) | (simp; done)) (by assumption) | exact lk1 (by first | assumption | (apply Ne.symm; assumption) | (simp; done)) (va_up_self _ _ _) | exact lk1 (by first | assumption | (apply Ne.symm; assumption) | (simp; done)) (lk1 (by first | assumption | (apply Ne.symm; assumption) | (simp; done)) (by assumption)) | exact lk1 (by first | assumption | (apply Ne.symm; assumption) | (simp; done)) (lk1 (by first | assumption | (apply Ne.symm; assumption) | (simp; done)) (va_up_self _ _ _)) | exact lk1 (by first | assumption | (apply Ne.symm; assumption) | (simp; done)) (lk1 (by first | assumption | (apply Ne.symm; assumption) | (simp; done)) (lk1 (by first | assumption | (apply Ne.symm; assumption) | (simp; done)) (by assumption))) | exact lk1 (by first | assumption | (apply Ne.symm; assumption) | (simp; done)) (lk1 (by first | assumption | (apply Ne.symm; assumption) | (simp; done)) (lk1 (by first | assumption | (apply Ne.symm; assumption) | (simp; done)) (va_up_self _ _ _))) | exact lk1 (by first | assumption | (apply Ne.symm; assumption) | (simp; done)) (lk1 (by first | assumption | (apply Ne.symm; assumption) | (simp; done)) (lk1 (by first | assumption | (apply Ne.symm; assumption) | (simp; done)) (lk1 (by first | assumption | (apply Ne.symm; assumption) | (simp; done)) (by assumption)))) | exact lk1 (by first | assumption | (apply Ne.symm; assumption) | (simp; done)) (lk1 (by first | assumption | (apply Ne.symm; assumption) | (simp; done)) (lk1 (by first | assumption | (apply Ne.symm; assumption) | (simp; done)) (lk1 (by first | assumption | (apply Ne.symm; assumption) | (simp; done)) (va_up_self _ _ _))))) (by first | rfl | assumption) ?_
    refine pw_bipush (pc := 45) (nI 64) dX8_date_45 (by decide) ?_
    refine pw_iload_n (pc := 47) dX8_date_47 rfl ?_
    refine pw_iadd (pc := 48) dX8_date_48 ?_
    refine pw_iload_n (pc := 49) dX8_date_49 rfl ?_
    refine pw_iast (pc := 50) (64 + j) dX8_date_50 (by first | assumption | exact va_up_self _ _ _ | exact lk1 (by first | assumption | (apply Ne.symm; assumption) | (simp; done)) (by assumption) | exact lk1 (by first | assumption | (apply Ne.symm; assumption) | (simp; done)) (va_up_self _ _ _) | exact lk1 (by first | assumption | (apply Ne.symm; assumption) | (simp; done)) (lk1 (by first | assumption | (apply Ne.symm; assumption) | (simp; done)) (by assumption)) | exact lk1 (by first | assumption | (apply Ne.symm; assumption) | (simp; done)) (lk1 (by first | assumption | (apply Ne.symm; assumption) | (simp; done)) (va_up_self _ _ _)) | exact lk1 (by first | assumption | (apply Ne.symm; assumption) | (simp; done)) (lk1 (by first | assumption | (apply Ne.symm; assumption) | (simp; done)) (lk1 (by first | assumption | (apply Ne.symm; assumption) | (simp; done)) (by assumption))) | exact lk1 (by first | assumption | (apply Ne.symm; assumption) | (simp; done)) (lk1 (by first | assumption | (apply Ne.symm; assumption) | (simp; done)) (lk1 (by first | assumption | (apply Ne.symm; assumption) | (simp; done)) (va_up_self _ _ _))) | exact lk1 (by first | assumption | (apply Ne.symm; assumption) | (simp; done)) (lk1 (by first | assumption | (apply Ne.symm; assumption) | (simp; done)) (lk1 (by first | assumption | (apply Ne.symm; assumption) | (simp; done)) (lk1 (by first | assumption | (apply Ne.symm; assumption) | (simp; done)) (by assumption)))) | exact lk1 (by first | assumption | (apply Ne.symm; assumption) | (simp; done)) (lk1 (by first | assumption | (apply Ne.symm; assumption) | (simp; done)) (lk1 (by first | assumption | (apply Ne.symm; assumption) | (simp; done)) (lk1 (by first | assumption | (apply Ne.symm; assumption) | (simp; done)) (va_up_self _ _ _))))) (by first | assumption | rfl | (simp only [nI_add, pk_mul, Nat.one_mul, Nat.mul_one, Nat.zero_add, Nat.add_zero, Nat.mul_zero]; done) | exact pk_sub (by omega) | (rw [pk_sub (by omega)]; first | done | (rw [nI_add]; done) | (rw [pk_sub (by omega)]; done) | (rw [pk_sub (by omega), nI_add]; done)) | (simp only [nI_add, pk_mul]; first | exact pk_sub (by omega) | (congr 1; omega)) | (congr 1; omega)) (by omega) (by omega) ?_
    refine pw_iload_n (pc := 51) dX8_date_51 rfl ?_
    rw [← ex]
    refine pw_iret dX8_date_52 rfl ⟨?_, ?_, on_m.up (by omega) (by omega)⟩
    · rw [a_date, h1, h2, ej, k1.z.2.2.2.2 j (by omega)]; rfl
    · rw [n_date, h1, h2, ej]
      exact ⟨⟨_, _, _, _, _, _, _, _, lk1 (by omega) (va_up_self _ _ _)⟩, (ma.on up_m).setS (eqOn.up eqOn.rfl (by omega)) (va_up_self _ _ _) (k1.dt (fun i hi => (hw.1 i hi).1) j (by omega) v)⟩
  refine PM.of [.ref m, .int x, .int v, .null] rfl (Nat.le_of_ble_eq_true rfl) rfl ?_
  refine pw_aload_n (pc := 0) dX8_date_0 rfl ?_
  refine pw_iconst (pc := 1) (nI 0) dX8_date_1 (by decide) ?_
  refine pw_put0 (pc := 2) fp_X8_61 dX8_date_2 (by first | assumption | exact va_up_self _ _ _ | exact lk1 (by first | assumption | (apply Ne.symm; assumption) | (simp; done)) (by assumption) | exact lk1 (by first | assumption | (apply Ne.symm; assumption) | (simp; done)) (va_up_self _ _ _) | exact lk1 (by first | assumption | (apply Ne.symm; assumption) | (simp; done)) (lk1 (by first | assumption | (apply Ne.symm; assumption) | (simp; done)) (by assumption)) | exact lk1 (by first | assumption | (apply Ne.symm; assumption) | (simp; done)) (lk1 (by first | assumption | (apply Ne.symm; assumption) | (simp; done)) (va_up_self _ _ _)) | exact lk1 (by first | assumption | (apply Ne.symm; assumption) | (simp; done)) (lk1 (by first | assumption | (apply Ne.symm; assumption) | (simp; done)) (lk1 (by first | assumption | (apply Ne.symm; assumption) | (simp; done)) (by assumption))) | exact lk1 (by first | assumption | (apply Ne.symm; assumption) | (simp; done)) (lk1 (by first | assumption | (apply Ne.symm; assumption) | (simp; done)) (lk1 (by first | assumption | (apply Ne.symm; assumption) | (simp; done)) (va_up_self _ _ _))) | exact lk1 (by first | assumption | (apply Ne.symm; assumption) | (simp; done)) (lk1 (by first | assumption | (apply Ne.symm; assumption) | (simp; done)) (lk1 (by first | assumption | (apply Ne.symm; assumption) | (simp; done)) (lk1 (by first | assumption | (apply Ne.symm; assumption) | (simp; done)) (by assumption)))) | exact lk1 (by first | assumption | (apply Ne.symm; assumption) | (simp; done)) (lk1 (by first | assumption | (apply Ne.symm; assumption) | (simp; done)) (lk1 (by first | assumption | (apply Ne.symm; assumption) | (simp; done)) (lk1 (by first | assumption | (apply Ne.symm; assumption) | (simp; done)) (va_up_self _ _ _))))) rfl rfl ?_
  refine pw_iload_n (pc := 5) dX8_date_5 rfl ?_
  refine pw_callS_i (pc := 6) cs_X8_128 dX8_date_6 (c_misName x) rfl rfl (Nat.le_of_ble_eq_true rfl) ⟨(Nat.le_of_ble_eq_true rfl), (Nat.le_of_ble_eq_true rfl)⟩ ?_
  refine pw_if_eq_b (pc := 9) 29 dX8_date_9 (by decide) (fun z => ?_) (fun z => ?_)
  · exact bad (by rw [z]; rfl)
  · refine pw_iload_n (pc := 12) dX8_date_12 rfl ?_
    refine pw_bipush (pc := 13) (-9) dX8_date_13 (by decide) ?_
    refine pw_icmp_eq (pc := 15) 31 dX8_date_15 (by decide) (fun z1 => ?_) (fun z1 => ?_)
    · exact good z (by simp [z1])
    · refine pw_iload_n (pc := 18) dX8_date_18 rfl ?_
      refine pw_iconst (pc := 19) (nI 0) dX8_date_19 (by decide) ?_
      refine pw_sipush (pc := 20) (nI 2000) dX8_date_20 (by decide) ?_
      refine pw_callS_i (pc := 23) cs_X8_64 dX8_date_23 (c_in v (nI 0) (nI 2000)) rfl rfl (Nat.le_of_ble_eq_true rfl) ⟨(Nat.le_of_ble_eq_true rfl), (Nat.le_of_ble_eq_true rfl)⟩ ?_
      refine pw_if_ne_b (pc := 26) 31 dX8_date_26 (by decide) (fun z2 => ?_) (fun z2 => ?_)
      · exact good z (by rw [show rg 0 2000 v = true from z2]; simp)
      · exact bad (by rw [show rg 0 2000 v = false from z2]; simp [z1])
theorem o_house (hm : modP h m S) (hw : wfR (sN S)) (x w v : Int32) : PM E mX8_house [.ref m, .int x, .int w, .int v] h n n 0 (QM m h (some (.int (a_house S x w v))) (n_house S x w v)) := by
  obtain ⟨⟨th, nx, tk, pl, vl, ft, sz, nm, m0⟩, ma⟩ := id hm
  obtain ⟨⟨g, q1, k1⟩, -⟩ := id ma
  have hlen : ∀ i, i < 4 → ((sN S).1 i).length ≤ 12 := fun i hi => (hw.1 i hi).1
  have bad : ¬ (rg 0 5 x = true ∧ ((w = 0 ∧ rg 0 99 v = true) ∨ (w = 1 ∧ (decide (v = -9) || rg 0 25 v) = true))) → PW (KX E mX8_house n (QM m h (some (.int (a_house S x w v))) (n_house S x w v))) 53 [.ref m, .int x, .int w, .int v, .null, .null] [] (va_up h m (some (.inr (8, mob m (nI 0) (sQ S) (nI (sT S).length) nx tk pl vl ft (sLo S) (sHi S) sz nm)))) n 0 := by
    intro hno
    refine pw_iconst (pc := 53) (-1) dX8_house_53 (by decide) ?_
    refine pw_iret dX8_house_54 rfl ⟨?_, ?_, on_m⟩
    · rw [a_house]
      split
      · rename_i hx
        rw [if_neg (fun q => hno ⟨hx, Or.inl q⟩), if_neg (fun q => hno ⟨hx, Or.inr q⟩)]
      · rfl
    · have e : n_house S x w v = S := by
        rw [n_house]
        split
        · rename_i hx
          rw [if_neg (fun q => hno ⟨hx, Or.inl q⟩), if_neg (fun q => hno ⟨hx, Or.inr q⟩)]
        · rfl
      rw [e]; exact ⟨⟨_, _, _, _, _, _, _, _, va_up_self _ _ _⟩, ma.on up_m⟩
  have q1' := lk1 (v := some (.inr (8, mob m (nI 0) (sQ S) (nI (sT S).length) nx tk pl vl ft (sLo S) (sHi S) sz nm))) (k := m) (by omega) q1
  have good : rg 0 5 x = true → ((w = 0 ∧ rg 0 99 v = true) ∨ (w = 1 ∧ (decide (v = -9) || rg 0 25 v) = true)) → PW (KX E mX8_house n (QM m h (some (.int (a_house S x w v))) (n_house S x w v))) 55 [.ref m, .int x, .int w, .int v, .null, .null] [] (va_up h m (some (.inr (8, mob m (nI 0) (sQ S) (nI (sT S).length) nx tk pl vl ft (sLo S) (sHi S) sz nm)))) n 0 := by
    intro h1 h2
    obtain ⟨j, hj, ex, ej⟩ := rg_ix (hi := 5) h1
    rw [ex]
    refine pw_iload_n (pc := 55) dX8_house_55 rfl ?_
    refine pw_if_ne (pc := 56) 64 dX8_house_56 (by decide) (fun z => ?_) (fun z => ?_)
    · have h3 := h2.resolve_left (fun q => z q.1)
      refine pw_bipush (pc := 64) (nI 58) dX8_house_64 (by decide) ?_
      refine pw_iload_n (pc := 66) dX8_house_66 rfl ?_
      refine pw_iadd (pc := 67) dX8_house_67 ?_
      refine pw_ist4 (pc := 68) dX8_house_68 (Nat.le_of_ble_eq_true rfl) rfl ?_
      refine pw_aload_n (pc := 70) dX8_house_70 rfl ?_
      refine pw_get (pc := 71) fg_X8_7 dX8_house_71 (by first | assumption | exact va_up_self _ _ _ | exact lk1 (by first | assumption | (apply Ne.symm; assumption) | (simp; done)) (by assumption) | exact lk1 (by first | assumption | (apply Ne.symm; assumption) | (simp; done)) (va_up_self _ _ _) | exact lk1 (by first | assumption | (apply Ne.symm; assumption) | (simp; done)) (lk1 (by first | assumption | (apply Ne.symm; assumption) | (simp; done)) (by assumption)) | exact lk1 (by first | assumption | (apply Ne.symm; assumption) | (simp; done)) (lk1 (by first | assumption | (apply Ne.symm; assumption) | (simp; done)) (va_up_self _ _ _)) | exact lk1 (by first | assumption | (apply Ne.symm; assumption) | (simp; done)) (lk1 (by first | assumption | (apply Ne.symm; assumption) | (simp; done)) (lk1 (by first | assumption | (apply Ne.symm; assumption) | (simp; done)) (by assumption))) | exact lk1 (by first | assumption | (apply Ne.symm; assumption) | (simp; done)) (lk1 (by first | assumption | (apply Ne.symm; assumption) | (simp; done)) (lk1 (by first | assumption | (apply Ne.symm; assumption) | (simp; done)) (va_up_self _ _ _))) | exact lk1 (by first | assumption | (apply Ne.symm; assumption) | (simp; done)) (lk1 (by first | assumption | (apply Ne.symm; assumption) | (simp; done)) (lk1 (by first | assumption | (apply Ne.symm; assumption) | (simp; done)) (lk1 (by first | assumption | (apply Ne.symm; assumption) | (simp; done)) (by assumption)))) | exact lk1 (by first | assumption | (apply Ne.symm; assumption) | (simp; done)) (lk1 (by first | assumption | (apply Ne.symm; assumption) | (simp; done)) (lk1 (by first | assumption | (apply Ne.symm; assumption) | (simp; done)) (lk1 (by first | assumption | (apply Ne.symm; assumption) | (simp; done)) (va_up_self _ _ _))))) (by first | rfl | assumption) ?_
      refine pw_iload (pc := 74) dX8_house_74 rfl ?_
      refine pw_iald (pc := 76) (58 + j) dX8_house_76 (by first | assumption | exact va_up_self _ _ _ | exact lk1 (by first | assumption | (apply Ne.symm; assumption) | (simp; done)) (by assumption) | exact lk1 (by first | assumption | (apply Ne.symm; assumption) | (simp; done)) (va_up_self _ _ _) | exact lk1 (by first | assumption | (apply Ne.symm; assumption) | (simp; done)) (lk1 (by first | assumption | (apply Ne.symm; assumption) | (simp; done)) (by assumption)) | exact lk1 (by first | assumption | (apply Ne.symm; assumption) | (simp; done)) (lk1 (by first | assumption | (apply Ne.symm; assumption) | (simp; done)) (va_up_self _ _ _)) | exact lk1 (by first | assumption | (apply Ne.symm; assumption) | (simp; done)) (lk1 (by first | assumption | (apply Ne.symm; assumption) | (simp; done)) (lk1 (by first | assumption | (apply Ne.symm; assumption) | (simp; done)) (by assumption))) | exact lk1 (by first | assumption | (apply Ne.symm; assumption) | (simp; done)) (lk1 (by first | assumption | (apply Ne.symm; assumption) | (simp; done)) (lk1 (by first | assumption | (apply Ne.symm; assumption) | (simp; done)) (va_up_self _ _ _))) | exact lk1 (by first | assumption | (apply Ne.symm; assumption) | (simp; done)) (lk1 (by first | assumption | (apply Ne.symm; assumption) | (simp; done)) (lk1 (by first | assumption | (apply Ne.symm; assumption) | (simp; done)) (lk1 (by first | assumption | (apply Ne.symm; assumption) | (simp; done)) (by assumption)))) | exact lk1 (by first | assumption | (apply Ne.symm; assumption) | (simp; done)) (lk1 (by first | assumption | (apply Ne.symm; assumption) | (simp; done)) (lk1 (by first | assumption | (apply Ne.symm; assumption) | (simp; done)) (lk1 (by first | assumption | (apply Ne.symm; assumption) | (simp; done)) (va_up_self _ _ _))))) (by first | assumption | rfl | (simp only [nI_add, pk_mul, Nat.one_mul, Nat.mul_one, Nat.zero_add, Nat.add_zero, Nat.mul_zero]; done) | exact pk_sub (by omega) | (rw [pk_sub (by omega)]; first | done | (rw [nI_add]; done) | (rw [pk_sub (by omega)]; done) | (rw [pk_sub (by omega), nI_add]; done)) | (simp only [nI_add, pk_mul]; first | exact pk_sub (by omega) | (congr 1; omega)) | (congr 1; omega)) (by omega) (by omega) ?_
      refine pw_ist5 (pc := 77) dX8_house_77 (Nat.le_of_ble_eq_true rfl) rfl ?_
      refine pw_aload_n (pc := 79) dX8_house_79 rfl ?_
      refine pw_get (pc := 80) fg_X8_7 dX8_house_80 (by first | assumption | exact va_up_self _ _ _ | exact lk1 (by first | assumption | (apply Ne.symm; assumption) | (simp; done)) (by assumption) | exact lk1 (by first | assumption | (apply Ne.symm; assumption) | (simp; done)) (va_up_self _ _ _) | exact lk1 (by first | assumption | (apply Ne.symm; assumption) | (simp; done)) (lk1 (by first | assumption | (apply Ne.symm; assumption) | (simp; done)) (by assumption)) | exact lk1 (by first | assumption | (apply Ne.symm; assumption) | (simp; done)) (lk1 (by first | assumption | (apply Ne.symm; assumption) | (simp; done)) (va_up_self _ _ _)) | exact lk1 (by first | assumption | (apply Ne.symm; assumption) | (simp; done)) (lk1 (by first | assumption | (apply Ne.symm; assumption) | (simp; done)) (lk1 (by first | assumption | (apply Ne.symm; assumption) | (simp; done)) (by assumption))) | exact lk1 (by first | assumption | (apply Ne.symm; assumption) | (simp; done)) (lk1 (by first | assumption | (apply Ne.symm; assumption) | (simp; done)) (lk1 (by first | assumption | (apply Ne.symm; assumption) | (simp; done)) (va_up_self _ _ _))) | exact lk1 (by first | assumption | (apply Ne.symm; assumption) | (simp; done)) (lk1 (by first | assumption | (apply Ne.symm; assumption) | (simp; done)) (lk1 (by first | assumption | (apply Ne.symm; assumption) | (simp; done)) (lk1 (by first | assumption | (apply Ne.symm; assumption) | (simp; done)) (by assumption)))) | exact lk1 (by first | assumption | (apply Ne.symm; assumption) | (simp; done)) (lk1 (by first | assumption | (apply Ne.symm; assumption) | (simp; done)) (lk1 (by first | assumption | (apply Ne.symm; assumption) | (simp; done)) (lk1 (by first | assumption | (apply Ne.symm; assumption) | (simp; done)) (va_up_self _ _ _))))) (by first | rfl | assumption) ?_
      refine pw_iload (pc := 83) dX8_house_83 rfl ?_
      refine pw_iload_n (pc := 85) dX8_house_85 rfl ?_
      refine pw_iast (pc := 86) (58 + j) dX8_house_86 (by first | assumption | exact va_up_self _ _ _ | exact lk1 (by first | assumption | (apply Ne.symm; assumption) | (simp; done)) (by assumption) | exact lk1 (by first | assumption | (apply Ne.symm; assumption) | (simp; done)) (va_up_self _ _ _) | exact lk1 (by first | assumption | (apply Ne.symm; assumption) | (simp; done)) (lk1 (by first | assumption | (apply Ne.symm; assumption) | (simp; done)) (by assumption)) | exact lk1 (by first | assumption | (apply Ne.symm; assumption) | (simp; done)) (lk1 (by first | assumption | (apply Ne.symm; assumption) | (simp; done)) (va_up_self _ _ _)) | exact lk1 (by first | assumption | (apply Ne.symm; assumption) | (simp; done)) (lk1 (by first | assumption | (apply Ne.symm; assumption) | (simp; done)) (lk1 (by first | assumption | (apply Ne.symm; assumption) | (simp; done)) (by assumption))) | exact lk1 (by first | assumption | (apply Ne.symm; assumption) | (simp; done)) (lk1 (by first | assumption | (apply Ne.symm; assumption) | (simp; done)) (lk1 (by first | assumption | (apply Ne.symm; assumption) | (simp; done)) (va_up_self _ _ _))) | exact lk1 (by first | assumption | (apply Ne.symm; assumption) | (simp; done)) (lk1 (by first | assumption | (apply Ne.symm; assumption) | (simp; done)) (lk1 (by first | assumption | (apply Ne.symm; assumption) | (simp; done)) (lk1 (by first | assumption | (apply Ne.symm; assumption) | (simp; done)) (by assumption)))) | exact lk1 (by first | assumption | (apply Ne.symm; assumption) | (simp; done)) (lk1 (by first | assumption | (apply Ne.symm; assumption) | (simp; done)) (lk1 (by first | assumption | (apply Ne.symm; assumption) | (simp; done)) (lk1 (by first | assumption | (apply Ne.symm; assumption) | (simp; done)) (va_up_self _ _ _))))) (by first | assumption | rfl | (simp only [nI_add, pk_mul, Nat.one_mul, Nat.mul_one, Nat.zero_add, Nat.add_zero, Nat.mul_zero]; done) | exact pk_sub (by omega) | (rw [pk_sub (by omega)]; first | done | (rw [nI_add]; done) | (rw [pk_sub (by omega)]; done) | (rw [pk_sub (by omega), nI_add]; done)) | (simp only [nI_add, pk_mul]; first | exact pk_sub (by omega) | (congr 1; omega)) | (congr 1; omega)) (by omega) (by omega) ?_
      refine pw_iload (pc := 87) dX8_house_87 rfl ?_
      rw [← ex]
      refine pw_iret dX8_house_89 rfl ⟨?_, ?_, on_m.up (by omega) (by omega)⟩
      · rw [a_house, if_pos h1, if_neg (fun q => z q.1), if_pos h3, ej, k1.z.2.2.2.1 j (by omega)]
      · rw [n_house, if_pos h1, if_neg (fun q => z q.1), if_pos h3, ej]
        exact ⟨⟨_, _, _, _, _, _, _, _, lk1 (by omega) (va_up_self _ _ _)⟩, (ma.on up_m).setS (eqOn.up eqOn.rfl (by omega)) (va_up_self _ _ _) (k1.cl hlen j (by omega) v)⟩
    · have h3 := h2.resolve_right (fun q => by rw [z] at q; exact absurd q.1 (by decide))
      refine pw_bipush (pc := 59) (nI 52) dX8_house_59 (by decide) ?_
      refine pw_goto (pc := 61) 66 dX8_house_61 (by decide) ?_
      refine pw_iload_n (pc := 66) dX8_house_66 rfl ?_
      refine pw_iadd (pc := 67) dX8_house_67 ?_
      refine pw_ist4 (pc := 68) dX8_house_68 (Nat.le_of_ble_eq_true rfl) rfl ?_
      refine pw_aload_n (pc := 70) dX8_house_70 rfl ?_
      refine pw_get (pc := 71) fg_X8_7 dX8_house_71 (by first | assumption | exact va_up_self _ _ _ | exact lk1 (by first | assumption | (apply Ne.symm; assumption) | (simp; done)) (by assumption) | exact lk1 (by first | assumption | (apply Ne.symm; assumption) | (simp; done)) (va_up_self _ _ _) | exact lk1 (by first | assumption | (apply Ne.symm; assumption) | (simp; done)) (lk1 (by first | assumption | (apply Ne.symm; assumption) | (simp; done)) (by assumption)) | exact lk1 (by first | assumption | (apply Ne.symm; assumption) | (simp; done)) (lk1 (by first | assumption | (apply Ne.symm; assumption) | (simp; done)) (va_up_self _ _ _)) | exact lk1 (by first | assumption | (apply Ne.symm; assumption) | (simp; done)) (lk1 (by first | assumption | (apply Ne.symm; assumption) | (simp; done)) (lk1 (by first | assumption | (apply Ne.symm; assumption) | (simp; done)) (by assumption))) | exact lk1 (by first | assumption | (apply Ne.symm; assumption) | (simp; done)) (lk1 (by first | assumption | (apply Ne.symm; assumption) | (simp; done)) (lk1 (by first | assumption | (apply Ne.symm; assumption) | (simp; done)) (va_up_self _ _ _))) | exact lk1 (by first | assumption | (apply Ne.symm; assumption) | (simp; done)) (lk1 (by first | assumption | (apply Ne.symm; assumption) | (simp; done)) (lk1 (by first | assumption | (apply Ne.symm; assumption) | (simp; done)) (lk1 (by first | assumption | (apply Ne.symm; assumption) | (simp; done)) (by assumption)))) | exact lk1 (by first | assumption | (apply Ne.symm; assumption) | (simp; done)) (lk1 (by first | assumption | (apply Ne.symm; assumption) | (simp; done)) (lk1 (by first | assumption | (apply Ne.symm; assumption) | (simp; done)) (lk1 (by first | assumption | (apply Ne.symm; assumption) | (simp; done)) (va_up_self _ _ _))))) (by first | rfl | assumption) ?_
      refine pw_iload (pc := 74) dX8_house_74 rfl ?_
      refine pw_iald (pc := 76) (52 + j) dX8_house_76 (by first | assumption | exact va_up_self _ _ _ | exact lk1 (by first | assumption | (apply Ne.symm; assumption) | (simp; done)) (by assumption) | exact lk1 (by first | assumption | (apply Ne.symm; assumption) | (simp; done)) (va_up_self _ _ _) | exact lk1 (by first | assumption | (apply Ne.symm; assumption) | (simp; done)) (lk1 (by first | assumption | (apply Ne.symm; assumption) | (simp; done)) (by assumption)) | exact lk1 (by first | assumption | (apply Ne.symm; assumption) | (simp; done)) (lk1 (by first | assumption | (apply Ne.symm; assumption) | (simp; done)) (va_up_self _ _ _)) | exact lk1 (by first | assumption | (apply Ne.symm; assumption) | (simp; done)) (lk1 (by first | assumption | (apply Ne.symm; assumption) | (simp; done)) (lk1 (by first | assumption | (apply Ne.symm; assumption) | (simp; done)) (by assumption))) | exact lk1 (by first | assumption | (apply Ne.symm; assumption) | (simp; done)) (lk1 (by first | assumption | (apply Ne.symm; assumption) | (simp; done)) (lk1 (by first | assumption | (apply Ne.symm; assumption) | (simp; done)) (va_up_self _ _ _))) | exact lk1 (by first | assumption | (apply Ne.symm; assumption) | (simp; done)) (lk1 (by first | assumption | (apply Ne.symm; assumption) | (simp; done)) (lk1 (by first | assumption | (apply Ne.symm; assumption) | (simp; done)) (lk1 (by first | assumption | (apply Ne.symm; assumption) | (simp; done)) (by assumption)))) | exact lk1 (by first | assumption | (apply Ne.symm; assumption) | (simp; done)) (lk1 (by first | assumption | (apply Ne.symm; assumption) | (simp; done)) (lk1 (by first | assumption | (apply Ne.symm; assumption) | (simp; done)) (lk1 (by first | assumption | (apply Ne.symm; assumption) | (simp; done)) (va_up_self _ _ _))))) (by first | assumption | rfl | (simp only [nI_add, pk_mul, Nat.one_mul, Nat.mul_one, Nat.zero_add, Nat.add_zero, Nat.mul_zero]; done) | exact pk_sub (by omega) | (rw [pk_sub (by omega)]; first | done | (rw [nI_add]; done) | (rw [pk_sub (by omega)]; done) | (rw [pk_sub (by omega), nI_add]; done)) | (simp only [nI_add, pk_mul]; first | exact pk_sub (by omega) | (congr 1; omega)) | (congr 1; omega)) (by omega) (by omega) ?_
      refine pw_ist5 (pc := 77) dX8_house_77 (Nat.le_of_ble_eq_true rfl) rfl ?_
      refine pw_aload_n (pc := 79) dX8_house_79 rfl ?_
      refine pw_get (pc := 80) fg_X8_7 dX8_house_80 (by first | assumption | exact va_up_self _ _ _ | exact lk1 (by first | assumption | (apply Ne.symm; assumption) | (simp; done)) (by assumption) | exact lk1 (by first | assumption | (apply Ne.symm; assumption) | (simp; done)) (va_up_self _ _ _) | exact lk1 (by first | assumption | (apply Ne.symm; assumption) | (simp; done)) (lk1 (by first | assumption | (apply Ne.symm; assumption) | (simp; done)) (by assumption)) | exact lk1 (by first | assumption | (apply Ne.symm; assumption) | (simp; done)) (lk1 (by first | assumption | (apply Ne.symm; assumption) | (simp; done)) (va_up_self _ _ _)) | exact lk1 (by first | assumption | (apply Ne.symm; assumption) | (simp; done)) (lk1 (by first | assumption | (apply Ne.symm; assumption) | (simp; done)) (lk1 (by first | assumption | (apply Ne.symm; assumption) | (simp; done)) (by assumption))) | exact lk1 (by first | assumption | (apply Ne.symm; assumption) | (simp; done)) (lk1 (by first | assumption | (apply Ne.symm; assumption) | (simp; done)) (lk1 (by first | assumption | (apply Ne.symm; assumption) | (simp; done)) (va_up_self _ _ _))) | exact lk1 (by first | assumption | (apply Ne.symm; assumption) | (simp; done)) (lk1 (by first | assumption | (apply Ne.symm; assumption) | (simp; done)) (lk1 (by first | assumption | (apply Ne.symm; assumption) | (simp; done)) (lk1 (by first | assumption | (apply Ne.symm; assumption) | (simp; done)) (by assumption)))) | exact lk1 (by first | assumption | (apply Ne.symm; assumption) | (simp; done)) (lk1 (by first | assumption | (apply Ne.symm; assumption) | (simp; done)) (lk1 (by first | assumption | (apply Ne.symm; assumption) | (simp; done)) (lk1 (by first | assumption | (apply Ne.symm; assumption) | (simp; done)) (va_up_self _ _ _))))) (by first | rfl | assumption) ?_
      refine pw_iload (pc := 83) dX8_house_83 rfl ?_
      refine pw_iload_n (pc := 85) dX8_house_85 rfl ?_
      refine pw_iast (pc := 86) (52 + j) dX8_house_86 (by first | assumption | exact va_up_self _ _ _ | exact lk1 (by first | assumption | (apply Ne.symm; assumption) | (simp; done)) (by assumption) | exact lk1 (by first | assumption | (apply Ne.symm; assumption) | (simp; done)) (va_up_self _ _ _) | exact lk1 (by first | assumption | (apply Ne.symm; assumption) | (simp; done)) (lk1 (by first | assumption | (apply Ne.symm; assumption) | (simp; done)) (by assumption)) | exact lk1 (by first | assumption | (apply Ne.symm; assumption) | (simp; done)) (lk1 (by first | assumption | (apply Ne.symm; assumption) | (simp; done)) (va_up_self _ _ _)) | exact lk1 (by first | assumption | (apply Ne.symm; assumption) | (simp; done)) (lk1 (by first | assumption | (apply Ne.symm; assumption) | (simp; done)) (lk1 (by first | assumption | (apply Ne.symm; assumption) | (simp; done)) (by assumption))) | exact lk1 (by first | assumption | (apply Ne.symm; assumption) | (simp; done)) (lk1 (by first | assumption | (apply Ne.symm; assumption) | (simp; done)) (lk1 (by first | assumption | (apply Ne.symm; assumption) | (simp; done)) (va_up_self _ _ _))) | exact lk1 (by first | assumption | (apply Ne.symm; assumption) | (simp; done)) (lk1 (by first | assumption | (apply Ne.symm; assumption) | (simp; done)) (lk1 (by first | assumption | (apply Ne.symm; assumption) | (simp; done)) (lk1 (by first | assumption | (apply Ne.symm; assumption) | (simp; done)) (by assumption)))) | exact lk1 (by first | assumption | (apply Ne.symm; assumption) | (simp; done)) (lk1 (by first | assumption | (apply Ne.symm; assumption) | (simp; done)) (lk1 (by first | assumption | (apply Ne.symm; assumption) | (simp; done)) (lk1 (by first | assumption | (apply Ne.symm; assumption) | (simp; done)) (va_up_self _ _ _))))) (by first | assumption | rfl | (simp only [nI_add, pk_mul, Nat.one_mul, Nat.mul_one, Nat.zero_add, Nat.add_zero, Nat.mul_zero]; done) | exact pk_sub (by omega) | (rw [pk_sub (by omega)]; first | done | (rw [nI_add]; done) | (rw [pk_sub (by omega)]; done) | (rw [pk_sub (by omega), nI_add]; done)) | (simp only [nI_add, pk_mul]; first | exact pk_sub (by omega) | (congr 1; omega)) | (congr 1; omega)) (by omega) (by omega) ?_
      refine pw_iload (pc := 87) dX8_house_87 rfl ?_
      rw [← ex]
      refine pw_iret dX8_house_89 rfl ⟨?_, ?_, on_m.up (by omega) (by omega)⟩
      · rw [a_house, if_pos h1, if_pos h3, ej, k1.z.2.2.1 j (by omega)]
      · rw [n_house, if_pos h1, if_pos h3, ej]
        exact ⟨⟨_, _, _, _, _, _, _, _, lk1 (by omega) (va_up_self _ _ _)⟩, (ma.on up_m).setS (eqOn.up eqOn.rfl (by omega)) (va_up_self _ _ _) (k1.st hlen j (by omega) v)⟩
  have e1 : (1 : Int32).toInt = 1 := by decide
  refine PM.of [.ref m, .int x, .int w, .int v, .null, .null] rfl (Nat.le_of_ble_eq_true rfl) rfl ?_
  refine pw_aload_n (pc := 0) dX8_house_0 rfl ?_
  refine pw_iconst (pc := 1) (nI 0) dX8_house_1 (by decide) ?_
  refine pw_put0 (pc := 2) fp_X8_61 dX8_house_2 (by first | assumption | exact va_up_self _ _ _ | exact lk1 (by first | assumption | (apply Ne.symm; assumption) | (simp; done)) (by assumption) | exact lk1 (by first | assumption | (apply Ne.symm; assumption) | (simp; done)) (va_up_self _ _ _) | exact lk1 (by first | assumption | (apply Ne.symm; assumption) | (simp; done)) (lk1 (by first | assumption | (apply Ne.symm; assumption) | (simp; done)) (by assumption)) | exact lk1 (by first | assumption | (apply Ne.symm; assumption) | (simp; done)) (lk1 (by first | assumption | (apply Ne.symm; assumption) | (simp; done)) (va_up_self _ _ _)) | exact lk1 (by first | assumption | (apply Ne.symm; assumption) | (simp; done)) (lk1 (by first | assumption | (apply Ne.symm; assumption) | (simp; done)) (lk1 (by first | assumption | (apply Ne.symm; assumption) | (simp; done)) (by assumption))) | exact lk1 (by first | assumption | (apply Ne.symm; assumption) | (simp; done)) (lk1 (by first | assumption | (apply Ne.symm; assumption) | (simp; done)) (lk1 (by first | assumption | (apply Ne.symm; assumption) | (simp; done)) (va_up_self _ _ _))) | exact lk1 (by first | assumption | (apply Ne.symm; assumption) | (simp; done)) (lk1 (by first | assumption | (apply Ne.symm; assumption) | (simp; done)) (lk1 (by first | assumption | (apply Ne.symm; assumption) | (simp; done)) (lk1 (by first | assumption | (apply Ne.symm; assumption) | (simp; done)) (by assumption)))) | exact lk1 (by first | assumption | (apply Ne.symm; assumption) | (simp; done)) (lk1 (by first | assumption | (apply Ne.symm; assumption) | (simp; done)) (lk1 (by first | assumption | (apply Ne.symm; assumption) | (simp; done)) (lk1 (by first | assumption | (apply Ne.symm; assumption) | (simp; done)) (va_up_self _ _ _))))) rfl rfl ?_
  refine pw_iload_n (pc := 5) dX8_house_5 rfl ?_
  refine pw_iconst (pc := 6) (nI 0) dX8_house_6 (by decide) ?_
  refine pw_iconst (pc := 7) (nI 5) dX8_house_7 (by decide) ?_
  refine pw_callS_i (pc := 8) cs_X8_64 dX8_house_8 (c_in x (nI 0) (nI 5)) rfl rfl (Nat.le_of_ble_eq_true rfl) ⟨(Nat.le_of_ble_eq_true rfl), (Nat.le_of_ble_eq_true rfl)⟩ ?_
  refine pw_if_eq_b (pc := 11) 53 dX8_house_11 (by decide) (fun z => ?_) (fun z => ?_)
  · exact bad (fun q => by rw [show rg 0 5 x = false from z] at q; cases q.1)
  refine pw_iload_n (pc := 14) dX8_house_14 rfl ?_
  refine pw_iconst (pc := 15) (nI 0) dX8_house_15 (by decide) ?_
  refine pw_iconst (pc := 16) (nI 1) dX8_house_16 (by decide) ?_
  refine pw_callS_i (pc := 17) cs_X8_64 dX8_house_17 (c_in w (nI 0) (nI 1)) rfl rfl (Nat.le_of_ble_eq_true rfl) ⟨(Nat.le_of_ble_eq_true rfl), (Nat.le_of_ble_eq_true rfl)⟩ ?_
  refine pw_if_eq_b (pc := 20) 53 dX8_house_20 (by decide) (fun z1 => ?_) (fun z1 => ?_)
  · have z1' := rg_f (show rg 0 1 w = false from z1)
    refine bad (fun q => ?_)
    rcases q.2 with q2 | q2
    · rw [q2.1, i32_0] at z1'; omega
    · rw [q2.1, e1] at z1'; omega
  have z1' := rg_t (show rg 0 1 w = true from z1)
  refine pw_iload_n (pc := 23) dX8_house_23 rfl ?_
  refine pw_if_ne (pc := 24) 40 dX8_house_24 (by decide) (fun z2 => ?_) (fun z2 => ?_)
  · have hw1 : w = 1 := by
      have : w.toInt ≠ 0 := fun q => z2 (by rw [i32_eq, i32_0]; exact q)
      rw [i32_eq, e1]; omega
    refine pw_iload_n (pc := 40) dX8_house_40 rfl ?_
    refine pw_bipush (pc := 41) (-9) dX8_house_41 (by decide) ?_
    refine pw_icmp_eq (pc := 43) 55 dX8_house_43 (by decide) (fun z3 => ?_) (fun z3 => ?_)
    · exact good z (Or.inr ⟨hw1, by simp [z3]⟩)
    · refine pw_iload_n (pc := 46) dX8_house_46 rfl ?_
      refine pw_callS_i (pc := 47) cs_X8_128 dX8_house_47 (c_misName v) rfl rfl (Nat.le_of_ble_eq_true rfl) ⟨(Nat.le_of_ble_eq_true rfl), (Nat.le_of_ble_eq_true rfl)⟩ ?_
      refine pw_if_ne_b (pc := 50) 55 dX8_house_50 (by decide) (fun z4 => ?_) (fun z4 => ?_)
      · exact good z (Or.inr ⟨hw1, by simp [z4]⟩)
      · exact bad (fun q => by
          rcases q.2 with q2 | q2
          · exact z2 q2.1
          · rw [z4] at q2; simp [z3] at q2)
  · refine pw_iload_n (pc := 27) dX8_house_27 rfl ?_
    refine pw_iconst (pc := 28) (nI 0) dX8_house_28 (by decide) ?_
    refine pw_bipush (pc := 29) (nI 99) dX8_house_29 (by decide) ?_
    refine pw_callS_i (pc := 31) cs_X8_64 dX8_house_31 (c_in v (nI 0) (nI 99)) rfl rfl (Nat.le_of_ble_eq_true rfl) ⟨(Nat.le_of_ble_eq_true rfl), (Nat.le_of_ble_eq_true rfl)⟩ ?_
    refine pw_if_ne_b (pc := 34) 55 dX8_house_34 (by decide) (fun z3 => ?_) (fun z3 => ?_)
    · exact good z (Or.inl ⟨z2, z3⟩)
    · refine pw_goto (pc := 37) 53 dX8_house_37 (by decide) ?_
      exact bad (fun q => by
        rcases q.2 with q2 | q2
        · rw [show rg 0 99 v = false from z3] at q2; cases q2.2
        · rw [z2] at q2; exact absurd q2.1 (by decide))
end M3
