/-! the class reads a law -/
theorem fn_9 : Cond.fieldLinkNest RX1 9 RX7 "AT_FIRST" "[I" "FatherLists" ∈ nst := tn 49 (by decide +kernel) rfl
theorem fn_56 : Cond.fieldLinkNest RX1 56 RX7 "LEAST" "[I" "FatherLists" ∈ nst := tn 339 (by decide +kernel) rfl
theorem fn_59 : Cond.fieldLinkNest RX1 59 RX7 "MOST" "[I" "FatherLists" ∈ nst := tn 341 (by decide +kernel) rfl
section CL
variable {E : EV} {h : HP} {n a b sz : Nat} {g : Nat → Int32}
theorem c_isWordAt (hr : txtAt h a b g sz) (p i : Nat) (hp : p ≤ sz) (hi : i < 5) : PM E mX6_isWordAt [.ref a, .int (nI p), .ref (eX E (10 + i))] h n n 0 (QE (some (.int (bI (wB g sz p i)))) h) := by
  obtain ⟨h1, h2, h3⟩ := id hr
  have hl := kLe_lt hi
  have lle : p ≤ alL g sz p ∧ alL g sz p ≤ p + (sz - p) := aft_le (rg 97 122) g (sz - p) p
  have no : ¬ (alL g sz p - p = kLe i ∧ ∀ k, k < kLe i → byA g sz (p + k) = kBy i k) → wB g sz p i = false := fun q => decide_eq_false q
  have loop : ∀ r k, k + r = kLe i → alL g sz p - p = kLe i → (∀ j, j < k → byA g sz (p + j) = kBy i j) → PW (KX E mX6_isWordAt n (QE (some (.int (bI (wB g sz p i)))) h)) 18 [.ref a, .int (nI p), .ref (eX E (10 + i)), .int (nI k)] [] h n 0 := by
    intro r
    induction r with
    | zero =>
      intro k hk he hb
      refine pw_iload_n (pc := 18) dX6_isWordAt_18 rfl ?_
      refine pw_aload_n (pc := 19) dX6_isWordAt_19 rfl ?_
      refine pw_callT (pc := 20) hi cv_X6_36 dX6_isWordAt_20 rfl (c_length i hi) rfl rfl (Nat.le_of_ble_eq_true rfl) ⟨(Nat.le_of_ble_eq_true rfl), (Nat.le_of_ble_eq_true rfl)⟩ (Nat.le_refl _) (Nat.le_refl _) (Nat.zero_le _) (fun v h' q => ?_)
      obtain ⟨rfl, rfl⟩ := q
      refine pw_icmp_ge_n (pc := 23) 49 dX6_isWordAt_23 (by decide) (by omega) (by omega) (fun _ => ?_) (fun z => by omega)
      refine pw_iconst (pc := 49) (nI 1) dX6_isWordAt_49 (by decide) ?_
      have hy : wB g sz p i = true := decide_eq_true ⟨he, fun j hj => hb j (by omega)⟩
      exact pw_zret dX6_isWordAt_50 rfl (by decide) ⟨bI_e hy (by decide), rfl⟩
    | succ r ih =>
      intro k hk he hb
      have hkl : k < kLe i := by omega
      refine pw_iload_n (pc := 18) dX6_isWordAt_18 rfl ?_
      refine pw_aload_n (pc := 19) dX6_isWordAt_19 rfl ?_
      refine pw_callT (pc := 20) hi cv_X6_36 dX6_isWordAt_20 rfl (c_length i hi) rfl rfl (Nat.le_of_ble_eq_true rfl) ⟨(Nat.le_of_ble_eq_true rfl), (Nat.le_of_ble_eq_true rfl)⟩ (Nat.le_refl _) (Nat.le_refl _) (Nat.zero_le _) (fun v h' q => ?_)
      obtain ⟨rfl, rfl⟩ := q
      refine pw_icmp_ge_n (pc := 23) 49 dX6_isWordAt_23 (by decide) (by omega) (by omega) (fun z => by omega) (fun _ => ?_)
      refine pw_aload_n (pc := 26) dX6_isWordAt_26 rfl ?_
      refine pw_iload_n (pc := 27) dX6_isWordAt_27 rfl ?_
      refine pw_iload_n (pc := 28) dX6_isWordAt_28 rfl ?_
      refine pw_iadd (pc := 29) dX6_isWordAt_29 ?_
      rw [nI_add]
      refine pw_callV_i (pc := 30) cv_X6_19 dX6_isWordAt_30 (by first | assumption | exact va_up_self _ _ _ | exact lk1 (by first | assumption | (apply Ne.symm; assumption) | (simp; done)) (by assumption) | exact lk1 (by first | assumption | (apply Ne.symm; assumption) | (simp; done)) (va_up_self _ _ _) | exact lk1 (by first | assumption | (apply Ne.symm; assumption) | (simp; done)) (lk1 (by first | assumption | (apply Ne.symm; assumption) | (simp; done)) (by assumption)) | exact lk1 (by first | assumption | (apply Ne.symm; assumption) | (simp; done)) (lk1 (by first | assumption | (apply Ne.symm; assumption) | (simp; done)) (va_up_self _ _ _)) | exact lk1 (by first | assumption | (apply Ne.symm; assumption) | (simp; done)) (lk1 (by first | assumption | (apply Ne.symm; assumption) | (simp; done)) (lk1 (by first | assumption | (apply Ne.symm; assumption) | (simp; done)) (by assumption))) | exact lk1 (by first | assumption | (apply Ne.symm; assumption) | (simp; done)) (lk1 (by first | assumption | (apply Ne.symm; assumption) | (simp; done)) (lk1 (by first | assumption | (apply Ne.symm; assumption) | (simp; done)) (va_up_self _ _ _))) | exact lk1 (by first | assumption | (apply Ne.symm; assumption) | (simp; done)) (lk1 (by first | assumption | (apply Ne.symm; assumption) | (simp; done)) (lk1 (by first | assumption | (apply Ne.symm; assumption) | (simp; done)) (lk1 (by first | assumption | (apply Ne.symm; assumption) | (simp; done)) (by assumption)))) | exact lk1 (by first | assumption | (apply Ne.symm; assumption) | (simp; done)) (lk1 (by first | assumption | (apply Ne.symm; assumption) | (simp; done)) (lk1 (by first | assumption | (apply Ne.symm; assumption) | (simp; done)) (lk1 (by first | assumption | (apply Ne.symm; assumption) | (simp; done)) (va_up_self _ _ _))))) rfl (c_byteAt hr (p + k) (by omega)) rfl rfl (Nat.le_of_ble_eq_true rfl) ⟨(Nat.le_of_ble_eq_true rfl), (Nat.le_of_ble_eq_true rfl)⟩ ?_
      refine pw_aload_n (pc := 33) dX6_isWordAt_33 rfl ?_
      refine pw_iload_n (pc := 34) dX6_isWordAt_34 rfl ?_
      refine pw_callT (pc := 35) (As := [.int (nI k)]) hi cv_X6_42 dX6_isWordAt_35 rfl (c_charAt i k hi hkl) rfl rfl (Nat.le_of_ble_eq_true rfl) ⟨(Nat.le_of_ble_eq_true rfl), (Nat.le_of_ble_eq_true rfl)⟩ (Nat.le_refl _) (Nat.le_refl _) (Nat.zero_le _) (fun v h' q => ?_)
      obtain ⟨rfl, rfl⟩ := q
      refine pw_icmp_eq (pc := 38) 43 dX6_isWordAt_38 (by decide) (fun z => ?_) (fun z => ?_)
      · refine pw_iinc3 (pc := 43) (nI (k + 1)) dX6_isWordAt_43 (Nat.le_of_ble_eq_true rfl) rfl (ni_inc _) ?_
        refine pw_goto (pc := 46) 18 dX6_isWordAt_46 (by decide) ?_
        refine ih (k + 1) (by omega) he (fun j hj => ?_)
        by_cases e : j = k
        · subst e; exact z
        · exact hb j (by omega)
      · refine pw_iconst (pc := 41) (nI 0) dX6_isWordAt_41 (by decide) ?_
        exact pw_zret dX6_isWordAt_42 rfl (by decide) ⟨bI_e0 (no (fun q => z (q.2 k hkl))) (by decide), rfl⟩
  refine PM.of [.ref a, .int (nI p), .ref (eX E (10 + i)), .null] rfl (Nat.le_of_ble_eq_true rfl) rfl ?_
  refine pw_aload_n (pc := 0) dX6_isWordAt_0 rfl ?_
  refine pw_iload_n (pc := 1) dX6_isWordAt_1 rfl ?_
  refine pw_callV_i (pc := 2) cv_X6_33 dX6_isWordAt_2 (by first | assumption | exact va_up_self _ _ _ | exact lk1 (by first | assumption | (apply Ne.symm; assumption) | (simp; done)) (by assumption) | exact lk1 (by first | assumption | (apply Ne.symm; assumption) | (simp; done)) (va_up_self _ _ _) | exact lk1 (by first | assumption | (apply Ne.symm; assumption) | (simp; done)) (lk1 (by first | assumption | (apply Ne.symm; assumption) | (simp; done)) (by assumption)) | exact lk1 (by first | assumption | (apply Ne.symm; assumption) | (simp; done)) (lk1 (by first | assumption | (apply Ne.symm; assumption) | (simp; done)) (va_up_self _ _ _)) | exact lk1 (by first | assumption | (apply Ne.symm; assumption) | (simp; done)) (lk1 (by first | assumption | (apply Ne.symm; assumption) | (simp; done)) (lk1 (by first | assumption | (apply Ne.symm; assumption) | (simp; done)) (by assumption))) | exact lk1 (by first | assumption | (apply Ne.symm; assumption) | (simp; done)) (lk1 (by first | assumption | (apply Ne.symm; assumption) | (simp; done)) (lk1 (by first | assumption | (apply Ne.symm; assumption) | (simp; done)) (va_up_self _ _ _))) | exact lk1 (by first | assumption | (apply Ne.symm; assumption) | (simp; done)) (lk1 (by first | assumption | (apply Ne.symm; assumption) | (simp; done)) (lk1 (by first | assumption | (apply Ne.symm; assumption) | (simp; done)) (lk1 (by first | assumption | (apply Ne.symm; assumption) | (simp; done)) (by assumption)))) | exact lk1 (by first | assumption | (apply Ne.symm; assumption) | (simp; done)) (lk1 (by first | assumption | (apply Ne.symm; assumption) | (simp; done)) (lk1 (by first | assumption | (apply Ne.symm; assumption) | (simp; done)) (lk1 (by first | assumption | (apply Ne.symm; assumption) | (simp; done)) (va_up_self _ _ _))))) rfl (c_afterLetters hr p hp) rfl rfl (Nat.le_of_ble_eq_true rfl) ⟨(Nat.le_of_ble_eq_true rfl), (Nat.le_of_ble_eq_true rfl)⟩ ?_
  refine pw_iload_n (pc := 5) dX6_isWordAt_5 rfl ?_
  refine pw_isub (pc := 6) dX6_isWordAt_6 ?_
  rw [pk_sub lle.1]
  refine pw_aload_n (pc := 7) dX6_isWordAt_7 rfl ?_
  refine pw_callT (pc := 8) hi cv_X6_36 dX6_isWordAt_8 rfl (c_length i hi) rfl rfl (Nat.le_of_ble_eq_true rfl) ⟨(Nat.le_of_ble_eq_true rfl), (Nat.le_of_ble_eq_true rfl)⟩ (Nat.le_refl _) (Nat.le_refl _) (Nat.zero_le _) (fun v h' q => ?_)
  obtain ⟨rfl, rfl⟩ := q
  refine pw_icmp_eq_n (pc := 11) 16 dX6_isWordAt_11 (by decide) (show alL g sz p - p < 2147483648 by omega) (by omega) (fun z => ?_) (fun z => ?_)
  · refine pw_iconst (pc := 16) (nI 0) dX6_isWordAt_16 (by decide) ?_
    refine pw_ist3 (pc := 17) dX6_isWordAt_17 (Nat.le_of_ble_eq_true rfl) rfl ?_
    exact loop (kLe i) 0 (by omega) z (fun j hj => absurd hj (Nat.not_lt_zero j))
  · refine pw_iconst (pc := 14) (nI 0) dX6_isWordAt_14 (by decide) ?_
    exact pw_zret dX6_isWordAt_15 rfl (by decide) ⟨bI_e0 (no (fun q => z q.1)) (by decide), rfl⟩
theorem c_itemAt (hr : txtAt h a b g sz) (p : Nat) (hp : p ≤ sz) : PM E mX1_itemAt [.ref a, .int (nI p)] h n n 0 (QE (some (.int (itI g sz p))) h) := by
  obtain ⟨h1, h2, h3⟩ := id hr
  have loop : ∀ r i, i + r = 5 → itF g sz p r i = itI g sz p → PW (KX E mX1_itemAt n (QE (some (.int (itI g sz p))) h)) 2 [.ref a, .int (nI p), .int (nI i)] [] h n 0 := by
    intro r
    induction r with
    | zero =>
      intro i hi e
      refine pw_iload_n (pc := 2) dX1_itemAt_2 rfl ?_
      refine pw_iconst (pc := 3) (nI 5) dX1_itemAt_3 (by decide) ?_
      refine pw_icmp_ge_n (pc := 4) 27 dX1_itemAt_4 (by decide) (by omega) (by omega) (fun cb => ?_) (fun cb => ?_)
      · refine pw_bipush (pc := 27) (-9) dX1_itemAt_27 (by decide) ?_
        exact pw_iret dX1_itemAt_29 rfl ⟨by rw [← e]; rfl, rfl⟩
      · omega
    | succ r ih =>
      intro i hi e
      refine pw_iload_n (pc := 2) dX1_itemAt_2 rfl ?_
      refine pw_iconst (pc := 3) (nI 5) dX1_itemAt_3 (by decide) ?_
      refine pw_icmp_ge_n (pc := 4) 27 dX1_itemAt_4 (by decide) (by omega) (by omega) (fun cb => ?_) (fun cb => ?_)
      · omega
      · refine pw_aload_n (pc := 7) dX1_itemAt_7 rfl ?_
        refine pw_iload_n (pc := 8) dX1_itemAt_8 rfl ?_
        refine pw_iload_n (pc := 9) dX1_itemAt_9 rfl ?_
        refine pw_callS_a (pc := 10) cs_X1_68 dX1_itemAt_10 (c_wordOf i (by omega)) rfl rfl (Nat.le_of_ble_eq_true rfl) ⟨(Nat.le_of_ble_eq_true rfl), (Nat.le_of_ble_eq_true rfl)⟩ ?_
        refine pw_callV_i (pc := 13) cv_X1_72 dX1_itemAt_13 (by first | assumption | exact va_up_self _ _ _ | exact lk1 (by first | assumption | (apply Ne.symm; assumption) | (simp; done)) (by assumption) | exact lk1 (by first | assumption | (apply Ne.symm; assumption) | (simp; done)) (va_up_self _ _ _) | exact lk1 (by first | assumption | (apply Ne.symm; assumption) | (simp; done)) (lk1 (by first | assumption | (apply Ne.symm; assumption) | (simp; done)) (by assumption)) | exact lk1 (by first | assumption | (apply Ne.symm; assumption) | (simp; done)) (lk1 (by first | assumption | (apply Ne.symm; assumption) | (simp; done)) (va_up_self _ _ _)) | exact lk1 (by first | assumption | (apply Ne.symm; assumption) | (simp; done)) (lk1 (by first | assumption | (apply Ne.symm; assumption) | (simp; done)) (lk1 (by first | assumption | (apply Ne.symm; assumption) | (simp; done)) (by assumption))) | exact lk1 (by first | assumption | (apply Ne.symm; assumption) | (simp; done)) (lk1 (by first | assumption | (apply Ne.symm; assumption) | (simp; done)) (lk1 (by first | assumption | (apply Ne.symm; assumption) | (simp; done)) (va_up_self _ _ _))) | exact lk1 (by first | assumption | (apply Ne.symm; assumption) | (simp; done)) (lk1 (by first | assumption | (apply Ne.symm; assumption) | (simp; done)) (lk1 (by first | assumption | (apply Ne.symm; assumption) | (simp; done)) (lk1 (by first | assumption | (apply Ne.symm; assumption) | (simp; done)) (by assumption)))) | exact lk1 (by first | assumption | (apply Ne.symm; assumption) | (simp; done)) (lk1 (by first | assumption | (apply Ne.symm; assumption) | (simp; done)) (lk1 (by first | assumption | (apply Ne.symm; assumption) | (simp; done)) (lk1 (by first | assumption | (apply Ne.symm; assumption) | (simp; done)) (va_up_self _ _ _))))) rfl (c_isWordAt hr p i hp (by omega)) rfl rfl (Nat.le_of_ble_eq_true rfl) ⟨(Nat.le_of_ble_eq_true rfl), (Nat.le_of_ble_eq_true rfl)⟩ ?_
        refine pw_if_eq_b (pc := 16) 21 dX1_itemAt_16 (by decide) (fun z => ?_) (fun z => ?_)
        · refine pw_iinc2 (pc := 21) (nI (i + 1)) dX1_itemAt_21 (Nat.le_of_ble_eq_true rfl) rfl (ni_inc _) ?_
          refine pw_goto (pc := 24) 2 dX1_itemAt_24 (by decide) ?_
          refine ih (i + 1) (by omega) ?_
          rw [← e, itF, z]; rfl
        · refine pw_iload_n (pc := 19) dX1_itemAt_19 rfl ?_
          refine pw_iret dX1_itemAt_20 rfl ⟨?_, rfl⟩
          rw [← e, itF, z]; rfl
  refine PM.of [.ref a, .int (nI p), .null] rfl (Nat.le_of_ble_eq_true rfl) rfl ?_
  refine pw_iconst (pc := 0) (nI 0) dX1_itemAt_0 (by decide) ?_
  refine pw_ist2 (pc := 1) dX1_itemAt_1 (Nat.le_of_ble_eq_true rfl) rfl ?_
  exact loop 5 0 (by omega) rfl
end CL
section CM
variable {E : EV} {h : HP} {n a t b sz : Nat} {g W : Nat → Int32}
theorem c_lawRead (hl : lawP h a W) (hr : txtAt h t b g sz) (d1 : t ≠ a + 1) (d2 : t ≠ a + 2) (d3 : b ≠ a + 1) (d4 : b ≠ a + 2) : PM E mX1_read [.ref a, .ref t] h n n 0 (fun v h' => v = some (.int (rdF g sz 5 (skB g sz 0) (nI 0) fAT 0).1) ∧ lawP h' a ((rdF g sz 5 (skB g sz 0) (nI 0) fAT 0).2.getD W) ∧ ∀ q, q ≠ a + 1 → q ≠ a + 2 → h' q = h q) := by
  obtain ⟨a0, ⟨w1, a1, hw1⟩, f2, w2, a2, hw2⟩ := id hl
  obtain ⟨t1, t2, t3⟩ := id hr
  obtain ⟨RR, hRR⟩ : ∃ RR, RR = rdF g sz 5 (skB g sz 0) (nI 0) fAT 0 := ⟨_, rfl⟩
  have fail : ∀ (f : Nat) h' w2 w3 w5 w6, RR = (-10 - nI f, none) → (∃ gd, h' (a + 2) = some (.inl (0, 5, .inl gd))) → (∀ q, q ≠ a + 2 → h' q = h q) → (∀ pc, (pc = 62 ∨ pc = 110 ∨ pc = 139 ∨ pc = 186) → PW (KX E mX1_read n (fun v h' => v = some (.int (rdF g sz 5 (skB g sz 0) (nI 0) fAT 0).1) ∧ lawP h' a ((rdF g sz 5 (skB g sz 0) (nI 0) fAT 0).2.getD W) ∧ ∀ q, q ≠ a + 1 → q ≠ a + 2 → h' q = h q)) pc [.ref a, .ref t, .int w2, .int w3, .int (nI f), w5, w6] [] h' n 0) := by
    intro f h' w2 w3 w5 w6 hf hd hq pc hpc
    have fin : ∀ v, v = -10 - nI f → v = RR.1 ∧ lawP h' a (RR.2.getD W) ∧ ∀ q, q ≠ a + 1 → q ≠ a + 2 → h' q = h q := by
      intro v hv
      rw [hf]
      obtain ⟨gd, hd⟩ := hd
      exact ⟨hv, ⟨(hq _ (by omega)).trans a0, ⟨w1, (hq _ (by omega)).trans a1, hw1⟩, gd, gd, hd, fun _ _ => rfl⟩, fun q _ h2 => hq q h2⟩
    rw [hRR] at fin
    rcases hpc with rfl | rfl | rfl | rfl
    · refine pw_bipush (pc := 62) (-10) dX1_read_62 (by decide) ?_
      refine pw_iload (pc := 64) dX1_read_64 rfl ?_
      refine pw_isub (pc := 66) dX1_read_66 ?_
      obtain ⟨e1, e2, e3⟩ := fin _ rfl
      exact pw_iret dX1_read_67 rfl ⟨by rw [← e1], e2, e3⟩
    · refine pw_bipush (pc := 110) (-10) dX1_read_110 (by decide) ?_
      refine pw_iload (pc := 112) dX1_read_112 rfl ?_
      refine pw_isub (pc := 114) dX1_read_114 ?_
      obtain ⟨e1, e2, e3⟩ := fin _ rfl
      exact pw_iret dX1_read_115 rfl ⟨by rw [← e1], e2, e3⟩
    · refine pw_bipush (pc := 139) (-10) dX1_read_139 (by decide) ?_
      refine pw_iload (pc := 141) dX1_read_141 rfl ?_
      refine pw_isub (pc := 143) dX1_read_143 ?_
      obtain ⟨e1, e2, e3⟩ := fin _ rfl
      exact pw_iret dX1_read_144 rfl ⟨by rw [← e1], e2, e3⟩
    · refine pw_bipush (pc := 186) (-10) dX1_read_186 (by decide) ?_
      refine pw_iload (pc := 188) dX1_read_188 rfl ?_
      refine pw_isub (pc := 190) dX1_read_190 ?_
      obtain ⟨e1, e2, e3⟩ := fin _ rfl
      exact pw_iret dX1_read_191 rfl ⟨by rw [← e1], e2, e3⟩
  have good : ∀ it p dr gd h' w2 w5 w6, RR = (nI it, some dr) → ¬ p < sz → p < 1000 → h' (a + 2) = some (.inl (0, 5, .inl gd)) → (∀ k, k < 5 → gd k = dr k) → (∀ q, q ≠ a + 2 → h' q = h q) → PW (KX E mX1_read n (fun v h' => v = some (.int (rdF g sz 5 (skB g sz 0) (nI 0) fAT 0).1) ∧ lawP h' a ((rdF g sz 5 (skB g sz 0) (nI 0) fAT 0).2.getD W) ∧ ∀ q, q ≠ a + 1 → q ≠ a + 2 → h' q = h q)) 177 [.ref a, .ref t, .int w2, .int (nI it), .int (nI p), w5, w6] [] h' n 0 := by
    intro it p dr gd h' w2 w5 w6 hf hp hp2 hd hgd hq
    have x0 := (hq a (by omega)).trans a0
    have x1 := (hq (a + 1) (by omega)).trans a1
    have xt := (hq t d2).trans t1
    refine pw_iload (pc := 177) dX1_read_177 rfl ?_
    refine pw_aload_n (pc := 179) dX1_read_179 rfl ?_
    refine pw_get (pc := 180) fg_X1_38 dX1_read_180 (by first | assumption | exact va_up_self _ _ _ | exact lk1 (by first | assumption | (apply Ne.symm; assumption) | (simp; done)) (by assumption) | exact lk1 (by first | assumption | (apply Ne.symm; assumption) | (simp; done)) (va_up_self _ _ _) | exact lk1 (by first | assumption | (apply Ne.symm; assumption) | (simp; done)) (lk1 (by first | assumption | (apply Ne.symm; assumption) | (simp; done)) (by assumption)) | exact lk1 (by first | assumption | (apply Ne.symm; assumption) | (simp; done)) (lk1 (by first | assumption | (apply Ne.symm; assumption) | (simp; done)) (va_up_self _ _ _)) | exact lk1 (by first | assumption | (apply Ne.symm; assumption) | (simp; done)) (lk1 (by first | assumption | (apply Ne.symm; assumption) | (simp; done)) (lk1 (by first | assumption | (apply Ne.symm; assumption) | (simp; done)) (by assumption))) | exact lk1 (by first | assumption | (apply Ne.symm; assumption) | (simp; done)) (lk1 (by first | assumption | (apply Ne.symm; assumption) | (simp; done)) (lk1 (by first | assumption | (apply Ne.symm; assumption) | (simp; done)) (va_up_self _ _ _))) | exact lk1 (by first | assumption | (apply Ne.symm; assumption) | (simp; done)) (lk1 (by first | assumption | (apply Ne.symm; assumption) | (simp; done)) (lk1 (by first | assumption | (apply Ne.symm; assumption) | (simp; done)) (lk1 (by first | assumption | (apply Ne.symm; assumption) | (simp; done)) (by assumption)))) | exact lk1 (by first | assumption | (apply Ne.symm; assumption) | (simp; done)) (lk1 (by first | assumption | (apply Ne.symm; assumption) | (simp; done)) (lk1 (by first | assumption | (apply Ne.symm; assumption) | (simp; done)) (lk1 (by first | assumption | (apply Ne.symm; assumption) | (simp; done)) (va_up_self _ _ _))))) (by first | rfl | assumption) ?_
    refine pw_icmp_ge_n (pc := 183) 192 dX1_read_183 (by decide) (by omega) (by omega) (fun cb => ?_) (fun cb => ?_)
    · refine pw_aload_n (pc := 192) dX1_read_192 rfl ?_
      refine pw_get (pc := 193) fg_X1_23 dX1_read_193 (by first | assumption | exact va_up_self _ _ _ | exact lk1 (by first | assumption | (apply Ne.symm; assumption) | (simp; done)) (by assumption) | exact lk1 (by first | assumption | (apply Ne.symm; assumption) | (simp; done)) (va_up_self _ _ _) | exact lk1 (by first | assumption | (apply Ne.symm; assumption) | (simp; done)) (lk1 (by first | assumption | (apply Ne.symm; assumption) | (simp; done)) (by assumption)) | exact lk1 (by first | assumption | (apply Ne.symm; assumption) | (simp; done)) (lk1 (by first | assumption | (apply Ne.symm; assumption) | (simp; done)) (va_up_self _ _ _)) | exact lk1 (by first | assumption | (apply Ne.symm; assumption) | (simp; done)) (lk1 (by first | assumption | (apply Ne.symm; assumption) | (simp; done)) (lk1 (by first | assumption | (apply Ne.symm; assumption) | (simp; done)) (by assumption))) | exact lk1 (by first | assumption | (apply Ne.symm; assumption) | (simp; done)) (lk1 (by first | assumption | (apply Ne.symm; assumption) | (simp; done)) (lk1 (by first | assumption | (apply Ne.symm; assumption) | (simp; done)) (va_up_self _ _ _))) | exact lk1 (by first | assumption | (apply Ne.symm; assumption) | (simp; done)) (lk1 (by first | assumption | (apply Ne.symm; assumption) | (simp; done)) (lk1 (by first | assumption | (apply Ne.symm; assumption) | (simp; done)) (lk1 (by first | assumption | (apply Ne.symm; assumption) | (simp; done)) (by assumption)))) | exact lk1 (by first | assumption | (apply Ne.symm; assumption) | (simp; done)) (lk1 (by first | assumption | (apply Ne.symm; assumption) | (simp; done)) (lk1 (by first | assumption | (apply Ne.symm; assumption) | (simp; done)) (lk1 (by first | assumption | (apply Ne.symm; assumption) | (simp; done)) (va_up_self _ _ _))))) (by first | rfl | assumption) ?_
      refine pw_iconst (pc := 196) (nI 0) dX1_read_196 (by decide) ?_
      refine pw_aload_n (pc := 197) dX1_read_197 rfl ?_
      refine pw_get (pc := 198) fg_X1_18 dX1_read_198 (by first | assumption | exact va_up_self _ _ _ | exact lk1 (by first | assumption | (apply Ne.symm; assumption) | (simp; done)) (by assumption) | exact lk1 (by first | assumption | (apply Ne.symm; assumption) | (simp; done)) (va_up_self _ _ _) | exact lk1 (by first | assumption | (apply Ne.symm; assumption) | (simp; done)) (lk1 (by first | assumption | (apply Ne.symm; assumption) | (simp; done)) (by assumption)) | exact lk1 (by first | assumption | (apply Ne.symm; assumption) | (simp; done)) (lk1 (by first | assumption | (apply Ne.symm; assumption) | (simp; done)) (va_up_self _ _ _)) | exact lk1 (by first | assumption | (apply Ne.symm; assumption) | (simp; done)) (lk1 (by first | assumption | (apply Ne.symm; assumption) | (simp; done)) (lk1 (by first | assumption | (apply Ne.symm; assumption) | (simp; done)) (by assumption))) | exact lk1 (by first | assumption | (apply Ne.symm; assumption) | (simp; done)) (lk1 (by first | assumption | (apply Ne.symm; assumption) | (simp; done)) (lk1 (by first | assumption | (apply Ne.symm; assumption) | (simp; done)) (va_up_self _ _ _))) | exact lk1 (by first | assumption | (apply Ne.symm; assumption) | (simp; done)) (lk1 (by first | assumption | (apply Ne.symm; assumption) | (simp; done)) (lk1 (by first | assumption | (apply Ne.symm; assumption) | (simp; done)) (lk1 (by first | assumption | (apply Ne.symm; assumption) | (simp; done)) (by assumption)))) | exact lk1 (by first | assumption | (apply Ne.symm; assumption) | (simp; done)) (lk1 (by first | assumption | (apply Ne.symm; assumption) | (simp; done)) (lk1 (by first | assumption | (apply Ne.symm; assumption) | (simp; done)) (lk1 (by first | assumption | (apply Ne.symm; assumption) | (simp; done)) (va_up_self _ _ _))))) (by first | rfl | assumption) ?_
      refine pw_iconst (pc := 201) (nI 0) dX1_read_201 (by decide) ?_
      refine pw_iconst (pc := 202) (nI 5) dX1_read_202 (by decide) ?_
      refine pw_copy (pc := 203) (0) (0) (5) lk_X1_26 dX1_read_203 (by first | assumption | exact va_up_self _ _ _ | exact lk1 (by first | assumption | (apply Ne.symm; assumption) | (simp; done)) (by assumption) | exact lk1 (by first | assumption | (apply Ne.symm; assumption) | (simp; done)) (va_up_self _ _ _) | exact lk1 (by first | assumption | (apply Ne.symm; assumption) | (simp; done)) (lk1 (by first | assumption | (apply Ne.symm; assumption) | (simp; done)) (by assumption)) | exact lk1 (by first | assumption | (apply Ne.symm; assumption) | (simp; done)) (lk1 (by first | assumption | (apply Ne.symm; assumption) | (simp; done)) (va_up_self _ _ _)) | exact lk1 (by first | assumption | (apply Ne.symm; assumption) | (simp; done)) (lk1 (by first | assumption | (apply Ne.symm; assumption) | (simp; done)) (lk1 (by first | assumption | (apply Ne.symm; assumption) | (simp; done)) (by assumption))) | exact lk1 (by first | assumption | (apply Ne.symm; assumption) | (simp; done)) (lk1 (by first | assumption | (apply Ne.symm; assumption) | (simp; done)) (lk1 (by first | assumption | (apply Ne.symm; assumption) | (simp; done)) (va_up_self _ _ _))) | exact lk1 (by first | assumption | (apply Ne.symm; assumption) | (simp; done)) (lk1 (by first | assumption | (apply Ne.symm; assumption) | (simp; done)) (lk1 (by first | assumption | (apply Ne.symm; assumption) | (simp; done)) (lk1 (by first | assumption | (apply Ne.symm; assumption) | (simp; done)) (by assumption)))) | exact lk1 (by first | assumption | (apply Ne.symm; assumption) | (simp; done)) (lk1 (by first | assumption | (apply Ne.symm; assumption) | (simp; done)) (lk1 (by first | assumption | (apply Ne.symm; assumption) | (simp; done)) (lk1 (by first | assumption | (apply Ne.symm; assumption) | (simp; done)) (va_up_self _ _ _))))) (by first | assumption | exact va_up_self _ _ _ | exact lk1 (by first | assumption | (apply Ne.symm; assumption) | (simp; done)) (by assumption) | exact lk1 (by first | assumption | (apply Ne.symm; assumption) | (simp; done)) (va_up_self _ _ _) | exact lk1 (by first | assumption | (apply Ne.symm; assumption) | (simp; done)) (lk1 (by first | assumption | (apply Ne.symm; assumption) | (simp; done)) (by assumption)) | exact lk1 (by first | assumption | (apply Ne.symm; assumption) | (simp; done)) (lk1 (by first | assumption | (apply Ne.symm; assumption) | (simp; done)) (va_up_self _ _ _)) | exact lk1 (by first | assumption | (apply Ne.symm; assumption) | (simp; done)) (lk1 (by first | assumption | (apply Ne.symm; assumption) | (simp; done)) (lk1 (by first | assumption | (apply Ne.symm; assumption) | (simp; done)) (by assumption))) | exact lk1 (by first | assumption | (apply Ne.symm; assumption) | (simp; done)) (lk1 (by first | assumption | (apply Ne.symm; assumption) | (simp; done)) (lk1 (by first | assumption | (apply Ne.symm; assumption) | (simp; done)) (va_up_self _ _ _))) | exact lk1 (by first | assumption | (apply Ne.symm; assumption) | (simp; done)) (lk1 (by first | assumption | (apply Ne.symm; assumption) | (simp; done)) (lk1 (by first | assumption | (apply Ne.symm; assumption) | (simp; done)) (lk1 (by first | assumption | (apply Ne.symm; assumption) | (simp; done)) (by assumption)))) | exact lk1 (by first | assumption | (apply Ne.symm; assumption) | (simp; done)) (lk1 (by first | assumption | (apply Ne.symm; assumption) | (simp; done)) (lk1 (by first | assumption | (apply Ne.symm; assumption) | (simp; done)) (lk1 (by first | assumption | (apply Ne.symm; assumption) | (simp; done)) (va_up_self _ _ _))))) (by first | assumption | rfl | (simp only [nI_add, pk_mul, Nat.one_mul, Nat.mul_one, Nat.zero_add, Nat.add_zero, Nat.mul_zero]; done) | exact pk_sub (by omega) | (rw [pk_sub (by omega)]; first | done | (rw [nI_add]; done) | (rw [pk_sub (by omega)]; done) | (rw [pk_sub (by omega), nI_add]; done)) | (simp only [nI_add, pk_mul]; first | exact pk_sub (by omega) | (congr 1; omega)) | (congr 1; omega)) (by first | assumption | rfl | (simp only [nI_add, pk_mul, Nat.one_mul, Nat.mul_one, Nat.zero_add, Nat.add_zero, Nat.mul_zero]; done) | exact pk_sub (by omega) | (rw [pk_sub (by omega)]; first | done | (rw [nI_add]; done) | (rw [pk_sub (by omega)]; done) | (rw [pk_sub (by omega), nI_add]; done)) | (simp only [nI_add, pk_mul]; first | exact pk_sub (by omega) | (congr 1; omega)) | (congr 1; omega)) (by first | assumption | rfl | (simp only [nI_add, pk_mul, Nat.one_mul, Nat.mul_one, Nat.zero_add, Nat.add_zero, Nat.mul_zero]; done) | exact pk_sub (by omega) | (rw [pk_sub (by omega)]; first | done | (rw [nI_add]; done) | (rw [pk_sub (by omega)]; done) | (rw [pk_sub (by omega), nI_add]; done)) | (simp only [nI_add, pk_mul]; first | exact pk_sub (by omega) | (congr 1; omega)) | (congr 1; omega)) (by omega) (by omega) (by omega) (by omega) (Nat.le_of_ble_eq_true rfl) (Nat.le_of_ble_eq_true rfl) ?_
      refine pw_iload_n (pc := 206) dX1_read_206 rfl ?_
      refine pw_iret dX1_read_207 rfl ⟨by rw [← hRR, hf], ?_, fun q h1 h2 => by rw [va_up_ne _ _ h1]; exact hq q h2⟩
      rw [← hRR, hf]
      refine ⟨lk1 (by omega) x0, ⟨_, va_up_self _ _ _, fun k hk => ?_⟩, gd, gd, lk1 (by omega) hd, fun _ _ => rfl⟩
      rw [pk_cpy_in (by omega) (by omega), Nat.zero_add, Nat.sub_zero]
      exact hgd k hk
    · omega
  have loop : ∀ q p dn dr it gd h' w5 w6, q + it = 5 → p ≤ sz → rdF g sz q p dn dr it = RR → h' (a + 2) = some (.inl (0, 5, .inl gd)) → (∀ k, k < 5 → gd k = dr k) → (∀ q, q ≠ a + 2 → h' q = h q) → PW (KX E mX1_read n (fun v h' => v = some (.int (rdF g sz 5 (skB g sz 0) (nI 0) fAT 0).1) ∧ lawP h' a ((rdF g sz 5 (skB g sz 0) (nI 0) fAT 0).2.getD W) ∧ ∀ q, q ≠ a + 1 → q ≠ a + 2 → h' q = h q)) 24 [.ref a, .ref t, .int dn, .int (nI it), .int (nI p), w5, w6] [] h' n 0 := by
    intro q
    induction q with
    | zero =>
      intro p dn dr it gd h' w5 w6 hq hp hrd hd hgd hf
      refine pw_iload_n (pc := 24) dX1_read_24 rfl ?_
      refine pw_iconst (pc := 25) (nI 5) dX1_read_25 (by decide) ?_
      refine pw_icmp_ge_n (pc := 26) 177 dX1_read_26 (by decide) (by omega) (by omega) (fun cb => ?_) (fun cb => ?_)
      · by_cases hlt : p < sz
        · have xt := (hf t d2).trans t1
          rw [rdF, if_pos hlt] at hrd
          refine pw_iload (pc := 177) dX1_read_177 rfl ?_
          refine pw_aload_n (pc := 179) dX1_read_179 rfl ?_
          refine pw_get (pc := 180) fg_X1_38 dX1_read_180 (by first | assumption | exact va_up_self _ _ _ | exact lk1 (by first | assumption | (apply Ne.symm; assumption) | (simp; done)) (by assumption) | exact lk1 (by first | assumption | (apply Ne.symm; assumption) | (simp; done)) (va_up_self _ _ _) | exact lk1 (by first | assumption | (apply Ne.symm; assumption) | (simp; done)) (lk1 (by first | assumption | (apply Ne.symm; assumption) | (simp; done)) (by assumption)) | exact lk1 (by first | assumption | (apply Ne.symm; assumption) | (simp; done)) (lk1 (by first | assumption | (apply Ne.symm; assumption) | (simp; done)) (va_up_self _ _ _)) | exact lk1 (by first | assumption | (apply Ne.symm; assumption) | (simp; done)) (lk1 (by first | assumption | (apply Ne.symm; assumption) | (simp; done)) (lk1 (by first | assumption | (apply Ne.symm; assumption) | (simp; done)) (by assumption))) | exact lk1 (by first | assumption | (apply Ne.symm; assumption) | (simp; done)) (lk1 (by first | assumption | (apply Ne.symm; assumption) | (simp; done)) (lk1 (by first | assumption | (apply Ne.symm; assumption) | (simp; done)) (va_up_self _ _ _))) | exact lk1 (by first | assumption | (apply Ne.symm; assumption) | (simp; done)) (lk1 (by first | assumption | (apply Ne.symm; assumption) | (simp; done)) (lk1 (by first | assumption | (apply Ne.symm; assumption) | (simp; done)) (lk1 (by first | assumption | (apply Ne.symm; assumption) | (simp; done)) (by assumption)))) | exact lk1 (by first | assumption | (apply Ne.symm; assumption) | (simp; done)) (lk1 (by first | assumption | (apply Ne.symm; assumption) | (simp; done)) (lk1 (by first | assumption | (apply Ne.symm; assumption) | (simp; done)) (lk1 (by first | assumption | (apply Ne.symm; assumption) | (simp; done)) (va_up_self _ _ _))))) (by first | rfl | assumption) ?_
          refine pw_icmp_ge_n (pc := 183) 192 dX1_read_183 (by decide) (by omega) (by omega) (fun cc => ?_) (fun cc => ?_)
          · omega
          · exact fail p h' _ _ _ _ hrd.symm ⟨gd, hd⟩ hf 186 (Or.inr (Or.inr (Or.inr rfl)))
        · rw [rdF, if_neg hlt] at hrd
          exact good it p dr gd h' _ _ _ hrd.symm hlt (by omega) hd hgd hf
      · omega
    | succ q ih =>
      intro p dn dr it gd h' w5 w6 hq hp hrd hd hgd hf
      have x0 := (hf a (by omega)).trans a0
      have xt := (hf t d2).trans t1
      have hr' : txtAt h' t b g sz := ⟨xt, (hf b d4).trans t2, t3⟩
      refine pw_iload_n (pc := 24) dX1_read_24 rfl ?_
      refine pw_iconst (pc := 25) (nI 5) dX1_read_25 (by decide) ?_
      refine pw_icmp_ge_n (pc := 26) 177 dX1_read_26 (by decide) (by omega) (by omega) (fun cb => ?_) (fun cb => ?_)
      · omega
      refine pw_iload (pc := 29) dX1_read_29 rfl ?_
      refine pw_aload_n (pc := 31) dX1_read_31 rfl ?_
      refine pw_get (pc := 32) fg_X1_38 dX1_read_32 (by first | assumption | exact va_up_self _ _ _ | exact lk1 (by first | assumption | (apply Ne.symm; assumption) | (simp; done)) (by assumption) | exact lk1 (by first | assumption | (apply Ne.symm; assumption) | (simp; done)) (va_up_self _ _ _) | exact lk1 (by first | assumption | (apply Ne.symm; assumption) | (simp; done)) (lk1 (by first | assumption | (apply Ne.symm; assumption) | (simp; done)) (by assumption)) | exact lk1 (by first | assumption | (apply Ne.symm; assumption) | (simp; done)) (lk1 (by first | assumption | (apply Ne.symm; assumption) | (simp; done)) (va_up_self _ _ _)) | exact lk1 (by first | assumption | (apply Ne.symm; assumption) | (simp; done)) (lk1 (by first | assumption | (apply Ne.symm; assumption) | (simp; done)) (lk1 (by first | assumption | (apply Ne.symm; assumption) | (simp; done)) (by assumption))) | exact lk1 (by first | assumption | (apply Ne.symm; assumption) | (simp; done)) (lk1 (by first | assumption | (apply Ne.symm; assumption) | (simp; done)) (lk1 (by first | assumption | (apply Ne.symm; assumption) | (simp; done)) (va_up_self _ _ _))) | exact lk1 (by first | assumption | (apply Ne.symm; assumption) | (simp; done)) (lk1 (by first | assumption | (apply Ne.symm; assumption) | (simp; done)) (lk1 (by first | assumption | (apply Ne.symm; assumption) | (simp; done)) (lk1 (by first | assumption | (apply Ne.symm; assumption) | (simp; done)) (by assumption)))) | exact lk1 (by first | assumption | (apply Ne.symm; assumption) | (simp; done)) (lk1 (by first | assumption | (apply Ne.symm; assumption) | (simp; done)) (lk1 (by first | assumption | (apply Ne.symm; assumption) | (simp; done)) (lk1 (by first | assumption | (apply Ne.symm; assumption) | (simp; done)) (va_up_self _ _ _))))) (by first | rfl | assumption) ?_
      refine pw_icmp_ge_n (pc := 35) 177 dX1_read_35 (by decide) (by omega) (by omega) (fun cc => ?_) (fun cc => ?_)
      · rw [rdF, if_neg (by omega)] at hrd
        exact good it p dr gd h' _ _ _ hrd.symm (by omega) (by omega) hd hgd hf
      rw [rdF, if_pos cc] at hrd
      refine pw_aload_n (pc := 38) dX1_read_38 rfl ?_
      refine pw_iload (pc := 39) dX1_read_39 rfl ?_
      refine pw_callS_i (pc := 41) cs_X1_42 dX1_read_41 (c_itemAt hr' p hp) rfl rfl (Nat.le_of_ble_eq_true rfl) ⟨(Nat.le_of_ble_eq_true rfl), (Nat.le_of_ble_eq_true rfl)⟩ ?_
      refine pw_ist5 (pc := 44) dX1_read_44 (Nat.le_of_ble_eq_true rfl) rfl ?_
      refine pw_iload (pc := 46) dX1_read_46 rfl ?_
      refine pw_bipush (pc := 48) (-9) dX1_read_48 (by decide) ?_
      refine pw_icmp_eq (pc := 50) 62 dX1_read_50 (by decide) (fun z1 => ?_) (fun z1 => ?_)
      · rw [if_pos (Or.inl z1)] at hrd
        exact fail p h' _ _ _ _ hrd.symm ⟨gd, hd⟩ hf 62 (Or.inl rfl)
      refine pw_iload_n (pc := 53) dX1_read_53 rfl ?_
      refine pw_iload (pc := 54) dX1_read_54 rfl ?_
      refine pw_callSN_i (pc := 56) csn_X1_46 dX1_read_56 (c_isIn _ _) rfl rfl (Nat.le_of_ble_eq_true rfl) ⟨(Nat.le_of_ble_eq_true rfl), (Nat.le_of_ble_eq_true rfl)⟩ ?_
      refine pw_if_eq_b (pc := 59) 68 dX1_read_59 (by decide) (fun z2 => ?_) (fun z2 => ?_)
      · have hc1 : ¬ (itI g sz p = -9 ∨ inB dn (itI g sz p) = true) := by
          rintro (q | q)
          · exact z1 q
          · rw [show inB dn (itI g sz p) = false from z2] at q; cases q
        rw [if_neg hc1] at hrd
        obtain ⟨w, hw5, ew, ew2⟩ := it_k z1
        rw [ew2] at hrd
        have lle : p ≤ alL g sz p ∧ alL g sz p ≤ p + (sz - p) := aft_le (rg 97 122) g (sz - p) p
        have ble1 : alL g sz p ≤ p1A g sz p ∧ p1A g sz p ≤ alL g sz p + (sz - alL g sz p) := aft_le blP g (sz - alL g sz p) (alL g sz p)
        obtain ⟨p1, hp1⟩ : ∃ p1, p1 = p1A g sz p := ⟨_, rfl⟩
        rw [← hp1] at hrd
        have dle : p1 ≤ adD g sz p1 ∧ adD g sz p1 ≤ p1 + (sz - p1) := aft_le (rg 48 57) g (sz - p1) p1
        have ble2 : adD g sz p1 ≤ skB g sz (adD g sz p1) ∧ skB g sz (adD g sz p1) ≤ adD g sz p1 + (sz - adD g sz p1) := aft_le blP g (sz - adD g sz p1) (adD g sz p1)
        obtain ⟨p2, hp2⟩ : ∃ p2, p2 = skB g sz (adD g sz p1) := ⟨_, rfl⟩
        have hp2A : p2A g sz p = p2 := by rw [hp2]; unfold p2A; rw [← hp1]
        rw [hp2A] at hrd
        refine pw_aload_n (pc := 68) dX1_read_68 rfl ?_
        refine pw_aload_n (pc := 69) dX1_read_69 rfl ?_
        refine pw_iload (pc := 70) dX1_read_70 rfl ?_
        refine pw_callV_i (pc := 72) cv_X1_50 dX1_read_72 (by first | assumption | exact va_up_self _ _ _ | exact lk1 (by first | assumption | (apply Ne.symm; assumption) | (simp; done)) (by assumption) | exact lk1 (by first | assumption | (apply Ne.symm; assumption) | (simp; done)) (va_up_self _ _ _) | exact lk1 (by first | assumption | (apply Ne.symm; assumption) | (simp; done)) (lk1 (by first | assumption | (apply Ne.symm; assumption) | (simp; done)) (by assumption)) | exact lk1 (by first | assumption | (apply Ne.symm; assumption) | (simp; done)) (lk1 (by first | assumption | (apply Ne.symm; assumption) | (simp; done)) (va_up_self _ _ _)) | exact lk1 (by first | assumption | (apply Ne.symm; assumption) | (simp; done)) (lk1 (by first | assumption | (apply Ne.symm; assumption) | (simp; done)) (lk1 (by first | assumption | (apply Ne.symm; assumption) | (simp; done)) (by assumption))) | exact lk1 (by first | assumption | (apply Ne.symm; assumption) | (simp; done)) (lk1 (by first | assumption | (apply Ne.symm; assumption) | (simp; done)) (lk1 (by first | assumption | (apply Ne.symm; assumption) | (simp; done)) (va_up_self _ _ _))) | exact lk1 (by first | assumption | (apply Ne.symm; assumption) | (simp; done)) (lk1 (by first | assumption | (apply Ne.symm; assumption) | (simp; done)) (lk1 (by first | assumption | (apply Ne.symm; assumption) | (simp; done)) (lk1 (by first | assumption | (apply Ne.symm; assumption) | (simp; done)) (by assumption)))) | exact lk1 (by first | assumption | (apply Ne.symm; assumption) | (simp; done)) (lk1 (by first | assumption | (apply Ne.symm; assumption) | (simp; done)) (lk1 (by first | assumption | (apply Ne.symm; assumption) | (simp; done)) (lk1 (by first | assumption | (apply Ne.symm; assumption) | (simp; done)) (va_up_self _ _ _))))) rfl (c_afterLetters hr' p hp) rfl rfl (Nat.le_of_ble_eq_true rfl) ⟨(Nat.le_of_ble_eq_true rfl), (Nat.le_of_ble_eq_true rfl)⟩ ?_
        refine pw_callV_i (pc := 75) cv_X1_32 dX1_read_75 (by first | assumption | exact va_up_self _ _ _ | exact lk1 (by first | assumption | (apply Ne.symm; assumption) | (simp; done)) (by assumption) | exact lk1 (by first | assumption | (apply Ne.symm; assumption) | (simp; done)) (va_up_self _ _ _) | exact lk1 (by first | assumption | (apply Ne.symm; assumption) | (simp; done)) (lk1 (by first | assumption | (apply Ne.symm; assumption) | (simp; done)) (by assumption)) | exact lk1 (by first | assumption | (apply Ne.symm; assumption) | (simp; done)) (lk1 (by first | assumption | (apply Ne.symm; assumption) | (simp; done)) (va_up_self _ _ _)) | exact lk1 (by first | assumption | (apply Ne.symm; assumption) | (simp; done)) (lk1 (by first | assumption | (apply Ne.symm; assumption) | (simp; done)) (lk1 (by first | assumption | (apply Ne.symm; assumption) | (simp; done)) (by assumption))) | exact lk1 (by first | assumption | (apply Ne.symm; assumption) | (simp; done)) (lk1 (by first | assumption | (apply Ne.symm; assumption) | (simp; done)) (lk1 (by first | assumption | (apply Ne.symm; assumption) | (simp; done)) (va_up_self _ _ _))) | exact lk1 (by first | assumption | (apply Ne.symm; assumption) | (simp; done)) (lk1 (by first | assumption | (apply Ne.symm; assumption) | (simp; done)) (lk1 (by first | assumption | (apply Ne.symm; assumption) | (simp; done)) (lk1 (by first | assumption | (apply Ne.symm; assumption) | (simp; done)) (by assumption)))) | exact lk1 (by first | assumption | (apply Ne.symm; assumption) | (simp; done)) (lk1 (by first | assumption | (apply Ne.symm; assumption) | (simp; done)) (lk1 (by first | assumption | (apply Ne.symm; assumption) | (simp; done)) (lk1 (by first | assumption | (apply Ne.symm; assumption) | (simp; done)) (va_up_self _ _ _))))) rfl (c_afterBlanks hr' (alL g sz p) (by omega)) rfl rfl (Nat.le_of_ble_eq_true rfl) ⟨(Nat.le_of_ble_eq_true rfl), (Nat.le_of_ble_eq_true rfl)⟩ ?_
        refine pw_ist4 (pc := 78) dX1_read_78 (Nat.le_of_ble_eq_true rfl) rfl ?_
        refine pw_aload_n (pc := 80) dX1_read_80 rfl ?_
        refine pw_iload (pc := 81) dX1_read_81 rfl ?_
        rw [show aft (fun c => decide (c = nI 32)) g (alL g sz p) (sz - alL g sz p) = p1 from hp1.symm]
        refine pw_callV_i (pc := 83) cv_X1_53 dX1_read_83 (by first | assumption | exact va_up_self _ _ _ | exact lk1 (by first | assumption | (apply Ne.symm; assumption) | (simp; done)) (by assumption) | exact lk1 (by first | assumption | (apply Ne.symm; assumption) | (simp; done)) (va_up_self _ _ _) | exact lk1 (by first | assumption | (apply Ne.symm; assumption) | (simp; done)) (lk1 (by first | assumption | (apply Ne.symm; assumption) | (simp; done)) (by assumption)) | exact lk1 (by first | assumption | (apply Ne.symm; assumption) | (simp; done)) (lk1 (by first | assumption | (apply Ne.symm; assumption) | (simp; done)) (va_up_self _ _ _)) | exact lk1 (by first | assumption | (apply Ne.symm; assumption) | (simp; done)) (lk1 (by first | assumption | (apply Ne.symm; assumption) | (simp; done)) (lk1 (by first | assumption | (apply Ne.symm; assumption) | (simp; done)) (by assumption))) | exact lk1 (by first | assumption | (apply Ne.symm; assumption) | (simp; done)) (lk1 (by first | assumption | (apply Ne.symm; assumption) | (simp; done)) (lk1 (by first | assumption | (apply Ne.symm; assumption) | (simp; done)) (va_up_self _ _ _))) | exact lk1 (by first | assumption | (apply Ne.symm; assumption) | (simp; done)) (lk1 (by first | assumption | (apply Ne.symm; assumption) | (simp; done)) (lk1 (by first | assumption | (apply Ne.symm; assumption) | (simp; done)) (lk1 (by first | assumption | (apply Ne.symm; assumption) | (simp; done)) (by assumption)))) | exact lk1 (by first | assumption | (apply Ne.symm; assumption) | (simp; done)) (lk1 (by first | assumption | (apply Ne.symm; assumption) | (simp; done)) (lk1 (by first | assumption | (apply Ne.symm; assumption) | (simp; done)) (lk1 (by first | assumption | (apply Ne.symm; assumption) | (simp; done)) (va_up_self _ _ _))))) rfl (c_numberAt hr' p1 (by omega)) rfl rfl (Nat.le_of_ble_eq_true rfl) ⟨(Nat.le_of_ble_eq_true rfl), (Nat.le_of_ble_eq_true rfl)⟩ ?_
        refine pw_ist6 (pc := 86) dX1_read_86 (Nat.le_of_ble_eq_true rfl) rfl ?_
        refine pw_iload (pc := 88) dX1_read_88 rfl ?_
        refine pw_getsN (pc := 90) (fun _ _ q => q.2.1.1) fn_56 dX1_read_90 ?_
        rw [ew]
        refine pw_iload (pc := 93) dX1_read_93 rfl ?_
        refine pw_xald (pc := 95) (fun _ _ q => ⟨q.2.1.2.1, q.2.1.2.2⟩) hw5 (by decide) dX1_read_95 ?_
        refine pw_icmp_lt (pc := 96) 110 dX1_read_96 (by decide) (fun z3 => ?_) (fun z3 => ?_)
        · rw [if_pos (Or.inl z3)] at hrd
          exact fail p1 h' _ _ _ _ hrd.symm ⟨gd, hd⟩ hf 110 (Or.inr (Or.inl rfl))
        refine pw_iload (pc := 99) dX1_read_99 rfl ?_
        refine pw_getsN (pc := 101) (fun _ _ q => q.2.2.1.1) fn_59 dX1_read_101 ?_
        refine pw_iload (pc := 104) dX1_read_104 rfl ?_
        refine pw_xald (pc := 106) (fun _ _ q => ⟨q.2.2.1.2.1, q.2.2.1.2.2⟩) hw5 (by decide) dX1_read_106 ?_
        refine pw_icmp_le (pc := 107) 116 dX1_read_107 (by decide) (fun z4 => ?_) (fun z4 => ?_)
        · have hc2 : ¬ (numS g sz p1 < fLE w ∨ fMO w < numS g sz p1) := by
            rintro (q | q)
            · exact z3 q
            · rw [i32_le] at z4; rw [i32_lt] at q; omega
          rw [if_neg hc2] at hrd
          refine pw_aload_n (pc := 116) dX1_read_116 rfl ?_
          refine pw_aload_n (pc := 117) dX1_read_117 rfl ?_
          refine pw_iload (pc := 118) dX1_read_118 rfl ?_
          refine pw_callV_i (pc := 120) cv_X1_62 dX1_read_120 (by first | assumption | exact va_up_self _ _ _ | exact lk1 (by first | assumption | (apply Ne.symm; assumption) | (simp; done)) (by assumption) | exact lk1 (by first | assumption | (apply Ne.symm; assumption) | (simp; done)) (va_up_self _ _ _) | exact lk1 (by first | assumption | (apply Ne.symm; assumption) | (simp; done)) (lk1 (by first | assumption | (apply Ne.symm; assumption) | (simp; done)) (by assumption)) | exact lk1 (by first | assumption | (apply Ne.symm; assumption) | (simp; done)) (lk1 (by first | assumption | (apply Ne.symm; assumption) | (simp; done)) (va_up_self _ _ _)) | exact lk1 (by first | assumption | (apply Ne.symm; assumption) | (simp; done)) (lk1 (by first | assumption | (apply Ne.symm; assumption) | (simp; done)) (lk1 (by first | assumption | (apply Ne.symm; assumption) | (simp; done)) (by assumption))) | exact lk1 (by first | assumption | (apply Ne.symm; assumption) | (simp; done)) (lk1 (by first | assumption | (apply Ne.symm; assumption) | (simp; done)) (lk1 (by first | assumption | (apply Ne.symm; assumption) | (simp; done)) (va_up_self _ _ _))) | exact lk1 (by first | assumption | (apply Ne.symm; assumption) | (simp; done)) (lk1 (by first | assumption | (apply Ne.symm; assumption) | (simp; done)) (lk1 (by first | assumption | (apply Ne.symm; assumption) | (simp; done)) (lk1 (by first | assumption | (apply Ne.symm; assumption) | (simp; done)) (by assumption)))) | exact lk1 (by first | assumption | (apply Ne.symm; assumption) | (simp; done)) (lk1 (by first | assumption | (apply Ne.symm; assumption) | (simp; done)) (lk1 (by first | assumption | (apply Ne.symm; assumption) | (simp; done)) (lk1 (by first | assumption | (apply Ne.symm; assumption) | (simp; done)) (va_up_self _ _ _))))) rfl (c_afterDigits hr' p1 (by omega)) rfl rfl (Nat.le_of_ble_eq_true rfl) ⟨(Nat.le_of_ble_eq_true rfl), (Nat.le_of_ble_eq_true rfl)⟩ ?_
          refine pw_callV_i (pc := 123) cv_X1_32 dX1_read_123 (by first | assumption | exact va_up_self _ _ _ | exact lk1 (by first | assumption | (apply Ne.symm; assumption) | (simp; done)) (by assumption) | exact lk1 (by first | assumption | (apply Ne.symm; assumption) | (simp; done)) (va_up_self _ _ _) | exact lk1 (by first | assumption | (apply Ne.symm; assumption) | (simp; done)) (lk1 (by first | assumption | (apply Ne.symm; assumption) | (simp; done)) (by assumption)) | exact lk1 (by first | assumption | (apply Ne.symm; assumption) | (simp; done)) (lk1 (by first | assumption | (apply Ne.symm; assumption) | (simp; done)) (va_up_self _ _ _)) | exact lk1 (by first | assumption | (apply Ne.symm; assumption) | (simp; done)) (lk1 (by first | assumption | (apply Ne.symm; assumption) | (simp; done)) (lk1 (by first | assumption | (apply Ne.symm; assumption) | (simp; done)) (by assumption))) | exact lk1 (by first | assumption | (apply Ne.symm; assumption) | (simp; done)) (lk1 (by first | assumption | (apply Ne.symm; assumption) | (simp; done)) (lk1 (by first | assumption | (apply Ne.symm; assumption) | (simp; done)) (va_up_self _ _ _))) | exact lk1 (by first | assumption | (apply Ne.symm; assumption) | (simp; done)) (lk1 (by first | assumption | (apply Ne.symm; assumption) | (simp; done)) (lk1 (by first | assumption | (apply Ne.symm; assumption) | (simp; done)) (lk1 (by first | assumption | (apply Ne.symm; assumption) | (simp; done)) (by assumption)))) | exact lk1 (by first | assumption | (apply Ne.symm; assumption) | (simp; done)) (lk1 (by first | assumption | (apply Ne.symm; assumption) | (simp; done)) (lk1 (by first | assumption | (apply Ne.symm; assumption) | (simp; done)) (lk1 (by first | assumption | (apply Ne.symm; assumption) | (simp; done)) (va_up_self _ _ _))))) rfl (c_afterBlanks hr' (adD g sz p1) (by omega)) rfl rfl (Nat.le_of_ble_eq_true rfl) ⟨(Nat.le_of_ble_eq_true rfl), (Nat.le_of_ble_eq_true rfl)⟩ ?_
          refine pw_ist4 (pc := 126) dX1_read_126 (Nat.le_of_ble_eq_true rfl) rfl ?_
          refine pw_aload_n (pc := 128) dX1_read_128 rfl ?_
          refine pw_iload (pc := 129) dX1_read_129 rfl ?_
          rw [show aft (fun c => decide (c = nI 32)) g (adD g sz p1) (sz - adD g sz p1) = p2 from hp2.symm]
          refine pw_callV_i (pc := 131) cv_X1_65 dX1_read_131 (by first | assumption | exact va_up_self _ _ _ | exact lk1 (by first | assumption | (apply Ne.symm; assumption) | (simp; done)) (by assumption) | exact lk1 (by first | assumption | (apply Ne.symm; assumption) | (simp; done)) (va_up_self _ _ _) | exact lk1 (by first | assumption | (apply Ne.symm; assumption) | (simp; done)) (lk1 (by first | assumption | (apply Ne.symm; assumption) | (simp; done)) (by assumption)) | exact lk1 (by first | assumption | (apply Ne.symm; assumption) | (simp; done)) (lk1 (by first | assumption | (apply Ne.symm; assumption) | (simp; done)) (va_up_self _ _ _)) | exact lk1 (by first | assumption | (apply Ne.symm; assumption) | (simp; done)) (lk1 (by first | assumption | (apply Ne.symm; assumption) | (simp; done)) (lk1 (by first | assumption | (apply Ne.symm; assumption) | (simp; done)) (by assumption))) | exact lk1 (by first | assumption | (apply Ne.symm; assumption) | (simp; done)) (lk1 (by first | assumption | (apply Ne.symm; assumption) | (simp; done)) (lk1 (by first | assumption | (apply Ne.symm; assumption) | (simp; done)) (va_up_self _ _ _))) | exact lk1 (by first | assumption | (apply Ne.symm; assumption) | (simp; done)) (lk1 (by first | assumption | (apply Ne.symm; assumption) | (simp; done)) (lk1 (by first | assumption | (apply Ne.symm; assumption) | (simp; done)) (lk1 (by first | assumption | (apply Ne.symm; assumption) | (simp; done)) (by assumption)))) | exact lk1 (by first | assumption | (apply Ne.symm; assumption) | (simp; done)) (lk1 (by first | assumption | (apply Ne.symm; assumption) | (simp; done)) (lk1 (by first | assumption | (apply Ne.symm; assumption) | (simp; done)) (lk1 (by first | assumption | (apply Ne.symm; assumption) | (simp; done)) (va_up_self _ _ _))))) rfl (c_byteAt hr' p2 (by omega)) rfl rfl (Nat.le_of_ble_eq_true rfl) ⟨(Nat.le_of_ble_eq_true rfl), (Nat.le_of_ble_eq_true rfl)⟩ ?_
          refine pw_bipush (pc := 134) (nI 59) dX1_read_134 (by decide) ?_
          refine pw_icmp_eq (pc := 136) 145 dX1_read_136 (by decide) (fun z5 => ?_) (fun z5 => ?_)
          · have hlt2 : p2 < sz := by
              rcases Nat.lt_or_ge p2 sz with q | q
              · exact q
              · rw [byA, if_neg (by omega)] at z5; exact absurd z5 (by decide)
            rw [if_neg (fun q => q z5)] at hrd
            have ble3 : p2 + 1 ≤ skB g sz (p2 + 1) ∧ skB g sz (p2 + 1) ≤ p2 + 1 + (sz - (p2 + 1)) := aft_le blP g (sz - (p2 + 1)) (p2 + 1)
            refine pw_aload_n (pc := 145) dX1_read_145 rfl ?_
            refine pw_iload (pc := 146) dX1_read_146 rfl ?_
            refine pw_iconst (pc := 148) (nI 1) dX1_read_148 (by decide) ?_
            refine pw_iadd (pc := 149) dX1_read_149 ?_
            rw [nI_add]
            refine pw_callV_i (pc := 150) cv_X1_32 dX1_read_150 (by first | assumption | exact va_up_self _ _ _ | exact lk1 (by first | assumption | (apply Ne.symm; assumption) | (simp; done)) (by assumption) | exact lk1 (by first | assumption | (apply Ne.symm; assumption) | (simp; done)) (va_up_self _ _ _) | exact lk1 (by first | assumption | (apply Ne.symm; assumption) | (simp; done)) (lk1 (by first | assumption | (apply Ne.symm; assumption) | (simp; done)) (by assumption)) | exact lk1 (by first | assumption | (apply Ne.symm; assumption) | (simp; done)) (lk1 (by first | assumption | (apply Ne.symm; assumption) | (simp; done)) (va_up_self _ _ _)) | exact lk1 (by first | assumption | (apply Ne.symm; assumption) | (simp; done)) (lk1 (by first | assumption | (apply Ne.symm; assumption) | (simp; done)) (lk1 (by first | assumption | (apply Ne.symm; assumption) | (simp; done)) (by assumption))) | exact lk1 (by first | assumption | (apply Ne.symm; assumption) | (simp; done)) (lk1 (by first | assumption | (apply Ne.symm; assumption) | (simp; done)) (lk1 (by first | assumption | (apply Ne.symm; assumption) | (simp; done)) (va_up_self _ _ _))) | exact lk1 (by first | assumption | (apply Ne.symm; assumption) | (simp; done)) (lk1 (by first | assumption | (apply Ne.symm; assumption) | (simp; done)) (lk1 (by first | assumption | (apply Ne.symm; assumption) | (simp; done)) (lk1 (by first | assumption | (apply Ne.symm; assumption) | (simp; done)) (by assumption)))) | exact lk1 (by first | assumption | (apply Ne.symm; assumption) | (simp; done)) (lk1 (by first | assumption | (apply Ne.symm; assumption) | (simp; done)) (lk1 (by first | assumption | (apply Ne.symm; assumption) | (simp; done)) (lk1 (by first | assumption | (apply Ne.symm; assumption) | (simp; done)) (va_up_self _ _ _))))) rfl (c_afterBlanks hr' (p2 + 1) (by omega)) rfl rfl (Nat.le_of_ble_eq_true rfl) ⟨(Nat.le_of_ble_eq_true rfl), (Nat.le_of_ble_eq_true rfl)⟩ ?_
            refine pw_ist4 (pc := 153) dX1_read_153 (Nat.le_of_ble_eq_true rfl) rfl ?_
            refine pw_aload_n (pc := 155) dX1_read_155 rfl ?_
            refine pw_get (pc := 156) fg_X1_23 dX1_read_156 (by first | assumption | exact va_up_self _ _ _ | exact lk1 (by first | assumption | (apply Ne.symm; assumption) | (simp; done)) (by assumption) | exact lk1 (by first | assumption | (apply Ne.symm; assumption) | (simp; done)) (va_up_self _ _ _) | exact lk1 (by first | assumption | (apply Ne.symm; assumption) | (simp; done)) (lk1 (by first | assumption | (apply Ne.symm; assumption) | (simp; done)) (by assumption)) | exact lk1 (by first | assumption | (apply Ne.symm; assumption) | (simp; done)) (lk1 (by first | assumption | (apply Ne.symm; assumption) | (simp; done)) (va_up_self _ _ _)) | exact lk1 (by first | assumption | (apply Ne.symm; assumption) | (simp; done)) (lk1 (by first | assumption | (apply Ne.symm; assumption) | (simp; done)) (lk1 (by first | assumption | (apply Ne.symm; assumption) | (simp; done)) (by assumption))) | exact lk1 (by first | assumption | (apply Ne.symm; assumption) | (simp; done)) (lk1 (by first | assumption | (apply Ne.symm; assumption) | (simp; done)) (lk1 (by first | assumption | (apply Ne.symm; assumption) | (simp; done)) (va_up_self _ _ _))) | exact lk1 (by first | assumption | (apply Ne.symm; assumption) | (simp; done)) (lk1 (by first | assumption | (apply Ne.symm; assumption) | (simp; done)) (lk1 (by first | assumption | (apply Ne.symm; assumption) | (simp; done)) (lk1 (by first | assumption | (apply Ne.symm; assumption) | (simp; done)) (by assumption)))) | exact lk1 (by first | assumption | (apply Ne.symm; assumption) | (simp; done)) (lk1 (by first | assumption | (apply Ne.symm; assumption) | (simp; done)) (lk1 (by first | assumption | (apply Ne.symm; assumption) | (simp; done)) (lk1 (by first | assumption | (apply Ne.symm; assumption) | (simp; done)) (va_up_self _ _ _))))) (by first | rfl | assumption) ?_
            refine pw_iload (pc := 159) dX1_read_159 rfl ?_
            refine pw_iload (pc := 161) dX1_read_161 rfl ?_
            refine pw_iast (pc := 163) (w) dX1_read_163 (by first | assumption | exact va_up_self _ _ _ | exact lk1 (by first | assumption | (apply Ne.symm; assumption) | (simp; done)) (by assumption) | exact lk1 (by first | assumption | (apply Ne.symm; assumption) | (simp; done)) (va_up_self _ _ _) | exact lk1 (by first | assumption | (apply Ne.symm; assumption) | (simp; done)) (lk1 (by first | assumption | (apply Ne.symm; assumption) | (simp; done)) (by assumption)) | exact lk1 (by first | assumption | (apply Ne.symm; assumption) | (simp; done)) (lk1 (by first | assumption | (apply Ne.symm; assumption) | (simp; done)) (va_up_self _ _ _)) | exact lk1 (by first | assumption | (apply Ne.symm; assumption) | (simp; done)) (lk1 (by first | assumption | (apply Ne.symm; assumption) | (simp; done)) (lk1 (by first | assumption | (apply Ne.symm; assumption) | (simp; done)) (by assumption))) | exact lk1 (by first | assumption | (apply Ne.symm; assumption) | (simp; done)) (lk1 (by first | assumption | (apply Ne.symm; assumption) | (simp; done)) (lk1 (by first | assumption | (apply Ne.symm; assumption) | (simp; done)) (va_up_self _ _ _))) | exact lk1 (by first | assumption | (apply Ne.symm; assumption) | (simp; done)) (lk1 (by first | assumption | (apply Ne.symm; assumption) | (simp; done)) (lk1 (by first | assumption | (apply Ne.symm; assumption) | (simp; done)) (lk1 (by first | assumption | (apply Ne.symm; assumption) | (simp; done)) (by assumption)))) | exact lk1 (by first | assumption | (apply Ne.symm; assumption) | (simp; done)) (lk1 (by first | assumption | (apply Ne.symm; assumption) | (simp; done)) (lk1 (by first | assumption | (apply Ne.symm; assumption) | (simp; done)) (lk1 (by first | assumption | (apply Ne.symm; assumption) | (simp; done)) (va_up_self _ _ _))))) (by first | assumption | rfl | (simp only [nI_add, pk_mul, Nat.one_mul, Nat.mul_one, Nat.zero_add, Nat.add_zero, Nat.mul_zero]; done) | exact pk_sub (by omega) | (rw [pk_sub (by omega)]; first | done | (rw [nI_add]; done) | (rw [pk_sub (by omega)]; done) | (rw [pk_sub (by omega), nI_add]; done)) | (simp only [nI_add, pk_mul]; first | exact pk_sub (by omega) | (congr 1; omega)) | (congr 1; omega)) (by omega) (by omega) ?_
            refine pw_iload_n (pc := 164) dX1_read_164 rfl ?_
            refine pw_iconst (pc := 165) (nI 1) dX1_read_165 (by decide) ?_
            refine pw_iload (pc := 166) dX1_read_166 rfl ?_
            refine pw_ishl (pc := 168) dX1_read_168 ?_
            refine pw_ior (pc := 169) dX1_read_169 ?_
            refine pw_ist2 (pc := 170) dX1_read_170 (Nat.le_of_ble_eq_true rfl) rfl ?_
            refine pw_iinc3 (pc := 171) (nI (it + 1)) dX1_read_171 (Nat.le_of_ble_eq_true rfl) rfl (ni_inc _) ?_
            refine pw_goto (pc := 174) 24 dX1_read_174 (by decide) ?_
            refine ih (skB g sz (p2 + 1)) _ _ (it + 1) _ _ _ _ (by omega) (by omega) (by rw [ew] at hrd; exact hrd) (va_up_self _ _ _) (fun k hk => ?_) (fun q hq => by rw [va_up_ne _ _ hq]; exact hf q hq)
            by_cases e : k = w
            · subst e; rw [pk_us, pk_us]
            · rw [pk_un e, pk_un e]; exact hgd k hk
          · rw [if_pos z5] at hrd
            exact fail p2 h' _ _ _ _ hrd.symm ⟨gd, hd⟩ hf 139 (Or.inr (Or.inr (Or.inl rfl)))
        · have hc2 : numS g sz p1 < fLE w ∨ fMO w < numS g sz p1 := by
            right
            rw [i32_le] at z4
            rw [i32_lt]; omega
          rw [if_pos hc2] at hrd
          exact fail p1 h' _ _ _ _ hrd.symm ⟨gd, hd⟩ hf 110 (Or.inr (Or.inl rfl))
      · rw [if_pos (Or.inr z2)] at hrd
        exact fail p h' _ _ _ _ hrd.symm ⟨gd, hd⟩ hf 62 (Or.inl rfl)
  have ble : 0 ≤ skB g sz 0 ∧ skB g sz 0 ≤ 0 + (sz - 0) := aft_le blP g (sz - 0) 0
  refine PM.of [.ref a, .ref t, .null, .null, .null, .null, .null] rfl (Nat.le_of_ble_eq_true rfl) rfl ?_
  refine pw_getsN (pc := 0) (fun _ _ q => q.1.1) fn_9 dX1_read_0 ?_
  refine pw_iconst (pc := 3) (nI 0) dX1_read_3 (by decide) ?_
  refine pw_aload_n (pc := 4) dX1_read_4 rfl ?_
  refine pw_get (pc := 5) fg_X1_23 dX1_read_5 (by first | assumption | exact va_up_self _ _ _ | exact lk1 (by first | assumption | (apply Ne.symm; assumption) | (simp; done)) (by assumption) | exact lk1 (by first | assumption | (apply Ne.symm; assumption) | (simp; done)) (va_up_self _ _ _) | exact lk1 (by first | assumption | (apply Ne.symm; assumption) | (simp; done)) (lk1 (by first | assumption | (apply Ne.symm; assumption) | (simp; done)) (by assumption)) | exact lk1 (by first | assumption | (apply Ne.symm; assumption) | (simp; done)) (lk1 (by first | assumption | (apply Ne.symm; assumption) | (simp; done)) (va_up_self _ _ _)) | exact lk1 (by first | assumption | (apply Ne.symm; assumption) | (simp; done)) (lk1 (by first | assumption | (apply Ne.symm; assumption) | (simp; done)) (lk1 (by first | assumption | (apply Ne.symm; assumption) | (simp; done)) (by assumption))) | exact lk1 (by first | assumption | (apply Ne.symm; assumption) | (simp; done)) (lk1 (by first | assumption | (apply Ne.symm; assumption) | (simp; done)) (lk1 (by first | assumption | (apply Ne.symm; assumption) | (simp; done)) (va_up_self _ _ _))) | exact lk1 (by first | assumption | (apply Ne.symm; assumption) | (simp; done)) (lk1 (by first | assumption | (apply Ne.symm; assumption) | (simp; done)) (lk1 (by first | assumption | (apply Ne.symm; assumption) | (simp; done)) (lk1 (by first | assumption | (apply Ne.symm; assumption) | (simp; done)) (by assumption)))) | exact lk1 (by first | assumption | (apply Ne.symm; assumption) | (simp; done)) (lk1 (by first | assumption | (apply Ne.symm; assumption) | (simp; done)) (lk1 (by first | assumption | (apply Ne.symm; assumption) | (simp; done)) (lk1 (by first | assumption | (apply Ne.symm; assumption) | (simp; done)) (va_up_self _ _ _))))) (by first | rfl | assumption) ?_
  refine pw_iconst (pc := 8) (nI 0) dX1_read_8 (by decide) ?_
  refine pw_iconst (pc := 9) (nI 5) dX1_read_9 (by decide) ?_
  refine pw_copyX (pc := 10) (fun _ _ q => ⟨q.1.2.1, q.1.2.2⟩) 0 0 5 lk_X1_26 dX1_read_10 a2 rfl rfl rfl (by decide) (by decide) (by decide) (by decide) (Nat.le_of_ble_eq_true rfl) (Nat.le_of_ble_eq_true rfl) ?_
  have y2 := va_up_self h (a + 2) (some (.inl (0, 5, .inl (va_cpy fAT w2 0 0 5))) : Option PE)
  have yf : ∀ q, q ≠ a + 2 → va_up h (a + 2) (some (.inl (0, 5, .inl (va_cpy fAT w2 0 0 5)))) q = h q := fun q hq => va_up_ne _ _ hq
  generalize va_up h (a + 2) (some (.inl (0, 5, .inl (va_cpy fAT w2 0 0 5)))) = h1 at y2 yf
  have xt := (yf t d2).trans t1
  have hr' : txtAt h1 t b g sz := ⟨xt, (yf b d4).trans t2, t3⟩
  refine pw_iconst (pc := 13) (nI 0) dX1_read_13 (by decide) ?_
  refine pw_ist2 (pc := 14) dX1_read_14 (Nat.le_of_ble_eq_true rfl) rfl ?_
  refine pw_iconst (pc := 15) (nI 0) dX1_read_15 (by decide) ?_
  refine pw_ist3 (pc := 16) dX1_read_16 (Nat.le_of_ble_eq_true rfl) rfl ?_
  refine pw_aload_n (pc := 17) dX1_read_17 rfl ?_
  refine pw_iconst (pc := 18) (nI 0) dX1_read_18 (by decide) ?_
  refine pw_callV_i (pc := 19) cv_X1_32 dX1_read_19 (by first | assumption | exact va_up_self _ _ _ | exact lk1 (by first | assumption | (apply Ne.symm; assumption) | (simp; done)) (by assumption) | exact lk1 (by first | assumption | (apply Ne.symm; assumption) | (simp; done)) (va_up_self _ _ _) | exact lk1 (by first | assumption | (apply Ne.symm; assumption) | (simp; done)) (lk1 (by first | assumption | (apply Ne.symm; assumption) | (simp; done)) (by assumption)) | exact lk1 (by first | assumption | (apply Ne.symm; assumption) | (simp; done)) (lk1 (by first | assumption | (apply Ne.symm; assumption) | (simp; done)) (va_up_self _ _ _)) | exact lk1 (by first | assumption | (apply Ne.symm; assumption) | (simp; done)) (lk1 (by first | assumption | (apply Ne.symm; assumption) | (simp; done)) (lk1 (by first | assumption | (apply Ne.symm; assumption) | (simp; done)) (by assumption))) | exact lk1 (by first | assumption | (apply Ne.symm; assumption) | (simp; done)) (lk1 (by first | assumption | (apply Ne.symm; assumption) | (simp; done)) (lk1 (by first | assumption | (apply Ne.symm; assumption) | (simp; done)) (va_up_self _ _ _))) | exact lk1 (by first | assumption | (apply Ne.symm; assumption) | (simp; done)) (lk1 (by first | assumption | (apply Ne.symm; assumption) | (simp; done)) (lk1 (by first | assumption | (apply Ne.symm; assumption) | (simp; done)) (lk1 (by first | assumption | (apply Ne.symm; assumption) | (simp; done)) (by assumption)))) | exact lk1 (by first | assumption | (apply Ne.symm; assumption) | (simp; done)) (lk1 (by first | assumption | (apply Ne.symm; assumption) | (simp; done)) (lk1 (by first | assumption | (apply Ne.symm; assumption) | (simp; done)) (lk1 (by first | assumption | (apply Ne.symm; assumption) | (simp; done)) (va_up_self _ _ _))))) rfl (c_afterBlanks hr' 0 (by omega)) rfl rfl (Nat.le_of_ble_eq_true rfl) ⟨(Nat.le_of_ble_eq_true rfl), (Nat.le_of_ble_eq_true rfl)⟩ ?_
  refine pw_ist4 (pc := 22) dX1_read_22 (Nat.le_of_ble_eq_true rfl) rfl ?_
  refine loop 5 (skB g sz 0) (nI 0) fAT 0 _ h1 _ _ (by omega) (by omega) hRR.symm y2 (fun k hk => ?_) yf
  rw [pk_cpy_in (by omega) (by omega), Nat.zero_add, Nat.sub_zero]
end CM
theorem neg_10 {f : Nat} (h : f < 1000) : (-10 - nI f : Int32) < 0 := by
  rw [i32_lt, i32_0, Int32.toInt_sub, nI_toInt (by omega), show (-10 : Int32).toInt = -10 by decide, Int.bmod_eq_of_le] <;> omega
theorem rd_sg {g : Nat → Int32} {sz : Nat} (hz : sz ≤ 200) : ∀ q p dn (dr : Nat → Int32) it, p ≤ sz → q + it ≤ 5 → ((rdF g sz q p dn dr it).2 = none → (rdF g sz q p dn dr it).1 < 0) ∧ ∀ dr', (rdF g sz q p dn dr it).2 = some dr' → ¬ (rdF g sz q p dn dr it).1 < 0
  | 0, p, dn, dr, it, hp, hi => by
    rw [rdF]
    split
    · exact ⟨fun _ => neg_10 (by omega), fun _ h => (by cases h)⟩
    · exact ⟨fun h => (by cases h), fun _ _ => by rw [i32_lt, i32_0, nI_toInt (by omega)]; omega⟩
  | q + 1, p, dn, dr, it, hp, hi => by
    have lle : p ≤ alL g sz p ∧ alL g sz p ≤ p + (sz - p) := aft_le (rg 97 122) g (sz - p) p
    have ble1 : alL g sz p ≤ p1A g sz p ∧ p1A g sz p ≤ alL g sz p + (sz - alL g sz p) := aft_le blP g (sz - alL g sz p) (alL g sz p)
    have dle : p1A g sz p ≤ adD g sz (p1A g sz p) ∧ adD g sz (p1A g sz p) ≤ p1A g sz p + (sz - p1A g sz p) := aft_le (rg 48 57) g (sz - p1A g sz p) (p1A g sz p)
    have ble2 : adD g sz (p1A g sz p) ≤ p2A g sz p ∧ p2A g sz p ≤ adD g sz (p1A g sz p) + (sz - adD g sz (p1A g sz p)) := aft_le blP g (sz - adD g sz (p1A g sz p)) (adD g sz (p1A g sz p))
    rw [rdF]
    split
    · split
      · exact ⟨fun _ => neg_10 (by omega), fun _ h => (by cases h)⟩
      · split
        · exact ⟨fun _ => neg_10 (by omega), fun _ h => (by cases h)⟩
        · split
          · exact ⟨fun _ => neg_10 (by omega), fun _ h => (by cases h)⟩
          · rename_i hb
            have hb' : byA g sz (p2A g sz p) = nI 59 := Classical.byContradiction hb
            have hlt : p2A g sz p < sz := by
              rcases Nat.lt_or_ge (p2A g sz p) sz with q | q
              · exact q
              · rw [byA, if_neg (by omega)] at hb'; exact absurd hb' (by decide)
            have ble3 : p2A g sz p + 1 ≤ skB g sz (p2A g sz p + 1) ∧ skB g sz (p2A g sz p + 1) ≤ p2A g sz p + 1 + (sz - (p2A g sz p + 1)) := aft_le blP g (sz - (p2A g sz p + 1)) (p2A g sz p + 1)
            exact rd_sg hz q _ _ _ (it + 1) (by omega) (by omega)
    · exact ⟨fun h => (by cases h), fun _ _ => by rw [i32_lt, i32_0, nI_toInt (by omega)]; omega⟩
section CN
variable {E : EV} {h : HP} {n c : Nat} {S : AS}
theorem k_law (hc : clsP h c S) (hws : wfS S) : PM E mX7_law [.ref c] h n n 0 (QC c h (some (.int (a_law S))) (n_law S)) := by
  obtain ⟨c1, ⟨g, c2, k2⟩, c3, -⟩ := id hc
  have rdT := rd_T k2
  have c30 := c3.1
  have c20 := c2.1
  have sg := rd_sg (g := fun k => (sT S).getD k 0) hws.1 5 (skB (fun k => (sT S).getD k 0) (sT S).length 0) (nI 0) fAT 0 (by have : 0 ≤ skB (fun k => (sT S).getD k 0) (sT S).length 0 ∧ skB (fun k => (sT S).getD k 0) (sT S).length 0 ≤ 0 + ((sT S).length - 0) := aft_le blP _ _ 0; omega) (by omega)
  refine PM.of [.ref c, .null] rfl (Nat.le_of_ble_eq_true rfl) rfl ?_
  refine pw_aload_n (pc := 0) dX7_law_0 rfl ?_
  refine pw_get (pc := 1) fg_X7_19 dX7_law_1 (by first | assumption | exact va_up_self _ _ _ | exact lk1 (by first | assumption | (apply Ne.symm; assumption) | (simp; done)) (by assumption) | exact lk1 (by first | assumption | (apply Ne.symm; assumption) | (simp; done)) (va_up_self _ _ _) | exact lk1 (by first | assumption | (apply Ne.symm; assumption) | (simp; done)) (lk1 (by first | assumption | (apply Ne.symm; assumption) | (simp; done)) (by assumption)) | exact lk1 (by first | assumption | (apply Ne.symm; assumption) | (simp; done)) (lk1 (by first | assumption | (apply Ne.symm; assumption) | (simp; done)) (va_up_self _ _ _)) | exact lk1 (by first | assumption | (apply Ne.symm; assumption) | (simp; done)) (lk1 (by first | assumption | (apply Ne.symm; assumption) | (simp; done)) (lk1 (by first | assumption | (apply Ne.symm; assumption) | (simp; done)) (by assumption))) | exact lk1 (by first | assumption | (apply Ne.symm; assumption) | (simp; done)) (lk1 (by first | assumption | (apply Ne.symm; assumption) | (simp; done)) (lk1 (by first | assumption | (apply Ne.symm; assumption) | (simp; done)) (va_up_self _ _ _))) | exact lk1 (by first | assumption | (apply Ne.symm; assumption) | (simp; done)) (lk1 (by first | assumption | (apply Ne.symm; assumption) | (simp; done)) (lk1 (by first | assumption | (apply Ne.symm; assumption) | (simp; done)) (lk1 (by first | assumption | (apply Ne.symm; assumption) | (simp; done)) (by assumption)))) | exact lk1 (by first | assumption | (apply Ne.symm; assumption) | (simp; done)) (lk1 (by first | assumption | (apply Ne.symm; assumption) | (simp; done)) (lk1 (by first | assumption | (apply Ne.symm; assumption) | (simp; done)) (lk1 (by first | assumption | (apply Ne.symm; assumption) | (simp; done)) (va_up_self _ _ _))))) (by first | rfl | assumption) ?_
  refine pw_aload_n (pc := 4) dX7_law_4 rfl ?_
  refine pw_get (pc := 5) fg_X7_12 dX7_law_5 (by first | assumption | exact va_up_self _ _ _ | exact lk1 (by first | assumption | (apply Ne.symm; assumption) | (simp; done)) (by assumption) | exact lk1 (by first | assumption | (apply Ne.symm; assumption) | (simp; done)) (va_up_self _ _ _) | exact lk1 (by first | assumption | (apply Ne.symm; assumption) | (simp; done)) (lk1 (by first | assumption | (apply Ne.symm; assumption) | (simp; done)) (by assumption)) | exact lk1 (by first | assumption | (apply Ne.symm; assumption) | (simp; done)) (lk1 (by first | assumption | (apply Ne.symm; assumption) | (simp; done)) (va_up_self _ _ _)) | exact lk1 (by first | assumption | (apply Ne.symm; assumption) | (simp; done)) (lk1 (by first | assumption | (apply Ne.symm; assumption) | (simp; done)) (lk1 (by first | assumption | (apply Ne.symm; assumption) | (simp; done)) (by assumption))) | exact lk1 (by first | assumption | (apply Ne.symm; assumption) | (simp; done)) (lk1 (by first | assumption | (apply Ne.symm; assumption) | (simp; done)) (lk1 (by first | assumption | (apply Ne.symm; assumption) | (simp; done)) (va_up_self _ _ _))) | exact lk1 (by first | assumption | (apply Ne.symm; assumption) | (simp; done)) (lk1 (by first | assumption | (apply Ne.symm; assumption) | (simp; done)) (lk1 (by first | assumption | (apply Ne.symm; assumption) | (simp; done)) (lk1 (by first | assumption | (apply Ne.symm; assumption) | (simp; done)) (by assumption)))) | exact lk1 (by first | assumption | (apply Ne.symm; assumption) | (simp; done)) (lk1 (by first | assumption | (apply Ne.symm; assumption) | (simp; done)) (lk1 (by first | assumption | (apply Ne.symm; assumption) | (simp; done)) (lk1 (by first | assumption | (apply Ne.symm; assumption) | (simp; done)) (va_up_self _ _ _))))) (by first | rfl | assumption) ?_
  refine pw_callV (pc := 8) cv_X7_79 dX7_law_8 (by first | assumption | exact va_up_self _ _ _ | exact lk1 (by first | assumption | (apply Ne.symm; assumption) | (simp; done)) (by assumption) | exact lk1 (by first | assumption | (apply Ne.symm; assumption) | (simp; done)) (va_up_self _ _ _) | exact lk1 (by first | assumption | (apply Ne.symm; assumption) | (simp; done)) (lk1 (by first | assumption | (apply Ne.symm; assumption) | (simp; done)) (by assumption)) | exact lk1 (by first | assumption | (apply Ne.symm; assumption) | (simp; done)) (lk1 (by first | assumption | (apply Ne.symm; assumption) | (simp; done)) (va_up_self _ _ _)) | exact lk1 (by first | assumption | (apply Ne.symm; assumption) | (simp; done)) (lk1 (by first | assumption | (apply Ne.symm; assumption) | (simp; done)) (lk1 (by first | assumption | (apply Ne.symm; assumption) | (simp; done)) (by assumption))) | exact lk1 (by first | assumption | (apply Ne.symm; assumption) | (simp; done)) (lk1 (by first | assumption | (apply Ne.symm; assumption) | (simp; done)) (lk1 (by first | assumption | (apply Ne.symm; assumption) | (simp; done)) (va_up_self _ _ _))) | exact lk1 (by first | assumption | (apply Ne.symm; assumption) | (simp; done)) (lk1 (by first | assumption | (apply Ne.symm; assumption) | (simp; done)) (lk1 (by first | assumption | (apply Ne.symm; assumption) | (simp; done)) (lk1 (by first | assumption | (apply Ne.symm; assumption) | (simp; done)) (by assumption)))) | exact lk1 (by first | assumption | (apply Ne.symm; assumption) | (simp; done)) (lk1 (by first | assumption | (apply Ne.symm; assumption) | (simp; done)) (lk1 (by first | assumption | (apply Ne.symm; assumption) | (simp; done)) (lk1 (by first | assumption | (apply Ne.symm; assumption) | (simp; done)) (va_up_self _ _ _))))) rfl (c_lawRead c3 c2 (by omega) (by omega) (by omega) (by omega)) rfl rfl (Nat.le_of_ble_eq_true rfl) ⟨(Nat.le_of_ble_eq_true rfl), (Nat.le_of_ble_eq_true rfl)⟩ (Nat.le_refl _) (Nat.le_refl _) (Nat.zero_le _) (fun v h' q => ?_)
  obtain ⟨rfl, l1, lf⟩ := q
  rw [rdT] at l1 ⊢
  have ho : only h h' (c + 3) (c + 6) := fun q hq => lf q (by omega) (by omega)
  have x1 := (lf c (by omega) (by omega)).trans c1
  refine pw_ist1 (pc := 11) dX7_law_11 (Nat.le_of_ble_eq_true rfl) rfl ?_
  refine pw_iload_n (pc := 12) dX7_law_12 rfl ?_
  cases e2 : (lawR (sT S)).2 with
  | none =>
    refine pw_if_lt (pc := 13) 24 dX7_law_13 (by decide) (fun _ => ?_) (fun z => absurd (sg.1 e2) z)
    refine pw_iload_n (pc := 24) dX7_law_24 rfl ?_
    refine pw_iret dX7_law_25 rfl ⟨rfl, ?_, ho.sub (by omega) (by omega)⟩
    rw [e2] at l1
    rw [n_law, e2]
    exact hc.upW ho l1
  | some dr =>
    refine pw_if_lt (pc := 13) 24 dX7_law_13 (by decide) (fun z => absurd z (sg.2 dr e2)) (fun _ => ?_)
    have c2' : txtAt h' (c + 1) (c + 1 + 1) g (sT S).length := ⟨(lf _ (by omega) (by omega)).trans c2.1, (lf _ (by omega) (by omega)).trans c2.2.1, c2.2.2⟩
    have c20' := c2'.1
    rw [e2] at l1
    refine pw_aload_n (pc := 16) dX7_law_16 rfl ?_
    refine pw_get (pc := 17) fg_X7_12 dX7_law_17 (by first | assumption | exact va_up_self _ _ _ | exact lk1 (by first | assumption | (apply Ne.symm; assumption) | (simp; done)) (by assumption) | exact lk1 (by first | assumption | (apply Ne.symm; assumption) | (simp; done)) (va_up_self _ _ _) | exact lk1 (by first | assumption | (apply Ne.symm; assumption) | (simp; done)) (lk1 (by first | assumption | (apply Ne.symm; assumption) | (simp; done)) (by assumption)) | exact lk1 (by first | assumption | (apply Ne.symm; assumption) | (simp; done)) (lk1 (by first | assumption | (apply Ne.symm; assumption) | (simp; done)) (va_up_self _ _ _)) | exact lk1 (by first | assumption | (apply Ne.symm; assumption) | (simp; done)) (lk1 (by first | assumption | (apply Ne.symm; assumption) | (simp; done)) (lk1 (by first | assumption | (apply Ne.symm; assumption) | (simp; done)) (by assumption))) | exact lk1 (by first | assumption | (apply Ne.symm; assumption) | (simp; done)) (lk1 (by first | assumption | (apply Ne.symm; assumption) | (simp; done)) (lk1 (by first | assumption | (apply Ne.symm; assumption) | (simp; done)) (va_up_self _ _ _))) | exact lk1 (by first | assumption | (apply Ne.symm; assumption) | (simp; done)) (lk1 (by first | assumption | (apply Ne.symm; assumption) | (simp; done)) (lk1 (by first | assumption | (apply Ne.symm; assumption) | (simp; done)) (lk1 (by first | assumption | (apply Ne.symm; assumption) | (simp; done)) (by assumption)))) | exact lk1 (by first | assumption | (apply Ne.symm; assumption) | (simp; done)) (lk1 (by first | assumption | (apply Ne.symm; assumption) | (simp; done)) (lk1 (by first | assumption | (apply Ne.symm; assumption) | (simp; done)) (lk1 (by first | assumption | (apply Ne.symm; assumption) | (simp; done)) (va_up_self _ _ _))))) (by first | rfl | assumption) ?_
    refine pw_callV_i (pc := 20) cv_X7_75 dX7_law_20 (by first | assumption | exact va_up_self _ _ _ | exact lk1 (by first | assumption | (apply Ne.symm; assumption) | (simp; done)) (by assumption) | exact lk1 (by first | assumption | (apply Ne.symm; assumption) | (simp; done)) (va_up_self _ _ _) | exact lk1 (by first | assumption | (apply Ne.symm; assumption) | (simp; done)) (lk1 (by first | assumption | (apply Ne.symm; assumption) | (simp; done)) (by assumption)) | exact lk1 (by first | assumption | (apply Ne.symm; assumption) | (simp; done)) (lk1 (by first | assumption | (apply Ne.symm; assumption) | (simp; done)) (va_up_self _ _ _)) | exact lk1 (by first | assumption | (apply Ne.symm; assumption) | (simp; done)) (lk1 (by first | assumption | (apply Ne.symm; assumption) | (simp; done)) (lk1 (by first | assumption | (apply Ne.symm; assumption) | (simp; done)) (by assumption))) | exact lk1 (by first | assumption | (apply Ne.symm; assumption) | (simp; done)) (lk1 (by first | assumption | (apply Ne.symm; assumption) | (simp; done)) (lk1 (by first | assumption | (apply Ne.symm; assumption) | (simp; done)) (va_up_self _ _ _))) | exact lk1 (by first | assumption | (apply Ne.symm; assumption) | (simp; done)) (lk1 (by first | assumption | (apply Ne.symm; assumption) | (simp; done)) (lk1 (by first | assumption | (apply Ne.symm; assumption) | (simp; done)) (lk1 (by first | assumption | (apply Ne.symm; assumption) | (simp; done)) (by assumption)))) | exact lk1 (by first | assumption | (apply Ne.symm; assumption) | (simp; done)) (lk1 (by first | assumption | (apply Ne.symm; assumption) | (simp; done)) (lk1 (by first | assumption | (apply Ne.symm; assumption) | (simp; done)) (lk1 (by first | assumption | (apply Ne.symm; assumption) | (simp; done)) (va_up_self _ _ _))))) rfl (c_empty c2') rfl rfl (Nat.le_of_ble_eq_true rfl) ⟨(Nat.le_of_ble_eq_true rfl), (Nat.le_of_ble_eq_true rfl)⟩ ?_
    refine pw_pop (pc := 23) dX7_law_23 rfl ?_
    refine pw_iload_n (pc := 24) dX7_law_24 rfl ?_
    have hc1 := hc.upW ho l1
    refine pw_iret dX7_law_25 rfl ⟨rfl, ?_, ?_⟩
    · rw [n_law, e2]
      exact hc1.upT (T := []) (only.up only.rfl (by omega) (by omega)) ⟨g, ⟨va_up_self _ _ _, lk1 (by omega) c2'.2.1, by simp⟩, fun k hk => absurd hk (Nat.not_lt_zero k)⟩
    · exact (ho.sub (by omega) (by omega)).trans (only.up only.rfl (by omega) (by omega))
end CN
