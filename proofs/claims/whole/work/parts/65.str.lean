/-! texts, and the law's words -/
theorem fl_38 : Cond.fieldLink RJ0 38 RJ0 "COMPACT_STRINGS" "Z" ∈ tbl := tb 284 (by decide +kernel) rfl
theorem fl_15 : Cond.fieldLink RJ0 15 "java/lang/String" "coder" "B" ∈ tbl := tb 1026 (by decide +kernel) rfl
theorem fl_9 : Cond.fieldLink RJ0 9 "java/lang/String" "value" "[B" ∈ tbl := tb 1025 (by decide +kernel) rfl
theorem fl_1053 : Cond.fieldLink RJ0 1053 RJ3 "SIOOBE_FORMATTER" "Ljava/util/function/BiFunction;" ∈ tbl := tb 300 (by decide +kernel) rfl
section ST
variable {E : EV} {h : HP} {n : Nat}
theorem c_coder (i : Nat) (hi : i < 5) : PM E mJ0_coder_7d493 [.ref (eX E (10 + i))] h n n 0 (QE (some (.int 0)) h) := by
  refine PM.of [.ref (eX E (10 + i))] rfl (Nat.le_of_ble_eq_true rfl) rfl ?_
  refine pw_gets (pc := 0) (fun _ _ q => q.2.2.2.1.1) fl_38 dJ0_coder_7d493_0 ?_
  refine pw_if_eq (pc := 3) 13 dJ0_coder_7d493_3 (by decide) (fun z => absurd z (by decide)) (fun _ => ?_)
  refine pw_aload_n (pc := 6) dJ0_coder_7d493_6 rfl ?_
  refine pw_getF (pc := 7) (fun _ _ q => (q.2.2.2.2.1.1 i hi).2.1) fl_15 dJ0_coder_7d493_7 ?_
  refine pw_goto (pc := 10) 14 dJ0_coder_7d493_10 (by decide) ?_
  exact pw_zret dJ0_coder_7d493_14 rfl (by decide) ⟨rfl, rfl⟩
theorem c_isLatin1 (i : Nat) (hi : i < 5) : PM E mJ0_isLatin1_aae02 [.ref (eX E (10 + i))] h n n 0 (QE (some (.int (nI 1))) h) := by
  refine PM.of [.ref (eX E (10 + i))] rfl (Nat.le_of_ble_eq_true rfl) rfl ?_
  refine pw_gets (pc := 0) (fun _ _ q => q.2.2.2.1.1) fl_38 dJ0_isLatin1_aae02_0 ?_
  refine pw_if_eq (pc := 3) 17 dJ0_isLatin1_aae02_3 (by decide) (fun z => absurd z (by decide)) (fun _ => ?_)
  refine pw_aload_n (pc := 6) dJ0_isLatin1_aae02_6 rfl ?_
  refine pw_getF (pc := 7) (fun _ _ q => (q.2.2.2.2.1.1 i hi).2.1) fl_15 dJ0_isLatin1_aae02_7 ?_
  refine pw_if_ne (pc := 10) 17 dJ0_isLatin1_aae02_10 (by decide) (fun z => absurd rfl z) (fun _ => ?_)
  refine pw_iconst (pc := 13) (nI 1) dJ0_isLatin1_aae02_13 (by decide) ?_
  refine pw_goto (pc := 14) 18 dJ0_isLatin1_aae02_14 (by decide) ?_
  exact pw_zret dJ0_isLatin1_aae02_18 rfl (by decide) ⟨rfl, rfl⟩
theorem c_length (i : Nat) (hi : i < 5) : PM E mJ0_length_8abf5 [.ref (eX E (10 + i))] h n n 0 (QE (some (.int (nI (kLe i)))) h) := by
  have k0 : nI (kLe i) >>> ((0 : Int32) &&& 31) = nI (kLe i) := (by decide : ∀ i : Fin 5, nI (kLe i.1) >>> ((0 : Int32) &&& 31) = nI (kLe i.1)) ⟨i, hi⟩
  refine PM.of [.ref (eX E (10 + i))] rfl (Nat.le_of_ble_eq_true rfl) rfl ?_
  refine pw_aload_n (pc := 0) dJ0_length_8abf5_0 rfl ?_
  refine pw_getF (pc := 1) (fun _ _ q => (q.2.2.2.2.1.1 i hi).2.2.1) fl_9 dJ0_length_8abf5_1 ?_
  refine pw_tlen (pc := 4) (fun _ _ q => (q.2.2.2.2.1.1 i hi).2.2.2) dJ0_length_8abf5_4 ?_
  refine pw_aload_n (pc := 5) dJ0_length_8abf5_5 rfl ?_
  refine pw_callT (pc := 6) hi cv_J0_335 dJ0_length_8abf5_6 rfl (c_coder i hi) rfl rfl (Nat.le_of_ble_eq_true rfl) ⟨(Nat.le_of_ble_eq_true rfl), (Nat.le_of_ble_eq_true rfl)⟩ (Nat.le_refl _) (Nat.le_refl _) (Nat.zero_le _) (fun v h' q => ?_)
  obtain ⟨rfl, rfl⟩ := q
  refine pw_ishr (pc := 9) dJ0_length_8abf5_9 ?_
  rw [show nI (kLen.getD i 0) = nI (kLe i) from rfl, k0]
  exact pw_iret dJ0_length_8abf5_10 rfl ⟨rfl, rfl⟩
theorem c_pcheck (k N : Nat) (hk : k < N) (hN : N < 1000) (v : Value) (hv : v = .null ∨ ∃ t, v = .ref t) : PM E mJ3_checkIndex_8e157 [.int (nI k), .int (nI N), v] h n n 0 (QE (some (.int (nI k))) h) := by
  have body : ∀ w, PW (KX E mJ3_checkIndex_8e157 n (QE (some (.int (nI k))) h)) 0 [.int (nI k), .int (nI N), w] [] h n 0 := by
    intro w
    refine pw_iload_n (pc := 0) dJ3_checkIndex_8e157_0 rfl ?_
    refine pw_if_lt (pc := 1) 9 dJ3_checkIndex_8e157_1 (by decide) (fun z => ?_) (fun _ => ?_)
    · rw [i32_lt, i32_0, nI_toInt (by omega)] at z; omega
    refine pw_iload_n (pc := 4) dJ3_checkIndex_8e157_4 rfl ?_
    refine pw_iload_n (pc := 5) dJ3_checkIndex_8e157_5 rfl ?_
    refine pw_icmp_lt_n (pc := 6) 16 dJ3_checkIndex_8e157_6 (by decide) (by omega) (by omega) (fun _ => ?_) (fun z => by omega)
    refine pw_iload_n (pc := 16) dJ3_checkIndex_8e157_16 rfl ?_
    exact pw_iret dJ3_checkIndex_8e157_17 rfl ⟨rfl, rfl⟩
  rcases hv with rfl | ⟨t, rfl⟩
  · refine PM.of [.int (nI k), .int (nI N), .null] rfl (Nat.le_of_ble_eq_true rfl) rfl ?_
    exact body .null
  · refine PM.of [.int (nI k), .int (nI N), .ref t] rfl (Nat.le_of_ble_eq_true rfl) rfl ?_
    exact body (.ref t)
theorem c_scheck (k N : Nat) (hk : k < N) (hN : N < 1000) : PM E mJ0_checkIndex_df160 [.int (nI k), .int (nI N)] h n n 0 (QE none h) := by
  have go : ∀ v, (v = .null ∨ ∃ t, v = .ref t) → PW (KX E mJ0_checkIndex_df160 n (QE none h)) 5 [.int (nI k), .int (nI N)] [v, .int (nI N), .int (nI k)] h n 0 := by
    intro v hv
    refine pw_callS (pc := 5) cs_J0_1059 dJ0_checkIndex_df160_5 (c_pcheck k N hk hN v hv) rfl rfl (Nat.le_of_ble_eq_true rfl) ⟨(Nat.le_of_ble_eq_true rfl), (Nat.le_of_ble_eq_true rfl)⟩ (Nat.le_refl _) (Nat.le_refl _) (Nat.zero_le _) (fun v h' q => ?_)
    obtain ⟨rfl, rfl⟩ := q
    refine pw_pop (pc := 8) dJ0_checkIndex_df160_8 rfl ?_
    exact pw_vret dJ0_checkIndex_df160_9 rfl ⟨rfl, rfl⟩
  refine PM.of [.int (nI k), .int (nI N)] rfl (Nat.le_of_ble_eq_true rfl) rfl ?_
  refine pw_iload_n (pc := 0) dJ0_checkIndex_df160_0 rfl ?_
  refine pw_iload_n (pc := 1) dJ0_checkIndex_df160_1 rfl ?_
  exact pw_getq (pc := 2) (fun _ _ q => q.2.2.2.1.2) fl_1053 dJ0_checkIndex_df160_2 (go .null (Or.inl rfl)) (fun t => go (.ref t) (Or.inr ⟨t, rfl⟩))
theorem kLe_lt {i : Nat} (hi : i < 5) : kLe i < 10 := (by decide : ∀ i : Fin 5, kLe i.1 < 10) ⟨i, hi⟩
theorem kBy_c {i k : Nat} (hi : i < 5) (hk : k < kLe i) : ((kBy i k &&& nI 255).toUInt32 % 65536).toInt32 = kBy i k ∧ narrow .char (.int (kBy i k)) = .int (kBy i k) := by
  have := kLe_lt hi
  have key : ∀ i : Fin 5, ∀ k : Fin 10, k.1 < kLe i.1 → ((kBy i.1 k.1 &&& nI 255).toUInt32 % 65536).toInt32 = kBy i.1 k.1 ∧ narrow .char (.int (kBy i.1 k.1)) = .int (kBy i.1 k.1) := by decide
  exact key ⟨i, hi⟩ ⟨k, by omega⟩ hk
theorem c_lcharAt (i k : Nat) (hi : i < 5) (hk : k < kLe i) : PM E mJ1_charAt_3b067 [.ref (eX E (20 + i)), .int (nI k)] h n n 0 (QE (some (.int (kBy i k))) h) := by
  have hl := kLe_lt hi
  refine PM.of [.ref (eX E (20 + i)), .int (nI k)] rfl (Nat.le_of_ble_eq_true rfl) rfl ?_
  refine pw_iload_n (pc := 0) dJ1_charAt_3b067_0 rfl ?_
  refine pw_aload_n (pc := 1) dJ1_charAt_3b067_1 rfl ?_
  refine pw_tlen (pc := 2) (fun _ _ q => (q.2.2.2.2.1.1 i hi).2.2.2) dJ1_charAt_3b067_2 ?_
  refine pw_callS (pc := 3) cs_J1_9 dJ1_charAt_3b067_3 (c_scheck k (kLe i) hk (by omega)) rfl rfl (Nat.le_of_ble_eq_true rfl) ⟨(Nat.le_of_ble_eq_true rfl), (Nat.le_of_ble_eq_true rfl)⟩ (Nat.le_refl _) (Nat.le_refl _) (Nat.zero_le _) (fun v h' q => ?_)
  obtain ⟨rfl, rfl⟩ := q
  refine pw_aload_n (pc := 6) dJ1_charAt_3b067_6 rfl ?_
  refine pw_iload_n (pc := 7) dJ1_charAt_3b067_7 rfl ?_
  refine pw_tb (pc := 8) (fun _ _ q => (q.2.2.2.2.1.1 i hi).2.2.2) hk (Nat.lt_trans hl (by decide)) (v := .int (kBy i k)) rfl dJ1_charAt_3b067_8 ?_
  refine pw_sipush (pc := 9) (nI 255) dJ1_charAt_3b067_9 (by decide) ?_
  refine pw_iand (pc := 12) dJ1_charAt_3b067_12 ?_
  refine pw_i2c (pc := 13) dJ1_charAt_3b067_13 ?_
  rw [(kBy_c hi hk).1]
  exact pw_zret dJ1_charAt_3b067_14 rfl (kBy_c hi hk).2 ⟨rfl, rfl⟩
theorem c_charAt (i k : Nat) (hi : i < 5) (hk : k < kLe i) : PM E mJ0_charAt_5068e [.ref (eX E (10 + i)), .int (nI k)] h n n 0 (QE (some (.int (kBy i k))) h) := by
  refine PM.of [.ref (eX E (10 + i)), .int (nI k)] rfl (Nat.le_of_ble_eq_true rfl) rfl ?_
  refine pw_aload_n (pc := 0) dJ0_charAt_5068e_0 rfl ?_
  refine pw_callT (pc := 1) hi cv_J0_492 dJ0_charAt_5068e_1 rfl (c_isLatin1 i hi) rfl rfl (Nat.le_of_ble_eq_true rfl) ⟨(Nat.le_of_ble_eq_true rfl), (Nat.le_of_ble_eq_true rfl)⟩ (Nat.le_refl _) (Nat.le_refl _) (Nat.zero_le _) (fun v h' q => ?_)
  obtain ⟨rfl, rfl⟩ := q
  refine pw_if_eq (pc := 4) 16 dJ0_charAt_5068e_4 (by decide) (fun z => absurd z (by decide)) (fun _ => ?_)
  refine pw_aload_n (pc := 7) dJ0_charAt_5068e_7 rfl ?_
  refine pw_getF (pc := 8) (fun _ _ q => (q.2.2.2.2.1.1 i hi).2.2.1) fl_9 dJ0_charAt_5068e_8 ?_
  refine pw_iload_n (pc := 11) dJ0_charAt_5068e_11 rfl ?_
  refine pw_callS_i (pc := 12) cs_J0_495 dJ0_charAt_5068e_12 (c_lcharAt i k hi hk) rfl rfl (Nat.le_of_ble_eq_true rfl) ⟨(Nat.le_of_ble_eq_true rfl), (Nat.le_of_ble_eq_true rfl)⟩ ?_
  exact pw_zret dJ0_charAt_5068e_15 rfl (kBy_c hi hk).2 ⟨rfl, rfl⟩
theorem c_wordOf (i : Nat) (hi : i < 5) : PM E mX1_wordOf [.int (nI i)] h n n 0 (QE (some (.ref (eX E (10 + i)))) h) := by
  refine PM.of [.int (nI i)] rfl (Nat.le_of_ble_eq_true rfl) rfl ?_
  refine pw_iload_n (pc := 0) dX1_wordOf_0 rfl ?_
  have hh : i = 0 ∨ i = 1 ∨ i = 2 ∨ i = 3 ∨ i = 4 := by omega
  rcases hh with rfl | rfl | rfl | rfl | rfl
  · refine pw_tabIn (pc := 1) 32 dX1_wordOf_1 (by decide) (by decide) rfl (by decide) ?_
    refine pw_ldcS (pc := 32) (fun _ q => q.2.2.2.2.1) dX1_wordOf_32 ?_
    exact pw_aret dX1_wordOf_34 rfl ⟨rfl, rfl⟩
  · refine pw_tabIn (pc := 1) 35 dX1_wordOf_1 (by decide) (by decide) rfl (by decide) ?_
    refine pw_ldcS (pc := 35) (fun _ q => q.2.2.2.2.2.1) dX1_wordOf_35 ?_
    exact pw_aret dX1_wordOf_37 rfl ⟨rfl, rfl⟩
  · refine pw_tabIn (pc := 1) 38 dX1_wordOf_1 (by decide) (by decide) rfl (by decide) ?_
    refine pw_ldcS (pc := 38) (fun _ q => q.2.2.2.2.2.2.1) dX1_wordOf_38 ?_
    exact pw_aret dX1_wordOf_40 rfl ⟨rfl, rfl⟩
  · refine pw_tabIn (pc := 1) 41 dX1_wordOf_1 (by decide) (by decide) rfl (by decide) ?_
    refine pw_ldcS (pc := 41) (fun _ q => q.2.2.2.2.2.2.2.1) dX1_wordOf_41 ?_
    exact pw_aret dX1_wordOf_43 rfl ⟨rfl, rfl⟩
  · refine pw_tabOut (pc := 1) 44 dX1_wordOf_1 (by decide) (by decide) ?_
    refine pw_ldcS (pc := 44) (fun _ q => q.2.2.2.2.2.2.2.2) dX1_wordOf_44 ?_
    exact pw_aret dX1_wordOf_46 rfl ⟨rfl, rfl⟩
end ST
