theorem tyM (v : Int64) (k : Nat) (hk : k < 8) : ((v >>> ((nI 8 * nI k).toInt64 &&& 63)) &&& 255).toInt32 = tyB v k := by
  have key : ∀ (s : Nat), s ≤ 56 → (BitVec.sshiftRight v.toBitVec s &&& 255#64).setWidth 32 = (v.toBitVec >>> s).setWidth 32 &&& 255#32 := by
    intro s hs
    apply BitVec.eq_of_getLsbD_eq
    intro i hi
    have e1 : (255#32).getLsbD i = decide (i < 8) := (by decide : ∀ i : Fin 32, (255#32).getLsbD i.1 = decide (i.1 < 8)) ⟨i, hi⟩
    have e2 : (255#64).getLsbD i = decide (i < 8) := (by decide : ∀ i : Fin 32, (255#64).getLsbD i.1 = decide (i.1 < 8)) ⟨i, hi⟩
    rw [BitVec.getLsbD_setWidth, BitVec.getLsbD_and, BitVec.getLsbD_and, BitVec.getLsbD_setWidth, e1, e2, BitVec.getLsbD_sshiftRight, BitVec.getLsbD_ushiftRight]
    by_cases h8 : i < 8
    · have q1 : s + i < 64 := by omega
      have q2 : ¬ 64 ≤ i := by omega
      simp [h8, q1, q2, hi]
    · simp [h8]
  have key2 : ∀ (a : Int64) (b : UInt64) (s : Nat), s ≤ 56 → (a.toBitVec.smod 64).toNat = s → (b.toBitVec % 64).toNat = s → ((v >>> a) &&& 255).toInt32 = ((v.toUInt64 >>> b).toInt64).toInt32 &&& nI 255 := by
    intro a b s hs ha hb
    apply Int32.toBitVec_inj.mp
    rw [Int64.toBitVec_toInt32, Int64.toBitVec_and, Int64.toBitVec_shiftRight, Int32.toBitVec_and, Int64.toBitVec_toInt32, UInt64.toBitVec_toInt64, UInt64.toBitVec_shiftRight, Int64.toBitVec_toUInt64]
    have := key s hs
    rw [show v.toBitVec.sshiftRight' (a.toBitVec.smod 64) = v.toBitVec.sshiftRight s from by rw [← ha]; rfl]
    rw [show v.toBitVec >>> (b.toBitVec % 64) = v.toBitVec >>> s from by rw [← hb]; rfl]
    rw [BitVec.signExtend_eq_setWidth_of_le _ (by decide), BitVec.signExtend_eq_setWidth_of_le _ (by decide)]
    exact this
  rcases (show k = 0 ∨ k = 1 ∨ k = 2 ∨ k = 3 ∨ k = 4 ∨ k = 5 ∨ k = 6 ∨ k = 7 by omega) with rfl | rfl | rfl | rfl | rfl | rfl | rfl | rfl
  · exact key2 _ _ 0 (by decide) (by decide) (by decide)
  · exact key2 _ _ 8 (by decide) (by decide) (by decide)
  · exact key2 _ _ 16 (by decide) (by decide) (by decide)
  · exact key2 _ _ 24 (by decide) (by decide) (by decide)
  · exact key2 _ _ 32 (by decide) (by decide) (by decide)
  · exact key2 _ _ 40 (by decide) (by decide) (by decide)
  · exact key2 _ _ 48 (by decide) (by decide) (by decide)
  · exact key2 _ _ 56 (by decide) (by decide) (by decide)
theorem mArr.setT {h h' : HP} {m : Nat} {S : AS} {g : Nat → Int32} {T : List Int32} (p : mArr h m S) (he : ∀ q, m < q → q < m + 13 → q ≠ m + 5 → h' q = h q) (h1 : h' (m + 5) = some (.inl (0, 200, .inl g))) (h2 : holdsL g 0 T) : mArr h' m (setT S T) := by
  obtain ⟨⟨g1, a1, b1⟩, ⟨g2, a2, b2⟩, ⟨g3, a3, b3⟩, ⟨g4, a4, b4⟩, ⟨g5, a5, b5⟩, ⟨g6, a6⟩, ⟨g7, a7⟩, ⟨g8, a8, b8⟩, ⟨g9, a9⟩, ⟨g10, a10⟩, ⟨g11, a11⟩, g12, a12⟩ := p
  exact ⟨⟨g1, (he _ (by omega) (by omega) (by omega)).trans a1, b1⟩, ⟨g2, (he _ (by omega) (by omega) (by omega)).trans a2, b2⟩, ⟨g3, (he _ (by omega) (by omega) (by omega)).trans a3, b3⟩, ⟨g4, (he _ (by omega) (by omega) (by omega)).trans a4, b4⟩, ⟨g, h1, h2⟩, ⟨g6, (he _ (by omega) (by omega) (by omega)).trans a6⟩, ⟨g7, (he _ (by omega) (by omega) (by omega)).trans a7⟩, ⟨g8, (he _ (by omega) (by omega) (by omega)).trans a8, b8⟩, ⟨g9, (he _ (by omega) (by omega) (by omega)).trans a9⟩, ⟨g10, (he _ (by omega) (by omega) (by omega)).trans a10⟩, ⟨g11, (he _ (by omega) (by omega) (by omega)).trans a11⟩, g12, (he _ (by omega) (by omega) (by omega)).trans a12⟩
section M6
variable {E : EV} {h : HP} {n m : Nat} {S : AS}
theorem o_type (hm : modP h m S) (hw : wfS S) (v : Int64) (x : Int32) : PM E mX8_type [.ref m, .long v, .int x] h n n 0 (QM m h (some (.int (a_type S v x))) (n_type S v x)) := by
  obtain ⟨⟨th, nx, tk, pl, vl, ft, sz, nm, m0⟩, ma⟩ := id hm
  obtain ⟨b1, b2, b3, b4, ⟨gt, q5, k5⟩, -⟩ := id ma
  have hT := hw.1
  have loop : ∀ (p : Nat) h' T' (z : Int32) g', rg 1 8 x = true → (sT S).length + ixN x ≤ 200 → h' m = some (.inr (8, mob m (nI 0) (sQ S) (nI T'.length) nx tk pl vl ft (sLo S) (sHi S) sz nm)) → h' (m + 5) = some (.inl (0, 200, .inl g')) → holdsL g' 0 T' → (∀ q, q ≠ m → q ≠ m + 5 → h' q = h q) → T'.length + p = (sT S).length + ixN x → T' ++ tyL v p = sT S ++ tyL v (ixN x) → p ≤ 8 → z.toInt = (p : Int) - 1 → PW (KX E mX8_type n (QM m h (some (.int (a_type S v x))) (n_type S v x))) 37 [.ref m, .long v, .null, .int x, .int z] [] h' n 0 := by
    intro p
    induction p with
    | zero =>
      intro h' T' z g' hx hle u0 u5 hT' hf hl he hp hz
      refine pw_iload (pc := 37) dX8_type_37 rfl ?_
      refine pw_ift_lt (pc := 39) 79 dX8_type_39 (by decide) (by rw [i32_lt, i32_0]; omega) ?_
      refine pw_aload_n (pc := 79) dX8_type_79 rfl ?_
      refine pw_get (pc := 80) fg_X8_76 dX8_type_80 (by first | assumption | exact va_up_self _ _ _ | exact lk1 (by first | assumption | (apply Ne.symm; assumption) | (simp; done)) (by assumption) | exact lk1 (by first | assumption | (apply Ne.symm; assumption) | (simp; done)) (va_up_self _ _ _) | exact lk1 (by first | assumption | (apply Ne.symm; assumption) | (simp; done)) (lk1 (by first | assumption | (apply Ne.symm; assumption) | (simp; done)) (by assumption)) | exact lk1 (by first | assumption | (apply Ne.symm; assumption) | (simp; done)) (lk1 (by first | assumption | (apply Ne.symm; assumption) | (simp; done)) (va_up_self _ _ _)) | exact lk1 (by first | assumption | (apply Ne.symm; assumption) | (simp; done)) (lk1 (by first | assumption | (apply Ne.symm; assumption) | (simp; done)) (lk1 (by first | assumption | (apply Ne.symm; assumption) | (simp; done)) (by assumption))) | exact lk1 (by first | assumption | (apply Ne.symm; assumption) | (simp; done)) (lk1 (by first | assumption | (apply Ne.symm; assumption) | (simp; done)) (lk1 (by first | assumption | (apply Ne.symm; assumption) | (simp; done)) (va_up_self _ _ _))) | exact lk1 (by first | assumption | (apply Ne.symm; assumption) | (simp; done)) (lk1 (by first | assumption | (apply Ne.symm; assumption) | (simp; done)) (lk1 (by first | assumption | (apply Ne.symm; assumption) | (simp; done)) (lk1 (by first | assumption | (apply Ne.symm; assumption) | (simp; done)) (by assumption)))) | exact lk1 (by first | assumption | (apply Ne.symm; assumption) | (simp; done)) (lk1 (by first | assumption | (apply Ne.symm; assumption) | (simp; done)) (lk1 (by first | assumption | (apply Ne.symm; assumption) | (simp; done)) (lk1 (by first | assumption | (apply Ne.symm; assumption) | (simp; done)) (va_up_self _ _ _))))) (by first | rfl | assumption) ?_
      refine pw_iret dX8_type_83 rfl ⟨?_, ?_, fun q hq => hf q (by omega) (by omega)⟩
      · rw [a_type, hx, if_pos rfl, if_pos hle]; congr 3
      · rw [n_type, if_pos ⟨hx, hle⟩, ← he]
        simp only [tyL, List.append_nil]
        exact ⟨⟨_, _, _, _, _, _, _, _, u0⟩, ma.setT (fun q h1 h2 h3 => hf q (by omega) h3) u5 hT'⟩
    | succ p ih =>
      intro h' T' z g' hx hle u0 u5 hT' hf hl he hp hz
      obtain rfl : z = nI p := by rw [i32_eq, nI_toInt (by omega), hz]; omega
      refine pw_iload (pc := 37) dX8_type_37 rfl ?_
      refine pw_if_lt_n (pc := 39) 79 dX8_type_39 (by decide) (by omega) ?_
      refine pw_aload_n (pc := 42) dX8_type_42 rfl ?_
      refine pw_get (pc := 43) fg_X8_23 dX8_type_43 (by first | assumption | exact va_up_self _ _ _ | exact lk1 (by first | assumption | (apply Ne.symm; assumption) | (simp; done)) (by assumption) | exact lk1 (by first | assumption | (apply Ne.symm; assumption) | (simp; done)) (va_up_self _ _ _) | exact lk1 (by first | assumption | (apply Ne.symm; assumption) | (simp; done)) (lk1 (by first | assumption | (apply Ne.symm; assumption) | (simp; done)) (by assumption)) | exact lk1 (by first | assumption | (apply Ne.symm; assumption) | (simp; done)) (lk1 (by first | assumption | (apply Ne.symm; assumption) | (simp; done)) (va_up_self _ _ _)) | exact lk1 (by first | assumption | (apply Ne.symm; assumption) | (simp; done)) (lk1 (by first | assumption | (apply Ne.symm; assumption) | (simp; done)) (lk1 (by first | assumption | (apply Ne.symm; assumption) | (simp; done)) (by assumption))) | exact lk1 (by first | assumption | (apply Ne.symm; assumption) | (simp; done)) (lk1 (by first | assumption | (apply Ne.symm; assumption) | (simp; done)) (lk1 (by first | assumption | (apply Ne.symm; assumption) | (simp; done)) (va_up_self _ _ _))) | exact lk1 (by first | assumption | (apply Ne.symm; assumption) | (simp; done)) (lk1 (by first | assumption | (apply Ne.symm; assumption) | (simp; done)) (lk1 (by first | assumption | (apply Ne.symm; assumption) | (simp; done)) (lk1 (by first | assumption | (apply Ne.symm; assumption) | (simp; done)) (by assumption)))) | exact lk1 (by first | assumption | (apply Ne.symm; assumption) | (simp; done)) (lk1 (by first | assumption | (apply Ne.symm; assumption) | (simp; done)) (lk1 (by first | assumption | (apply Ne.symm; assumption) | (simp; done)) (lk1 (by first | assumption | (apply Ne.symm; assumption) | (simp; done)) (va_up_self _ _ _))))) (by first | rfl | assumption) ?_
      refine pw_aload_n (pc := 46) dX8_type_46 rfl ?_
      refine pw_get (pc := 47) fg_X8_76 dX8_type_47 (by first | assumption | exact va_up_self _ _ _ | exact lk1 (by first | assumption | (apply Ne.symm; assumption) | (simp; done)) (by assumption) | exact lk1 (by first | assumption | (apply Ne.symm; assumption) | (simp; done)) (va_up_self _ _ _) | exact lk1 (by first | assumption | (apply Ne.symm; assumption) | (simp; done)) (lk1 (by first | assumption | (apply Ne.symm; assumption) | (simp; done)) (by assumption)) | exact lk1 (by first | assumption | (apply Ne.symm; assumption) | (simp; done)) (lk1 (by first | assumption | (apply Ne.symm; assumption) | (simp; done)) (va_up_self _ _ _)) | exact lk1 (by first | assumption | (apply Ne.symm; assumption) | (simp; done)) (lk1 (by first | assumption | (apply Ne.symm; assumption) | (simp; done)) (lk1 (by first | assumption | (apply Ne.symm; assumption) | (simp; done)) (by assumption))) | exact lk1 (by first | assumption | (apply Ne.symm; assumption) | (simp; done)) (lk1 (by first | assumption | (apply Ne.symm; assumption) | (simp; done)) (lk1 (by first | assumption | (apply Ne.symm; assumption) | (simp; done)) (va_up_self _ _ _))) | exact lk1 (by first | assumption | (apply Ne.symm; assumption) | (simp; done)) (lk1 (by first | assumption | (apply Ne.symm; assumption) | (simp; done)) (lk1 (by first | assumption | (apply Ne.symm; assumption) | (simp; done)) (lk1 (by first | assumption | (apply Ne.symm; assumption) | (simp; done)) (by assumption)))) | exact lk1 (by first | assumption | (apply Ne.symm; assumption) | (simp; done)) (lk1 (by first | assumption | (apply Ne.symm; assumption) | (simp; done)) (lk1 (by first | assumption | (apply Ne.symm; assumption) | (simp; done)) (lk1 (by first | assumption | (apply Ne.symm; assumption) | (simp; done)) (va_up_self _ _ _))))) (by first | rfl | assumption) ?_
      refine pw_lload_n (pc := 50) dX8_type_50 rfl ?_
      refine pw_bipush (pc := 51) (nI 8) dX8_type_51 (by decide) ?_
      refine pw_iload (pc := 53) dX8_type_53 rfl ?_
      refine pw_imul (pc := 55) dX8_type_55 ?_
      refine pw_lshr (pc := 56) dX8_type_56 ?_
      refine pw_ldc2 (pc := 57) (255) dX8_type_57 lc_X8_79 ?_
      refine pw_land (pc := 60) dX8_type_60 ?_
      refine pw_l2i (pc := 61) dX8_type_61 ?_
      rw [tyM v p (by omega)]
      refine pw_iast (pc := 62) (T'.length) dX8_type_62 (by first | assumption | exact va_up_self _ _ _ | exact lk1 (by first | assumption | (apply Ne.symm; assumption) | (simp; done)) (by assumption) | exact lk1 (by first | assumption | (apply Ne.symm; assumption) | (simp; done)) (va_up_self _ _ _) | exact lk1 (by first | assumption | (apply Ne.symm; assumption) | (simp; done)) (lk1 (by first | assumption | (apply Ne.symm; assumption) | (simp; done)) (by assumption)) | exact lk1 (by first | assumption | (apply Ne.symm; assumption) | (simp; done)) (lk1 (by first | assumption | (apply Ne.symm; assumption) | (simp; done)) (va_up_self _ _ _)) | exact lk1 (by first | assumption | (apply Ne.symm; assumption) | (simp; done)) (lk1 (by first | assumption | (apply Ne.symm; assumption) | (simp; done)) (lk1 (by first | assumption | (apply Ne.symm; assumption) | (simp; done)) (by assumption))) | exact lk1 (by first | assumption | (apply Ne.symm; assumption) | (simp; done)) (lk1 (by first | assumption | (apply Ne.symm; assumption) | (simp; done)) (lk1 (by first | assumption | (apply Ne.symm; assumption) | (simp; done)) (va_up_self _ _ _))) | exact lk1 (by first | assumption | (apply Ne.symm; assumption) | (simp; done)) (lk1 (by first | assumption | (apply Ne.symm; assumption) | (simp; done)) (lk1 (by first | assumption | (apply Ne.symm; assumption) | (simp; done)) (lk1 (by first | assumption | (apply Ne.symm; assumption) | (simp; done)) (by assumption)))) | exact lk1 (by first | assumption | (apply Ne.symm; assumption) | (simp; done)) (lk1 (by first | assumption | (apply Ne.symm; assumption) | (simp; done)) (lk1 (by first | assumption | (apply Ne.symm; assumption) | (simp; done)) (lk1 (by first | assumption | (apply Ne.symm; assumption) | (simp; done)) (va_up_self _ _ _))))) (by first | assumption | rfl | (simp only [nI_add, pk_mul, Nat.one_mul, Nat.mul_one, Nat.zero_add, Nat.add_zero, Nat.mul_zero]; done) | exact pk_sub (by omega) | (rw [pk_sub (by omega)]; first | done | (rw [nI_add]; done) | (rw [pk_sub (by omega)]; done) | (rw [pk_sub (by omega), nI_add]; done)) | (simp only [nI_add, pk_mul]; first | exact pk_sub (by omega) | (congr 1; omega)) | (congr 1; omega)) (by omega) (by omega) ?_
      have u0' := lk1 (v := some (.inl (0, 200, .inl (upd g' T'.length (tyB v p))))) (k := m + 5) (by omega) u0
      refine pw_aload_n (pc := 63) dX8_type_63 rfl ?_
      refine pw_dup (pc := 64) dX8_type_64 rfl ?_
      refine pw_get (pc := 65) fg_X8_76 dX8_type_65 (by first | assumption | exact va_up_self _ _ _ | exact lk1 (by first | assumption | (apply Ne.symm; assumption) | (simp; done)) (by assumption) | exact lk1 (by first | assumption | (apply Ne.symm; assumption) | (simp; done)) (va_up_self _ _ _) | exact lk1 (by first | assumption | (apply Ne.symm; assumption) | (simp; done)) (lk1 (by first | assumption | (apply Ne.symm; assumption) | (simp; done)) (by assumption)) | exact lk1 (by first | assumption | (apply Ne.symm; assumption) | (simp; done)) (lk1 (by first | assumption | (apply Ne.symm; assumption) | (simp; done)) (va_up_self _ _ _)) | exact lk1 (by first | assumption | (apply Ne.symm; assumption) | (simp; done)) (lk1 (by first | assumption | (apply Ne.symm; assumption) | (simp; done)) (lk1 (by first | assumption | (apply Ne.symm; assumption) | (simp; done)) (by assumption))) | exact lk1 (by first | assumption | (apply Ne.symm; assumption) | (simp; done)) (lk1 (by first | assumption | (apply Ne.symm; assumption) | (simp; done)) (lk1 (by first | assumption | (apply Ne.symm; assumption) | (simp; done)) (va_up_self _ _ _))) | exact lk1 (by first | assumption | (apply Ne.symm; assumption) | (simp; done)) (lk1 (by first | assumption | (apply Ne.symm; assumption) | (simp; done)) (lk1 (by first | assumption | (apply Ne.symm; assumption) | (simp; done)) (lk1 (by first | assumption | (apply Ne.symm; assumption) | (simp; done)) (by assumption)))) | exact lk1 (by first | assumption | (apply Ne.symm; assumption) | (simp; done)) (lk1 (by first | assumption | (apply Ne.symm; assumption) | (simp; done)) (lk1 (by first | assumption | (apply Ne.symm; assumption) | (simp; done)) (lk1 (by first | assumption | (apply Ne.symm; assumption) | (simp; done)) (va_up_self _ _ _))))) (by first | rfl | assumption) ?_
      refine pw_iconst (pc := 68) (nI 1) dX8_type_68 (by decide) ?_
      refine pw_iadd (pc := 69) dX8_type_69 ?_
      rw [nI_add]
      refine pw_put7 (pc := 70) fp_X8_76 dX8_type_70 (by first | assumption | exact va_up_self _ _ _ | exact lk1 (by first | assumption | (apply Ne.symm; assumption) | (simp; done)) (by assumption) | exact lk1 (by first | assumption | (apply Ne.symm; assumption) | (simp; done)) (va_up_self _ _ _) | exact lk1 (by first | assumption | (apply Ne.symm; assumption) | (simp; done)) (lk1 (by first | assumption | (apply Ne.symm; assumption) | (simp; done)) (by assumption)) | exact lk1 (by first | assumption | (apply Ne.symm; assumption) | (simp; done)) (lk1 (by first | assumption | (apply Ne.symm; assumption) | (simp; done)) (va_up_self _ _ _)) | exact lk1 (by first | assumption | (apply Ne.symm; assumption) | (simp; done)) (lk1 (by first | assumption | (apply Ne.symm; assumption) | (simp; done)) (lk1 (by first | assumption | (apply Ne.symm; assumption) | (simp; done)) (by assumption))) | exact lk1 (by first | assumption | (apply Ne.symm; assumption) | (simp; done)) (lk1 (by first | assumption | (apply Ne.symm; assumption) | (simp; done)) (lk1 (by first | assumption | (apply Ne.symm; assumption) | (simp; done)) (va_up_self _ _ _))) | exact lk1 (by first | assumption | (apply Ne.symm; assumption) | (simp; done)) (lk1 (by first | assumption | (apply Ne.symm; assumption) | (simp; done)) (lk1 (by first | assumption | (apply Ne.symm; assumption) | (simp; done)) (lk1 (by first | assumption | (apply Ne.symm; assumption) | (simp; done)) (by assumption)))) | exact lk1 (by first | assumption | (apply Ne.symm; assumption) | (simp; done)) (lk1 (by first | assumption | (apply Ne.symm; assumption) | (simp; done)) (lk1 (by first | assumption | (apply Ne.symm; assumption) | (simp; done)) (lk1 (by first | assumption | (apply Ne.symm; assumption) | (simp; done)) (va_up_self _ _ _))))) rfl rfl ?_
      refine pw_iinc4 (pc := 73) _ dX8_type_73 (Nat.le_of_ble_eq_true rfl) rfl rfl ?_
      refine pw_goto (pc := 76) 37 dX8_type_76 (by decide) ?_
      refine ih _ (T' ++ [tyB v p]) _ (upd g' T'.length (tyB v p)) hx hle ?_ (lk1 (by omega) (va_up_self _ _ _)) (holdsL_snoc hT') (fun q h1 h2 => ?_) ?_ ?_ (by omega) ?_
      · rw [List.length_append]; exact va_up_self _ _ _
      · rw [va_up_ne _ _ h1, va_up_ne _ _ h2]; exact hf q h1 h2
      · rw [List.length_append, List.length_singleton]; omega
      · rw [← he]; simp [tyL]
      · rw [fb_subm1 _ (by rw [nI_toInt (by omega)]; omega), nI_toInt (by omega)]
  refine PM.of [.ref m, .long v, .null, .int x, .null] rfl (Nat.le_of_ble_eq_true rfl) rfl ?_
  refine pw_aload_n (pc := 0) dX8_type_0 rfl ?_
  refine pw_iconst (pc := 1) (nI 0) dX8_type_1 (by decide) ?_
  refine pw_put0 (pc := 2) fp_X8_61 dX8_type_2 (by first | assumption | exact va_up_self _ _ _ | exact lk1 (by first | assumption | (apply Ne.symm; assumption) | (simp; done)) (by assumption) | exact lk1 (by first | assumption | (apply Ne.symm; assumption) | (simp; done)) (va_up_self _ _ _) | exact lk1 (by first | assumption | (apply Ne.symm; assumption) | (simp; done)) (lk1 (by first | assumption | (apply Ne.symm; assumption) | (simp; done)) (by assumption)) | exact lk1 (by first | assumption | (apply Ne.symm; assumption) | (simp; done)) (lk1 (by first | assumption | (apply Ne.symm; assumption) | (simp; done)) (va_up_self _ _ _)) | exact lk1 (by first | assumption | (apply Ne.symm; assumption) | (simp; done)) (lk1 (by first | assumption | (apply Ne.symm; assumption) | (simp; done)) (lk1 (by first | assumption | (apply Ne.symm; assumption) | (simp; done)) (by assumption))) | exact lk1 (by first | assumption | (apply Ne.symm; assumption) | (simp; done)) (lk1 (by first | assumption | (apply Ne.symm; assumption) | (simp; done)) (lk1 (by first | assumption | (apply Ne.symm; assumption) | (simp; done)) (va_up_self _ _ _))) | exact lk1 (by first | assumption | (apply Ne.symm; assumption) | (simp; done)) (lk1 (by first | assumption | (apply Ne.symm; assumption) | (simp; done)) (lk1 (by first | assumption | (apply Ne.symm; assumption) | (simp; done)) (lk1 (by first | assumption | (apply Ne.symm; assumption) | (simp; done)) (by assumption)))) | exact lk1 (by first | assumption | (apply Ne.symm; assumption) | (simp; done)) (lk1 (by first | assumption | (apply Ne.symm; assumption) | (simp; done)) (lk1 (by first | assumption | (apply Ne.symm; assumption) | (simp; done)) (lk1 (by first | assumption | (apply Ne.symm; assumption) | (simp; done)) (va_up_self _ _ _))))) rfl rfl ?_
  refine pw_iload_n (pc := 5) dX8_type_5 rfl ?_
  refine pw_iconst (pc := 6) (nI 1) dX8_type_6 (by decide) ?_
  refine pw_bipush (pc := 7) (nI 8) dX8_type_7 (by decide) ?_
  refine pw_callS_i (pc := 9) cs_X8_64 dX8_type_9 (c_in x (nI 1) (nI 8)) rfl rfl (Nat.le_of_ble_eq_true rfl) ⟨(Nat.le_of_ble_eq_true rfl), (Nat.le_of_ble_eq_true rfl)⟩ ?_
  refine pw_if_ne_b (pc := 12) 17 dX8_type_12 (by decide) (fun z => ?_) (fun z => ?_)
  · have hx : rg 1 8 x = true := z
    obtain ⟨j, hj, rfl, ej⟩ := rg_ix (hi := 8) (rg_wide hx (by omega) (by omega))
    have z' := rg_t hx
    rw [nI_toInt (by omega)] at z'
    refine pw_aload_n (pc := 17) dX8_type_17 rfl ?_
    refine pw_get (pc := 18) fg_X8_76 dX8_type_18 (by first | assumption | exact va_up_self _ _ _ | exact lk1 (by first | assumption | (apply Ne.symm; assumption) | (simp; done)) (by assumption) | exact lk1 (by first | assumption | (apply Ne.symm; assumption) | (simp; done)) (va_up_self _ _ _) | exact lk1 (by first | assumption | (apply Ne.symm; assumption) | (simp; done)) (lk1 (by first | assumption | (apply Ne.symm; assumption) | (simp; done)) (by assumption)) | exact lk1 (by first | assumption | (apply Ne.symm; assumption) | (simp; done)) (lk1 (by first | assumption | (apply Ne.symm; assumption) | (simp; done)) (va_up_self _ _ _)) | exact lk1 (by first | assumption | (apply Ne.symm; assumption) | (simp; done)) (lk1 (by first | assumption | (apply Ne.symm; assumption) | (simp; done)) (lk1 (by first | assumption | (apply Ne.symm; assumption) | (simp; done)) (by assumption))) | exact lk1 (by first | assumption | (apply Ne.symm; assumption) | (simp; done)) (lk1 (by first | assumption | (apply Ne.symm; assumption) | (simp; done)) (lk1 (by first | assumption | (apply Ne.symm; assumption) | (simp; done)) (va_up_self _ _ _))) | exact lk1 (by first | assumption | (apply Ne.symm; assumption) | (simp; done)) (lk1 (by first | assumption | (apply Ne.symm; assumption) | (simp; done)) (lk1 (by first | assumption | (apply Ne.symm; assumption) | (simp; done)) (lk1 (by first | assumption | (apply Ne.symm; assumption) | (simp; done)) (by assumption)))) | exact lk1 (by first | assumption | (apply Ne.symm; assumption) | (simp; done)) (lk1 (by first | assumption | (apply Ne.symm; assumption) | (simp; done)) (lk1 (by first | assumption | (apply Ne.symm; assumption) | (simp; done)) (lk1 (by first | assumption | (apply Ne.symm; assumption) | (simp; done)) (va_up_self _ _ _))))) (by first | rfl | assumption) ?_
    refine pw_iload_n (pc := 21) dX8_type_21 rfl ?_
    refine pw_iadd (pc := 22) dX8_type_22 ?_
    rw [nI_add]
    refine pw_sipush (pc := 23) (nI 200) dX8_type_23 (by decide) ?_
    refine pw_icmp_le_n (pc := 26) 32 dX8_type_26 (by decide) (by omega) (by omega) (fun z3 => ?_) (fun z3 => ?_)
    · refine pw_iload_n (pc := 32) dX8_type_32 rfl ?_
      refine pw_iconst (pc := 33) (nI 1) dX8_type_33 (by decide) ?_
      refine pw_isub (pc := 34) dX8_type_34 ?_
      refine pw_ist4 (pc := 35) dX8_type_35 (Nat.le_of_ble_eq_true rfl) rfl ?_
      refine loop j _ (sT S) _ gt hx (by rw [ej]; exact z3) (va_up_self _ _ _) (lk1 (by omega) q5) k5 (fun q h1 _ => va_up_ne _ _ h1) (by rw [ej]) (by rw [ej]) (by omega) ?_
      rw [pk_sub_toInt (by omega) (by omega)]; omega
    · refine pw_bipush (pc := 29) (-3) dX8_type_29 (by decide) ?_
      refine pw_iret dX8_type_31 rfl ⟨?_, ?_, on_m⟩
      · rw [a_type, hx, if_pos rfl, ej, if_neg (by omega)]
      · rw [n_type, ej, if_neg (fun q => by have := q.2; omega)]; exact ⟨⟨_, _, _, _, _, _, _, _, va_up_self _ _ _⟩, ma.on up_m⟩
  · have h1 : rg 1 8 x = false := z
    refine pw_iconst (pc := 15) (-1) dX8_type_15 (by decide) ?_
    refine pw_iret dX8_type_16 rfl ⟨?_, ?_, on_m⟩
    · rw [a_type, h1]; rfl
    · rw [n_type, if_neg (by rw [h1]; simp)]; exact ⟨⟨_, _, _, _, _, _, _, _, va_up_self _ _ _⟩, ma.on up_m⟩
end M6
