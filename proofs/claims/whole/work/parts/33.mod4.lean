theorem and1 (x : Int32) : x &&& nI 1 = 0 ∨ x &&& nI 1 = 1 := by
  obtain ⟨j, hj, e⟩ := pk_andE x (m := nI 1) 1 (by decide)
  rcases (show j = 0 ∨ j = 1 by omega) with rfl | rfl
  · exact Or.inl e
  · exact Or.inr e
theorem inB_1 (x k : Int32) : ((x >>> (k &&& 31)) &&& nI 1 = nI 1) ↔ inB x k = true := by
  have e : nI 1 = 1 := rfl
  rw [inB, decide_eq_true_iff]
  rcases and1 (x >>> (k &&& 31)) with h | h
  · rw [e] at h ⊢; rw [h]; decide
  · rw [e] at h ⊢; rw [h]; decide
theorem sHold.lst {g g' : Nat → Int32} {R : RecS} {L : List Int32} (hs : sHold g 0 R) (hl : ∀ i, i < 4 → (R.1 i).length ≤ 12) (j : Nat) (hj : j < 4) (hL : L.length ≤ 12) (h0 : g' (13 * j) = nI L.length) (h1 : ∀ k, k < L.length → g' (13 * j + 1 + k) = L.getD k 0) (h2 : ∀ q, q < 13 * j ∨ 13 * j + 13 ≤ q → g' q = g q) : sHold g' 0 (fun i => if i = j then L else R.1 i, R.2) := by
  refine ⟨fun i hi => ?_, fun k hk => ?_, fun k hk => ?_, fun k hk => ?_⟩
  · by_cases e : i = j
    · subst e
      simp only [if_true, Nat.zero_add]
      exact ⟨h0, h1⟩
    · simp only [e, if_false]
      refine ⟨?_, fun k hk => ?_⟩
      · rw [h2 _ (by omega)]; exact (hs.1 i hi).1
      · have := hl i hi
        rw [h2 _ (by omega)]; exact (hs.1 i hi).2 k hk
  · rw [h2 _ (by omega)]; exact hs.2.1 k hk
  · rw [h2 _ (by omega)]; exact hs.2.2.1 k hk
  · rw [h2 _ (by omega)]; exact hs.2.2.2 k hk
section M5
variable {E : EV} {h : HP} {n m : Nat} {S : AS}
theorem o_list (hm : modP h m S) (hw : wfS S) (i : Int32) : PM E mX8_list [.ref m, .int i] h n n 0 (QM m h (some (.int (a_list S i))) (n_list S i)) := by
  obtain ⟨⟨th, nx, tk, pl, vl, ft, sz, nm, m0⟩, ma⟩ := id hm
  obtain ⟨⟨gs, q1, k1⟩, b2, b3, b4, ⟨gt, q5, k5⟩, -⟩ := id ma
  have hT := hw.1
  have hlen : ∀ p, p < 4 → ((sN S).1 p).length ≤ 12 := fun p hp => (hw.2.2.2.1.1 p hp).1
  have fE : flt gt (nI 0) 0 (sT S).length = fltT (sT S) := flt_T k5
  refine PM.of [.ref m, .int i, .null, .null, .null] rfl (Nat.le_of_ble_eq_true rfl) rfl ?_
  refine pw_aload_n (pc := 0) dX8_list_0 rfl ?_
  refine pw_iconst (pc := 1) (nI 0) dX8_list_1 (by decide) ?_
  refine pw_put0 (pc := 2) fp_X8_61 dX8_list_2 (by first | assumption | exact va_up_self _ _ _ | exact lk1 (by first | assumption | (apply Ne.symm; assumption) | (simp; done)) (by assumption) | exact lk1 (by first | assumption | (apply Ne.symm; assumption) | (simp; done)) (va_up_self _ _ _) | exact lk1 (by first | assumption | (apply Ne.symm; assumption) | (simp; done)) (lk1 (by first | assumption | (apply Ne.symm; assumption) | (simp; done)) (by assumption)) | exact lk1 (by first | assumption | (apply Ne.symm; assumption) | (simp; done)) (lk1 (by first | assumption | (apply Ne.symm; assumption) | (simp; done)) (va_up_self _ _ _)) | exact lk1 (by first | assumption | (apply Ne.symm; assumption) | (simp; done)) (lk1 (by first | assumption | (apply Ne.symm; assumption) | (simp; done)) (lk1 (by first | assumption | (apply Ne.symm; assumption) | (simp; done)) (by assumption))) | exact lk1 (by first | assumption | (apply Ne.symm; assumption) | (simp; done)) (lk1 (by first | assumption | (apply Ne.symm; assumption) | (simp; done)) (lk1 (by first | assumption | (apply Ne.symm; assumption) | (simp; done)) (va_up_self _ _ _))) | exact lk1 (by first | assumption | (apply Ne.symm; assumption) | (simp; done)) (lk1 (by first | assumption | (apply Ne.symm; assumption) | (simp; done)) (lk1 (by first | assumption | (apply Ne.symm; assumption) | (simp; done)) (lk1 (by first | assumption | (apply Ne.symm; assumption) | (simp; done)) (by assumption)))) | exact lk1 (by first | assumption | (apply Ne.symm; assumption) | (simp; done)) (lk1 (by first | assumption | (apply Ne.symm; assumption) | (simp; done)) (lk1 (by first | assumption | (apply Ne.symm; assumption) | (simp; done)) (lk1 (by first | assumption | (apply Ne.symm; assumption) | (simp; done)) (va_up_self _ _ _))))) rfl rfl ?_
  refine pw_iload_n (pc := 5) dX8_list_5 rfl ?_
  refine pw_callS_i (pc := 6) cs_X8_124 dX8_list_6 (c_misList i) rfl rfl (Nat.le_of_ble_eq_true rfl) ⟨(Nat.le_of_ble_eq_true rfl), (Nat.le_of_ble_eq_true rfl)⟩ ?_
  generalize hh0 : va_up h m (some (.inr (8, mob m (nI 0) (sQ S) (nI (sT S).length) nx tk pl vl ft (sLo S) (sHi S) sz nm))) = h0
  have u0 : h0 m = some (.inr (8, mob m (nI 0) (sQ S) (nI (sT S).length) nx tk pl vl ft (sLo S) (sHi S) sz nm)) := by rw [← hh0]; exact va_up_self _ _ _
  have u1 : h0 (m + 1) = some (.inl (0, 90, .inl gs)) := by rw [← hh0]; exact lk1 (by omega) q1
  have u5 : h0 (m + 5) = some (.inl (0, 200, .inl gt)) := by rw [← hh0]; exact lk1 (by omega) q5
  have mb : mArr h0 m S := by rw [← hh0]; exact ma.on up_m
  have on0 : only h h0 m (m + 13) := by rw [← hh0]; exact on_m
  have hm0 : modP h0 m S := ⟨⟨_, _, _, _, _, _, _, _, u0⟩, mb⟩
  refine pw_if_ne_b (pc := 9) 14 dX8_list_9 (by decide) (fun z => ?_) (fun z => ?_)
  · obtain ⟨j, hj, ei, ej⟩ := rg_ix (hi := 3) z
    have loop2 : fltT (sT S) = -9 → (sT S).length ≤ 12 → ∀ p k (w1 : Int32) w2, k + p = (sT S).length → PW (KX E mX8_list n (QM m h (some (.int (a_list S i))) (n_list S i))) 88 [.ref m, .int i, .int w1, .int (nI k), w2] [] (va_up h0 (m + 1) (some (.inl (0, 90, .inl (putF gs (fun q => gt q - nI 97) (13 * j + 1) k))))) n 0 := by
      intro hf hle p
      induction p with
      | zero =>
        intro k w1 w2 hk
        have t0 := lk1 (v := some (.inl (0, 90, .inl (putF gs (fun q => gt q - nI 97) (13 * j + 1) k)))) (k := m + 1) (by omega) u0
        refine pw_iload_n (pc := 88) dX8_list_88 rfl ?_
        refine pw_aload_n (pc := 89) dX8_list_89 rfl ?_
        refine pw_get (pc := 90) fg_X8_76 dX8_list_90 (by first | assumption | exact va_up_self _ _ _ | exact lk1 (by first | assumption | (apply Ne.symm; assumption) | (simp; done)) (by assumption) | exact lk1 (by first | assumption | (apply Ne.symm; assumption) | (simp; done)) (va_up_self _ _ _) | exact lk1 (by first | assumption | (apply Ne.symm; assumption) | (simp; done)) (lk1 (by first | assumption | (apply Ne.symm; assumption) | (simp; done)) (by assumption)) | exact lk1 (by first | assumption | (apply Ne.symm; assumption) | (simp; done)) (lk1 (by first | assumption | (apply Ne.symm; assumption) | (simp; done)) (va_up_self _ _ _)) | exact lk1 (by first | assumption | (apply Ne.symm; assumption) | (simp; done)) (lk1 (by first | assumption | (apply Ne.symm; assumption) | (simp; done)) (lk1 (by first | assumption | (apply Ne.symm; assumption) | (simp; done)) (by assumption))) | exact lk1 (by first | assumption | (apply Ne.symm; assumption) | (simp; done)) (lk1 (by first | assumption | (apply Ne.symm; assumption) | (simp; done)) (lk1 (by first | assumption | (apply Ne.symm; assumption) | (simp; done)) (va_up_self _ _ _))) | exact lk1 (by first | assumption | (apply Ne.symm; assumption) | (simp; done)) (lk1 (by first | assumption | (apply Ne.symm; assumption) | (simp; done)) (lk1 (by first | assumption | (apply Ne.symm; assumption) | (simp; done)) (lk1 (by first | assumption | (apply Ne.symm; assumption) | (simp; done)) (by assumption)))) | exact lk1 (by first | assumption | (apply Ne.symm; assumption) | (simp; done)) (lk1 (by first | assumption | (apply Ne.symm; assumption) | (simp; done)) (lk1 (by first | assumption | (apply Ne.symm; assumption) | (simp; done)) (lk1 (by first | assumption | (apply Ne.symm; assumption) | (simp; done)) (va_up_self _ _ _))))) (by first | rfl | assumption) ?_
        refine pw_icmp_ge_n (pc := 93) 124 dX8_list_93 (by decide) (by omega) (by omega) (fun c => ?_) (fun c => ?_)
        · obtain rfl : k = (sT S).length := by omega
          rw [ei]
          refine pw_aload_n (pc := 124) dX8_list_124 rfl ?_
          refine pw_get (pc := 125) fg_X8_7 dX8_list_125 (by first | assumption | exact va_up_self _ _ _ | exact lk1 (by first | assumption | (apply Ne.symm; assumption) | (simp; done)) (by assumption) | exact lk1 (by first | assumption | (apply Ne.symm; assumption) | (simp; done)) (va_up_self _ _ _) | exact lk1 (by first | assumption | (apply Ne.symm; assumption) | (simp; done)) (lk1 (by first | assumption | (apply Ne.symm; assumption) | (simp; done)) (by assumption)) | exact lk1 (by first | assumption | (apply Ne.symm; assumption) | (simp; done)) (lk1 (by first | assumption | (apply Ne.symm; assumption) | (simp; done)) (va_up_self _ _ _)) | exact lk1 (by first | assumption | (apply Ne.symm; assumption) | (simp; done)) (lk1 (by first | assumption | (apply Ne.symm; assumption) | (simp; done)) (lk1 (by first | assumption | (apply Ne.symm; assumption) | (simp; done)) (by assumption))) | exact lk1 (by first | assumption | (apply Ne.symm; assumption) | (simp; done)) (lk1 (by first | assumption | (apply Ne.symm; assumption) | (simp; done)) (lk1 (by first | assumption | (apply Ne.symm; assumption) | (simp; done)) (va_up_self _ _ _))) | exact lk1 (by first | assumption | (apply Ne.symm; assumption) | (simp; done)) (lk1 (by first | assumption | (apply Ne.symm; assumption) | (simp; done)) (lk1 (by first | assumption | (apply Ne.symm; assumption) | (simp; done)) (lk1 (by first | assumption | (apply Ne.symm; assumption) | (simp; done)) (by assumption)))) | exact lk1 (by first | assumption | (apply Ne.symm; assumption) | (simp; done)) (lk1 (by first | assumption | (apply Ne.symm; assumption) | (simp; done)) (lk1 (by first | assumption | (apply Ne.symm; assumption) | (simp; done)) (lk1 (by first | assumption | (apply Ne.symm; assumption) | (simp; done)) (va_up_self _ _ _))))) (by first | rfl | assumption) ?_
          refine pw_bipush (pc := 128) (nI 13) dX8_list_128 (by decide) ?_
          refine pw_iload_n (pc := 130) dX8_list_130 rfl ?_
          refine pw_imul (pc := 131) dX8_list_131 ?_
          refine pw_aload_n (pc := 132) dX8_list_132 rfl ?_
          refine pw_get (pc := 133) fg_X8_76 dX8_list_133 (by first | assumption | exact va_up_self _ _ _ | exact lk1 (by first | assumption | (apply Ne.symm; assumption) | (simp; done)) (by assumption) | exact lk1 (by first | assumption | (apply Ne.symm; assumption) | (simp; done)) (va_up_self _ _ _) | exact lk1 (by first | assumption | (apply Ne.symm; assumption) | (simp; done)) (lk1 (by first | assumption | (apply Ne.symm; assumption) | (simp; done)) (by assumption)) | exact lk1 (by first | assumption | (apply Ne.symm; assumption) | (simp; done)) (lk1 (by first | assumption | (apply Ne.symm; assumption) | (simp; done)) (va_up_self _ _ _)) | exact lk1 (by first | assumption | (apply Ne.symm; assumption) | (simp; done)) (lk1 (by first | assumption | (apply Ne.symm; assumption) | (simp; done)) (lk1 (by first | assumption | (apply Ne.symm; assumption) | (simp; done)) (by assumption))) | exact lk1 (by first | assumption | (apply Ne.symm; assumption) | (simp; done)) (lk1 (by first | assumption | (apply Ne.symm; assumption) | (simp; done)) (lk1 (by first | assumption | (apply Ne.symm; assumption) | (simp; done)) (va_up_self _ _ _))) | exact lk1 (by first | assumption | (apply Ne.symm; assumption) | (simp; done)) (lk1 (by first | assumption | (apply Ne.symm; assumption) | (simp; done)) (lk1 (by first | assumption | (apply Ne.symm; assumption) | (simp; done)) (lk1 (by first | assumption | (apply Ne.symm; assumption) | (simp; done)) (by assumption)))) | exact lk1 (by first | assumption | (apply Ne.symm; assumption) | (simp; done)) (lk1 (by first | assumption | (apply Ne.symm; assumption) | (simp; done)) (lk1 (by first | assumption | (apply Ne.symm; assumption) | (simp; done)) (lk1 (by first | assumption | (apply Ne.symm; assumption) | (simp; done)) (va_up_self _ _ _))))) (by first | rfl | assumption) ?_
          refine pw_iast (pc := 136) (13 * j) dX8_list_136 (by first | assumption | exact va_up_self _ _ _ | exact lk1 (by first | assumption | (apply Ne.symm; assumption) | (simp; done)) (by assumption) | exact lk1 (by first | assumption | (apply Ne.symm; assumption) | (simp; done)) (va_up_self _ _ _) | exact lk1 (by first | assumption | (apply Ne.symm; assumption) | (simp; done)) (lk1 (by first | assumption | (apply Ne.symm; assumption) | (simp; done)) (by assumption)) | exact lk1 (by first | assumption | (apply Ne.symm; assumption) | (simp; done)) (lk1 (by first | assumption | (apply Ne.symm; assumption) | (simp; done)) (va_up_self _ _ _)) | exact lk1 (by first | assumption | (apply Ne.symm; assumption) | (simp; done)) (lk1 (by first | assumption | (apply Ne.symm; assumption) | (simp; done)) (lk1 (by first | assumption | (apply Ne.symm; assumption) | (simp; done)) (by assumption))) | exact lk1 (by first | assumption | (apply Ne.symm; assumption) | (simp; done)) (lk1 (by first | assumption | (apply Ne.symm; assumption) | (simp; done)) (lk1 (by first | assumption | (apply Ne.symm; assumption) | (simp; done)) (va_up_self _ _ _))) | exact lk1 (by first | assumption | (apply Ne.symm; assumption) | (simp; done)) (lk1 (by first | assumption | (apply Ne.symm; assumption) | (simp; done)) (lk1 (by first | assumption | (apply Ne.symm; assumption) | (simp; done)) (lk1 (by first | assumption | (apply Ne.symm; assumption) | (simp; done)) (by assumption)))) | exact lk1 (by first | assumption | (apply Ne.symm; assumption) | (simp; done)) (lk1 (by first | assumption | (apply Ne.symm; assumption) | (simp; done)) (lk1 (by first | assumption | (apply Ne.symm; assumption) | (simp; done)) (lk1 (by first | assumption | (apply Ne.symm; assumption) | (simp; done)) (va_up_self _ _ _))))) (by first | assumption | rfl | (simp only [nI_add, pk_mul, Nat.one_mul, Nat.mul_one, Nat.zero_add, Nat.add_zero, Nat.mul_zero]; done) | exact pk_sub (by omega) | (rw [pk_sub (by omega)]; first | done | (rw [nI_add]; done) | (rw [pk_sub (by omega)]; done) | (rw [pk_sub (by omega), nI_add]; done)) | (simp only [nI_add, pk_mul]; first | exact pk_sub (by omega) | (congr 1; omega)) | (congr 1; omega)) (by omega) (by omega) ?_
          have t0' := lk1 (v := some (.inl (0, 90, .inl (upd (putF gs (fun q => gt q - nI 97) (13 * j + 1) (sT S).length) (13 * j) (nI (sT S).length))))) (k := m + 1) (by omega) t0
          refine pw_aload_n (pc := 137) dX8_list_137 rfl ?_
          refine pw_iconst (pc := 138) (nI 0) dX8_list_138 (by decide) ?_
          refine pw_put7 (pc := 139) fp_X8_76 dX8_list_139 (by first | assumption | exact va_up_self _ _ _ | exact lk1 (by first | assumption | (apply Ne.symm; assumption) | (simp; done)) (by assumption) | exact lk1 (by first | assumption | (apply Ne.symm; assumption) | (simp; done)) (va_up_self _ _ _) | exact lk1 (by first | assumption | (apply Ne.symm; assumption) | (simp; done)) (lk1 (by first | assumption | (apply Ne.symm; assumption) | (simp; done)) (by assumption)) | exact lk1 (by first | assumption | (apply Ne.symm; assumption) | (simp; done)) (lk1 (by first | assumption | (apply Ne.symm; assumption) | (simp; done)) (va_up_self _ _ _)) | exact lk1 (by first | assumption | (apply Ne.symm; assumption) | (simp; done)) (lk1 (by first | assumption | (apply Ne.symm; assumption) | (simp; done)) (lk1 (by first | assumption | (apply Ne.symm; assumption) | (simp; done)) (by assumption))) | exact lk1 (by first | assumption | (apply Ne.symm; assumption) | (simp; done)) (lk1 (by first | assumption | (apply Ne.symm; assumption) | (simp; done)) (lk1 (by first | assumption | (apply Ne.symm; assumption) | (simp; done)) (va_up_self _ _ _))) | exact lk1 (by first | assumption | (apply Ne.symm; assumption) | (simp; done)) (lk1 (by first | assumption | (apply Ne.symm; assumption) | (simp; done)) (lk1 (by first | assumption | (apply Ne.symm; assumption) | (simp; done)) (lk1 (by first | assumption | (apply Ne.symm; assumption) | (simp; done)) (by assumption)))) | exact lk1 (by first | assumption | (apply Ne.symm; assumption) | (simp; done)) (lk1 (by first | assumption | (apply Ne.symm; assumption) | (simp; done)) (lk1 (by first | assumption | (apply Ne.symm; assumption) | (simp; done)) (lk1 (by first | assumption | (apply Ne.symm; assumption) | (simp; done)) (va_up_self _ _ _))))) rfl rfl ?_
          have t1' : (va_up (va_up (va_up h0 (m + 1) (some (.inl (0, 90, .inl (putF gs (fun q => gt q - nI 97) (13 * j + 1) (sT S).length))))) (m + 1) (some (.inl (0, 90, .inl (upd (putF gs (fun q => gt q - nI 97) (13 * j + 1) (sT S).length) (13 * j) (nI (sT S).length)))))) m (some (.inr (8, mob m (nI 0) (sQ S) (nI 0) nx tk pl vl ft (sLo S) (sHi S) sz nm)))) (m + 1) = some (.inl (0, 90, .inl (upd (putF gs (fun q => gt q - nI 97) (13 * j + 1) (sT S).length) (13 * j) (nI (sT S).length)))) := lk1 (by omega) (va_up_self _ _ _)
          refine pw_aload_n (pc := 142) dX8_list_142 rfl ?_
          refine pw_iload_n (pc := 143) dX8_list_143 rfl ?_
          refine pw_callV_i (pc := 144) cv_X8_68 dX8_list_144 (by first | assumption | exact va_up_self _ _ _ | exact lk1 (by first | assumption | (apply Ne.symm; assumption) | (simp; done)) (by assumption) | exact lk1 (by first | assumption | (apply Ne.symm; assumption) | (simp; done)) (va_up_self _ _ _) | exact lk1 (by first | assumption | (apply Ne.symm; assumption) | (simp; done)) (lk1 (by first | assumption | (apply Ne.symm; assumption) | (simp; done)) (by assumption)) | exact lk1 (by first | assumption | (apply Ne.symm; assumption) | (simp; done)) (lk1 (by first | assumption | (apply Ne.symm; assumption) | (simp; done)) (va_up_self _ _ _)) | exact lk1 (by first | assumption | (apply Ne.symm; assumption) | (simp; done)) (lk1 (by first | assumption | (apply Ne.symm; assumption) | (simp; done)) (lk1 (by first | assumption | (apply Ne.symm; assumption) | (simp; done)) (by assumption))) | exact lk1 (by first | assumption | (apply Ne.symm; assumption) | (simp; done)) (lk1 (by first | assumption | (apply Ne.symm; assumption) | (simp; done)) (lk1 (by first | assumption | (apply Ne.symm; assumption) | (simp; done)) (va_up_self _ _ _))) | exact lk1 (by first | assumption | (apply Ne.symm; assumption) | (simp; done)) (lk1 (by first | assumption | (apply Ne.symm; assumption) | (simp; done)) (lk1 (by first | assumption | (apply Ne.symm; assumption) | (simp; done)) (lk1 (by first | assumption | (apply Ne.symm; assumption) | (simp; done)) (by assumption)))) | exact lk1 (by first | assumption | (apply Ne.symm; assumption) | (simp; done)) (lk1 (by first | assumption | (apply Ne.symm; assumption) | (simp; done)) (lk1 (by first | assumption | (apply Ne.symm; assumption) | (simp; done)) (lk1 (by first | assumption | (apply Ne.symm; assumption) | (simp; done)) (va_up_self _ _ _))))) rfl (c_msizeOf (va_up_self _ _ _) rfl t1' j (by omega)) rfl rfl (Nat.le_of_ble_eq_true rfl) ⟨(Nat.le_of_ble_eq_true rfl), (Nat.le_of_ble_eq_true rfl)⟩ ?_
          rw [← ei]
          refine pw_iret dX8_list_147 rfl ⟨?_, ?_, on0.trans (((only.up only.rfl (by omega) (by omega)).up (by omega) (by omega)).up (by omega) (by omega))⟩
          · rw [a_list, z, if_pos rfl, if_pos hf, pk_us]
          · rw [n_list, ej, if_pos ⟨z, hf⟩]
            refine ⟨⟨_, _, _, _, _, _, _, _, va_up_self _ _ _⟩, ?_⟩
            have hmap : ((sT S).map (fun x => x - nI 97)).length = (sT S).length := List.length_map ..
            have hs' : sHold (upd (putF gs (fun q => gt q - nI 97) (13 * j + 1) (sT S).length) (13 * j) (nI (sT S).length)) 0 (fun p => if p = j then (sT S).map (fun x => x - nI 97) else (sN S).1 p, (sN S).2) := by
              refine k1.lst hlen j (by omega) (by rw [hmap]; exact hle) ?_ (fun k hk => ?_) (fun q hq => ?_)
              · rw [pk_us, hmap]
              · rw [hmap] at hk
                rw [pk_un (by omega), putF_in hk, k5.at hk]
                simp [List.getD_eq_getElem?_getD, hk]
              · rw [pk_un (by omega), putF_out (by omega)]
            have mc : mArr h0 m (setT S []) := by
              obtain ⟨q1, q2, q3, q4, ⟨g, q5, q6⟩, q7⟩ := mb
              exact ⟨q1, q2, q3, q4, ⟨g, q5, fun k hk => absurd hk (Nat.not_lt_zero k)⟩, q7⟩
            exact (mc.setS (h' := va_up (va_up (va_up h0 (m + 1) _) (m + 1) _) m _) (((eqOn.up eqOn.rfl (by omega)).up (by omega)).up (by omega)) t1' hs' : mArr _ m (setN (setT S []) _))
        · omega
      | succ p ih =>
        intro k w1 w2 hk
        have t0 := lk1 (v := some (.inl (0, 90, .inl (putF gs (fun q => gt q - nI 97) (13 * j + 1) k)))) (k := m + 1) (by omega) u0
        have t5 := lk1 (v := some (.inl (0, 90, .inl (putF gs (fun q => gt q - nI 97) (13 * j + 1) k)))) (k := m + 1) (by omega) u5
        refine pw_iload_n (pc := 88) dX8_list_88 rfl ?_
        refine pw_aload_n (pc := 89) dX8_list_89 rfl ?_
        refine pw_get (pc := 90) fg_X8_76 dX8_list_90 (by first | assumption | exact va_up_self _ _ _ | exact lk1 (by first | assumption | (apply Ne.symm; assumption) | (simp; done)) (by assumption) | exact lk1 (by first | assumption | (apply Ne.symm; assumption) | (simp; done)) (va_up_self _ _ _) | exact lk1 (by first | assumption | (apply Ne.symm; assumption) | (simp; done)) (lk1 (by first | assumption | (apply Ne.symm; assumption) | (simp; done)) (by assumption)) | exact lk1 (by first | assumption | (apply Ne.symm; assumption) | (simp; done)) (lk1 (by first | assumption | (apply Ne.symm; assumption) | (simp; done)) (va_up_self _ _ _)) | exact lk1 (by first | assumption | (apply Ne.symm; assumption) | (simp; done)) (lk1 (by first | assumption | (apply Ne.symm; assumption) | (simp; done)) (lk1 (by first | assumption | (apply Ne.symm; assumption) | (simp; done)) (by assumption))) | exact lk1 (by first | assumption | (apply Ne.symm; assumption) | (simp; done)) (lk1 (by first | assumption | (apply Ne.symm; assumption) | (simp; done)) (lk1 (by first | assumption | (apply Ne.symm; assumption) | (simp; done)) (va_up_self _ _ _))) | exact lk1 (by first | assumption | (apply Ne.symm; assumption) | (simp; done)) (lk1 (by first | assumption | (apply Ne.symm; assumption) | (simp; done)) (lk1 (by first | assumption | (apply Ne.symm; assumption) | (simp; done)) (lk1 (by first | assumption | (apply Ne.symm; assumption) | (simp; done)) (by assumption)))) | exact lk1 (by first | assumption | (apply Ne.symm; assumption) | (simp; done)) (lk1 (by first | assumption | (apply Ne.symm; assumption) | (simp; done)) (lk1 (by first | assumption | (apply Ne.symm; assumption) | (simp; done)) (lk1 (by first | assumption | (apply Ne.symm; assumption) | (simp; done)) (va_up_self _ _ _))))) (by first | rfl | assumption) ?_
        refine pw_icmp_ge_n (pc := 93) 124 dX8_list_93 (by decide) (by omega) (by omega) (fun c => ?_) (fun c => ?_)
        · omega
        · rw [ei]
          refine pw_aload_n (pc := 96) dX8_list_96 rfl ?_
          refine pw_get (pc := 97) fg_X8_7 dX8_list_97 (by first | assumption | exact va_up_self _ _ _ | exact lk1 (by first | assumption | (apply Ne.symm; assumption) | (simp; done)) (by assumption) | exact lk1 (by first | assumption | (apply Ne.symm; assumption) | (simp; done)) (va_up_self _ _ _) | exact lk1 (by first | assumption | (apply Ne.symm; assumption) | (simp; done)) (lk1 (by first | assumption | (apply Ne.symm; assumption) | (simp; done)) (by assumption)) | exact lk1 (by first | assumption | (apply Ne.symm; assumption) | (simp; done)) (lk1 (by first | assumption | (apply Ne.symm; assumption) | (simp; done)) (va_up_self _ _ _)) | exact lk1 (by first | assumption | (apply Ne.symm; assumption) | (simp; done)) (lk1 (by first | assumption | (apply Ne.symm; assumption) | (simp; done)) (lk1 (by first | assumption | (apply Ne.symm; assumption) | (simp; done)) (by assumption))) | exact lk1 (by first | assumption | (apply Ne.symm; assumption) | (simp; done)) (lk1 (by first | assumption | (apply Ne.symm; assumption) | (simp; done)) (lk1 (by first | assumption | (apply Ne.symm; assumption) | (simp; done)) (va_up_self _ _ _))) | exact lk1 (by first | assumption | (apply Ne.symm; assumption) | (simp; done)) (lk1 (by first | assumption | (apply Ne.symm; assumption) | (simp; done)) (lk1 (by first | assumption | (apply Ne.symm; assumption) | (simp; done)) (lk1 (by first | assumption | (apply Ne.symm; assumption) | (simp; done)) (by assumption)))) | exact lk1 (by first | assumption | (apply Ne.symm; assumption) | (simp; done)) (lk1 (by first | assumption | (apply Ne.symm; assumption) | (simp; done)) (lk1 (by first | assumption | (apply Ne.symm; assumption) | (simp; done)) (lk1 (by first | assumption | (apply Ne.symm; assumption) | (simp; done)) (va_up_self _ _ _))))) (by first | rfl | assumption) ?_
          refine pw_bipush (pc := 100) (nI 13) dX8_list_100 (by decide) ?_
          refine pw_iload_n (pc := 102) dX8_list_102 rfl ?_
          refine pw_imul (pc := 103) dX8_list_103 ?_
          refine pw_iconst (pc := 104) (nI 1) dX8_list_104 (by decide) ?_
          refine pw_iadd (pc := 105) dX8_list_105 ?_
          refine pw_iload_n (pc := 106) dX8_list_106 rfl ?_
          refine pw_iadd (pc := 107) dX8_list_107 ?_
          refine pw_aload_n (pc := 108) dX8_list_108 rfl ?_
          refine pw_get (pc := 109) fg_X8_23 dX8_list_109 (by first | assumption | exact va_up_self _ _ _ | exact lk1 (by first | assumption | (apply Ne.symm; assumption) | (simp; done)) (by assumption) | exact lk1 (by first | assumption | (apply Ne.symm; assumption) | (simp; done)) (va_up_self _ _ _) | exact lk1 (by first | assumption | (apply Ne.symm; assumption) | (simp; done)) (lk1 (by first | assumption | (apply Ne.symm; assumption) | (simp; done)) (by assumption)) | exact lk1 (by first | assumption | (apply Ne.symm; assumption) | (simp; done)) (lk1 (by first | assumption | (apply Ne.symm; assumption) | (simp; done)) (va_up_self _ _ _)) | exact lk1 (by first | assumption | (apply Ne.symm; assumption) | (simp; done)) (lk1 (by first | assumption | (apply Ne.symm; assumption) | (simp; done)) (lk1 (by first | assumption | (apply Ne.symm; assumption) | (simp; done)) (by assumption))) | exact lk1 (by first | assumption | (apply Ne.symm; assumption) | (simp; done)) (lk1 (by first | assumption | (apply Ne.symm; assumption) | (simp; done)) (lk1 (by first | assumption | (apply Ne.symm; assumption) | (simp; done)) (va_up_self _ _ _))) | exact lk1 (by first | assumption | (apply Ne.symm; assumption) | (simp; done)) (lk1 (by first | assumption | (apply Ne.symm; assumption) | (simp; done)) (lk1 (by first | assumption | (apply Ne.symm; assumption) | (simp; done)) (lk1 (by first | assumption | (apply Ne.symm; assumption) | (simp; done)) (by assumption)))) | exact lk1 (by first | assumption | (apply Ne.symm; assumption) | (simp; done)) (lk1 (by first | assumption | (apply Ne.symm; assumption) | (simp; done)) (lk1 (by first | assumption | (apply Ne.symm; assumption) | (simp; done)) (lk1 (by first | assumption | (apply Ne.symm; assumption) | (simp; done)) (va_up_self _ _ _))))) (by first | rfl | assumption) ?_
          refine pw_iload_n (pc := 112) dX8_list_112 rfl ?_
          refine pw_iald (pc := 113) (k) dX8_list_113 (by first | assumption | exact va_up_self _ _ _ | exact lk1 (by first | assumption | (apply Ne.symm; assumption) | (simp; done)) (by assumption) | exact lk1 (by first | assumption | (apply Ne.symm; assumption) | (simp; done)) (va_up_self _ _ _) | exact lk1 (by first | assumption | (apply Ne.symm; assumption) | (simp; done)) (lk1 (by first | assumption | (apply Ne.symm; assumption) | (simp; done)) (by assumption)) | exact lk1 (by first | assumption | (apply Ne.symm; assumption) | (simp; done)) (lk1 (by first | assumption | (apply Ne.symm; assumption) | (simp; done)) (va_up_self _ _ _)) | exact lk1 (by first | assumption | (apply Ne.symm; assumption) | (simp; done)) (lk1 (by first | assumption | (apply Ne.symm; assumption) | (simp; done)) (lk1 (by first | assumption | (apply Ne.symm; assumption) | (simp; done)) (by assumption))) | exact lk1 (by first | assumption | (apply Ne.symm; assumption) | (simp; done)) (lk1 (by first | assumption | (apply Ne.symm; assumption) | (simp; done)) (lk1 (by first | assumption | (apply Ne.symm; assumption) | (simp; done)) (va_up_self _ _ _))) | exact lk1 (by first | assumption | (apply Ne.symm; assumption) | (simp; done)) (lk1 (by first | assumption | (apply Ne.symm; assumption) | (simp; done)) (lk1 (by first | assumption | (apply Ne.symm; assumption) | (simp; done)) (lk1 (by first | assumption | (apply Ne.symm; assumption) | (simp; done)) (by assumption)))) | exact lk1 (by first | assumption | (apply Ne.symm; assumption) | (simp; done)) (lk1 (by first | assumption | (apply Ne.symm; assumption) | (simp; done)) (lk1 (by first | assumption | (apply Ne.symm; assumption) | (simp; done)) (lk1 (by first | assumption | (apply Ne.symm; assumption) | (simp; done)) (va_up_self _ _ _))))) (by first | assumption | rfl | (simp only [nI_add, pk_mul, Nat.one_mul, Nat.mul_one, Nat.zero_add, Nat.add_zero, Nat.mul_zero]; done) | exact pk_sub (by omega) | (rw [pk_sub (by omega)]; first | done | (rw [nI_add]; done) | (rw [pk_sub (by omega)]; done) | (rw [pk_sub (by omega), nI_add]; done)) | (simp only [nI_add, pk_mul]; first | exact pk_sub (by omega) | (congr 1; omega)) | (congr 1; omega)) (by omega) (by omega) ?_
          refine pw_bipush (pc := 114) (nI 97) dX8_list_114 (by decide) ?_
          refine pw_isub (pc := 116) dX8_list_116 ?_
          refine pw_iast (pc := 117) (13 * j + 1 + k) dX8_list_117 (by first | assumption | exact va_up_self _ _ _ | exact lk1 (by first | assumption | (apply Ne.symm; assumption) | (simp; done)) (by assumption) | exact lk1 (by first | assumption | (apply Ne.symm; assumption) | (simp; done)) (va_up_self _ _ _) | exact lk1 (by first | assumption | (apply Ne.symm; assumption) | (simp; done)) (lk1 (by first | assumption | (apply Ne.symm; assumption) | (simp; done)) (by assumption)) | exact lk1 (by first | assumption | (apply Ne.symm; assumption) | (simp; done)) (lk1 (by first | assumption | (apply Ne.symm; assumption) | (simp; done)) (va_up_self _ _ _)) | exact lk1 (by first | assumption | (apply Ne.symm; assumption) | (simp; done)) (lk1 (by first | assumption | (apply Ne.symm; assumption) | (simp; done)) (lk1 (by first | assumption | (apply Ne.symm; assumption) | (simp; done)) (by assumption))) | exact lk1 (by first | assumption | (apply Ne.symm; assumption) | (simp; done)) (lk1 (by first | assumption | (apply Ne.symm; assumption) | (simp; done)) (lk1 (by first | assumption | (apply Ne.symm; assumption) | (simp; done)) (va_up_self _ _ _))) | exact lk1 (by first | assumption | (apply Ne.symm; assumption) | (simp; done)) (lk1 (by first | assumption | (apply Ne.symm; assumption) | (simp; done)) (lk1 (by first | assumption | (apply Ne.symm; assumption) | (simp; done)) (lk1 (by first | assumption | (apply Ne.symm; assumption) | (simp; done)) (by assumption)))) | exact lk1 (by first | assumption | (apply Ne.symm; assumption) | (simp; done)) (lk1 (by first | assumption | (apply Ne.symm; assumption) | (simp; done)) (lk1 (by first | assumption | (apply Ne.symm; assumption) | (simp; done)) (lk1 (by first | assumption | (apply Ne.symm; assumption) | (simp; done)) (va_up_self _ _ _))))) (by first | assumption | rfl | (simp only [nI_add, pk_mul, Nat.one_mul, Nat.mul_one, Nat.zero_add, Nat.add_zero, Nat.mul_zero]; done) | exact pk_sub (by omega) | (rw [pk_sub (by omega)]; first | done | (rw [nI_add]; done) | (rw [pk_sub (by omega)]; done) | (rw [pk_sub (by omega), nI_add]; done)) | (simp only [nI_add, pk_mul]; first | exact pk_sub (by omega) | (congr 1; omega)) | (congr 1; omega)) (by omega) (by omega) ?_
          refine pw_iinc3 (pc := 118) (nI (k + 1)) dX8_list_118 (Nat.le_of_ble_eq_true rfl) rfl (ni_inc _) ?_
          refine pw_goto (pc := 121) 88 dX8_list_121 (by decide) ?_
          rw [← ei]
          refine pw_heap ?_ (ih (k + 1) w1 w2 (by omega))
          rw [bx_uu, ← putF_s]
    have loop : ∀ p k sn w2, k + p = (sT S).length → flt gt sn k p = fltT (sT S) → k ≤ 12 → PW (KX E mX8_list n (QM m h (some (.int (a_list S i))) (n_list S i))) 18 [.ref m, .int i, .int sn, .int (nI k), w2] [] h0 n 0 := by
      intro p
      induction p with
      | zero =>
        intro k sn w2 hk e hk12
        refine pw_iload_n (pc := 18) dX8_list_18 rfl ?_
        refine pw_aload_n (pc := 19) dX8_list_19 rfl ?_
        refine pw_get (pc := 20) fg_X8_76 dX8_list_20 (by first | assumption | exact va_up_self _ _ _ | exact lk1 (by first | assumption | (apply Ne.symm; assumption) | (simp; done)) (by assumption) | exact lk1 (by first | assumption | (apply Ne.symm; assumption) | (simp; done)) (va_up_self _ _ _) | exact lk1 (by first | assumption | (apply Ne.symm; assumption) | (simp; done)) (lk1 (by first | assumption | (apply Ne.symm; assumption) | (simp; done)) (by assumption)) | exact lk1 (by first | assumption | (apply Ne.symm; assumption) | (simp; done)) (lk1 (by first | assumption | (apply Ne.symm; assumption) | (simp; done)) (va_up_self _ _ _)) | exact lk1 (by first | assumption | (apply Ne.symm; assumption) | (simp; done)) (lk1 (by first | assumption | (apply Ne.symm; assumption) | (simp; done)) (lk1 (by first | assumption | (apply Ne.symm; assumption) | (simp; done)) (by assumption))) | exact lk1 (by first | assumption | (apply Ne.symm; assumption) | (simp; done)) (lk1 (by first | assumption | (apply Ne.symm; assumption) | (simp; done)) (lk1 (by first | assumption | (apply Ne.symm; assumption) | (simp; done)) (va_up_self _ _ _))) | exact lk1 (by first | assumption | (apply Ne.symm; assumption) | (simp; done)) (lk1 (by first | assumption | (apply Ne.symm; assumption) | (simp; done)) (lk1 (by first | assumption | (apply Ne.symm; assumption) | (simp; done)) (lk1 (by first | assumption | (apply Ne.symm; assumption) | (simp; done)) (by assumption)))) | exact lk1 (by first | assumption | (apply Ne.symm; assumption) | (simp; done)) (lk1 (by first | assumption | (apply Ne.symm; assumption) | (simp; done)) (lk1 (by first | assumption | (apply Ne.symm; assumption) | (simp; done)) (lk1 (by first | assumption | (apply Ne.symm; assumption) | (simp; done)) (va_up_self _ _ _))))) (by first | rfl | assumption) ?_
        refine pw_icmp_ge_n (pc := 23) 86 dX8_list_23 (by decide) (by omega) (by omega) (fun c => ?_) (fun c => ?_)
        · refine pw_iconst (pc := 86) (nI 0) dX8_list_86 (by decide) ?_
          refine pw_ist3 (pc := 87) dX8_list_87 (Nat.le_of_ble_eq_true rfl) rfl ?_
          refine pw_heap ?_ (loop2 (by rw [← e]; rfl) (by omega) (sT S).length 0 _ _ (by omega))
          funext q
          rw [putF_0]
          by_cases hq : q = m + 1
          · subst hq; rw [va_up_self, u1]
          · rw [va_up_ne _ _ hq]
        · omega
      | succ p ih =>
        intro k sn w2 hk e hk12
        have stop : (rg 97 122 (gt k) = false ∨ inB sn (gt k - nI 97) = true ∨ 12 ≤ k) → PW (KX E mX8_list n (QM m h (some (.int (a_list S i))) (n_list S i))) 65 [.ref m, .int i, .int sn, .int (nI k), .int (gt k)] [] h0 n 0 := by
          intro hs
          have ef : fltT (sT S) = nI k := by rw [← e, flt, if_pos hs]
          refine pw_bipush (pc := 65) (-10) dX8_list_65 (by decide) ?_
          refine pw_iload_n (pc := 67) dX8_list_67 rfl ?_
          refine pw_isub (pc := 68) dX8_list_68 ?_
          refine pw_iret dX8_list_69 rfl ⟨?_, ?_, on0⟩
          · rw [a_list, z, if_pos rfl, ef, if_neg (ni_ne9 (by omega))]
          · rw [n_list, if_neg (fun q => by have := q.2; rw [ef] at this; exact ni_ne9 (by omega) this)]; exact hm0
        refine pw_iload_n (pc := 18) dX8_list_18 rfl ?_
        refine pw_aload_n (pc := 19) dX8_list_19 rfl ?_
        refine pw_get (pc := 20) fg_X8_76 dX8_list_20 (by first | assumption | exact va_up_self _ _ _ | exact lk1 (by first | assumption | (apply Ne.symm; assumption) | (simp; done)) (by assumption) | exact lk1 (by first | assumption | (apply Ne.symm; assumption) | (simp; done)) (va_up_self _ _ _) | exact lk1 (by first | assumption | (apply Ne.symm; assumption) | (simp; done)) (lk1 (by first | assumption | (apply Ne.symm; assumption) | (simp; done)) (by assumption)) | exact lk1 (by first | assumption | (apply Ne.symm; assumption) | (simp; done)) (lk1 (by first | assumption | (apply Ne.symm; assumption) | (simp; done)) (va_up_self _ _ _)) | exact lk1 (by first | assumption | (apply Ne.symm; assumption) | (simp; done)) (lk1 (by first | assumption | (apply Ne.symm; assumption) | (simp; done)) (lk1 (by first | assumption | (apply Ne.symm; assumption) | (simp; done)) (by assumption))) | exact lk1 (by first | assumption | (apply Ne.symm; assumption) | (simp; done)) (lk1 (by first | assumption | (apply Ne.symm; assumption) | (simp; done)) (lk1 (by first | assumption | (apply Ne.symm; assumption) | (simp; done)) (va_up_self _ _ _))) | exact lk1 (by first | assumption | (apply Ne.symm; assumption) | (simp; done)) (lk1 (by first | assumption | (apply Ne.symm; assumption) | (simp; done)) (lk1 (by first | assumption | (apply Ne.symm; assumption) | (simp; done)) (lk1 (by first | assumption | (apply Ne.symm; assumption) | (simp; done)) (by assumption)))) | exact lk1 (by first | assumption | (apply Ne.symm; assumption) | (simp; done)) (lk1 (by first | assumption | (apply Ne.symm; assumption) | (simp; done)) (lk1 (by first | assumption | (apply Ne.symm; assumption) | (simp; done)) (lk1 (by first | assumption | (apply Ne.symm; assumption) | (simp; done)) (va_up_self _ _ _))))) (by first | rfl | assumption) ?_
        refine pw_icmp_ge_n (pc := 23) 86 dX8_list_23 (by decide) (by omega) (by omega) (fun c => ?_) (fun c => ?_)
        · omega
        · refine pw_aload_n (pc := 26) dX8_list_26 rfl ?_
          refine pw_get (pc := 27) fg_X8_23 dX8_list_27 (by first | assumption | exact va_up_self _ _ _ | exact lk1 (by first | assumption | (apply Ne.symm; assumption) | (simp; done)) (by assumption) | exact lk1 (by first | assumption | (apply Ne.symm; assumption) | (simp; done)) (va_up_self _ _ _) | exact lk1 (by first | assumption | (apply Ne.symm; assumption) | (simp; done)) (lk1 (by first | assumption | (apply Ne.symm; assumption) | (simp; done)) (by assumption)) | exact lk1 (by first | assumption | (apply Ne.symm; assumption) | (simp; done)) (lk1 (by first | assumption | (apply Ne.symm; assumption) | (simp; done)) (va_up_self _ _ _)) | exact lk1 (by first | assumption | (apply Ne.symm; assumption) | (simp; done)) (lk1 (by first | assumption | (apply Ne.symm; assumption) | (simp; done)) (lk1 (by first | assumption | (apply Ne.symm; assumption) | (simp; done)) (by assumption))) | exact lk1 (by first | assumption | (apply Ne.symm; assumption) | (simp; done)) (lk1 (by first | assumption | (apply Ne.symm; assumption) | (simp; done)) (lk1 (by first | assumption | (apply Ne.symm; assumption) | (simp; done)) (va_up_self _ _ _))) | exact lk1 (by first | assumption | (apply Ne.symm; assumption) | (simp; done)) (lk1 (by first | assumption | (apply Ne.symm; assumption) | (simp; done)) (lk1 (by first | assumption | (apply Ne.symm; assumption) | (simp; done)) (lk1 (by first | assumption | (apply Ne.symm; assumption) | (simp; done)) (by assumption)))) | exact lk1 (by first | assumption | (apply Ne.symm; assumption) | (simp; done)) (lk1 (by first | assumption | (apply Ne.symm; assumption) | (simp; done)) (lk1 (by first | assumption | (apply Ne.symm; assumption) | (simp; done)) (lk1 (by first | assumption | (apply Ne.symm; assumption) | (simp; done)) (va_up_self _ _ _))))) (by first | rfl | assumption) ?_
          refine pw_iload_n (pc := 30) dX8_list_30 rfl ?_
          refine pw_iald (pc := 31) (k) dX8_list_31 (by first | assumption | exact va_up_self _ _ _ | exact lk1 (by first | assumption | (apply Ne.symm; assumption) | (simp; done)) (by assumption) | exact lk1 (by first | assumption | (apply Ne.symm; assumption) | (simp; done)) (va_up_self _ _ _) | exact lk1 (by first | assumption | (apply Ne.symm; assumption) | (simp; done)) (lk1 (by first | assumption | (apply Ne.symm; assumption) | (simp; done)) (by assumption)) | exact lk1 (by first | assumption | (apply Ne.symm; assumption) | (simp; done)) (lk1 (by first | assumption | (apply Ne.symm; assumption) | (simp; done)) (va_up_self _ _ _)) | exact lk1 (by first | assumption | (apply Ne.symm; assumption) | (simp; done)) (lk1 (by first | assumption | (apply Ne.symm; assumption) | (simp; done)) (lk1 (by first | assumption | (apply Ne.symm; assumption) | (simp; done)) (by assumption))) | exact lk1 (by first | assumption | (apply Ne.symm; assumption) | (simp; done)) (lk1 (by first | assumption | (apply Ne.symm; assumption) | (simp; done)) (lk1 (by first | assumption | (apply Ne.symm; assumption) | (simp; done)) (va_up_self _ _ _))) | exact lk1 (by first | assumption | (apply Ne.symm; assumption) | (simp; done)) (lk1 (by first | assumption | (apply Ne.symm; assumption) | (simp; done)) (lk1 (by first | assumption | (apply Ne.symm; assumption) | (simp; done)) (lk1 (by first | assumption | (apply Ne.symm; assumption) | (simp; done)) (by assumption)))) | exact lk1 (by first | assumption | (apply Ne.symm; assumption) | (simp; done)) (lk1 (by first | assumption | (apply Ne.symm; assumption) | (simp; done)) (lk1 (by first | assumption | (apply Ne.symm; assumption) | (simp; done)) (lk1 (by first | assumption | (apply Ne.symm; assumption) | (simp; done)) (va_up_self _ _ _))))) (by first | assumption | rfl | (simp only [nI_add, pk_mul, Nat.one_mul, Nat.mul_one, Nat.zero_add, Nat.add_zero, Nat.mul_zero]; done) | exact pk_sub (by omega) | (rw [pk_sub (by omega)]; first | done | (rw [nI_add]; done) | (rw [pk_sub (by omega)]; done) | (rw [pk_sub (by omega), nI_add]; done)) | (simp only [nI_add, pk_mul]; first | exact pk_sub (by omega) | (congr 1; omega)) | (congr 1; omega)) (by omega) (by omega) ?_
          refine pw_ist4 (pc := 32) dX8_list_32 (Nat.le_of_ble_eq_true rfl) rfl ?_
          refine pw_iload_n (pc := 34) dX8_list_34 rfl ?_
          refine pw_bipush (pc := 35) (nI 12) dX8_list_35 (by decide) ?_
          refine pw_icmp_eq_n (pc := 37) 65 dX8_list_37 (by decide) (by omega) (by omega) (fun z1 => ?_) (fun z1 => ?_)
          · exact stop (Or.inr (Or.inr (by omega)))
          · refine pw_iload (pc := 40) dX8_list_40 rfl ?_
            refine pw_bipush (pc := 42) (nI 97) dX8_list_42 (by decide) ?_
            refine pw_bipush (pc := 44) (nI 122) dX8_list_44 (by decide) ?_
            refine pw_callS_i (pc := 46) cs_X8_64 dX8_list_46 (c_in _ (nI 97) (nI 122)) rfl rfl (Nat.le_of_ble_eq_true rfl) ⟨(Nat.le_of_ble_eq_true rfl), (Nat.le_of_ble_eq_true rfl)⟩ ?_
            refine pw_if_eq_b (pc := 49) 65 dX8_list_49 (by decide) (fun z2 => ?_) (fun z2 => ?_)
            · exact stop (Or.inl z2)
            · refine pw_iload_n (pc := 52) dX8_list_52 rfl ?_
              refine pw_iload (pc := 53) dX8_list_53 rfl ?_
              refine pw_bipush (pc := 55) (nI 97) dX8_list_55 (by decide) ?_
              refine pw_isub (pc := 57) dX8_list_57 ?_
              refine pw_ishr (pc := 58) dX8_list_58 ?_
              refine pw_iconst (pc := 59) (nI 1) dX8_list_59 (by decide) ?_
              refine pw_iand (pc := 60) dX8_list_60 ?_
              refine pw_iconst (pc := 61) (nI 1) dX8_list_61 (by decide) ?_
              refine pw_icmp_ne (pc := 62) 70 dX8_list_62 (by decide) (fun z3 => ?_) (fun z3 => ?_)
              · have z4 : ¬ inB sn (gt k - nI 97) = true := fun q => z3 ((inB_1 _ _).mpr q)
                refine pw_iload_n (pc := 70) dX8_list_70 rfl ?_
                refine pw_iconst (pc := 71) (nI 1) dX8_list_71 (by decide) ?_
                refine pw_iload (pc := 72) dX8_list_72 rfl ?_
                refine pw_bipush (pc := 74) (nI 97) dX8_list_74 (by decide) ?_
                refine pw_isub (pc := 76) dX8_list_76 ?_
                refine pw_ishl (pc := 77) dX8_list_77 ?_
                refine pw_ior (pc := 78) dX8_list_78 ?_
                refine pw_ist2 (pc := 79) dX8_list_79 (Nat.le_of_ble_eq_true rfl) rfl ?_
                refine pw_iinc3 (pc := 80) (nI (k + 1)) dX8_list_80 (Nat.le_of_ble_eq_true rfl) rfl (ni_inc _) ?_
                refine pw_goto (pc := 83) 18 dX8_list_83 (by decide) ?_
                refine ih (k + 1) _ _ (by omega) ?_ (by omega)
                rw [← e, flt, if_neg (by rw [show rg 97 122 (gt k) = true from z2]; simp [z4]; omega)]
              · exact stop (Or.inr (Or.inl ((inB_1 _ _).mp z3)))
    refine pw_iconst (pc := 14) (nI 0) dX8_list_14 (by decide) ?_
    refine pw_ist2 (pc := 15) dX8_list_15 (Nat.le_of_ble_eq_true rfl) rfl ?_
    refine pw_iconst (pc := 16) (nI 0) dX8_list_16 (by decide) ?_
    refine pw_ist3 (pc := 17) dX8_list_17 (Nat.le_of_ble_eq_true rfl) rfl ?_
    exact loop (sT S).length 0 (nI 0) _ (by omega) fE (by omega)
  · refine pw_iconst (pc := 12) (-1) dX8_list_12 (by decide) ?_
    refine pw_iret dX8_list_13 rfl ⟨?_, ?_, on0⟩
    · rw [a_list, z]; rfl
    · rw [n_list, if_neg (fun q => by rw [z] at q; cases q.1)]; exact hm0
theorem o_count (hm : modP h m S) (x : Int32) : PM E mX8_count [.ref m, .int x] h n n 0 (QM m h (some (.int (a_count S x))) S) := by
  obtain ⟨⟨th, nx, tk, pl, vl, ft, sz, nm, m0⟩, ma⟩ := id hm
  obtain ⟨⟨gs, q1, k1⟩, -⟩ := id ma
  have e0 : ∀ z : Int32, z + nI 0 = z := fun z => by rw [show nI 0 = 0 from rfl, Int32.add_zero]
  have en1 : nI 1 = 1 := rfl
  refine PM.of [.ref m, .int x, .null, .null, .null] rfl (Nat.le_of_ble_eq_true rfl) rfl ?_
  refine pw_aload_n (pc := 0) dX8_count_0 rfl ?_
  refine pw_iconst (pc := 1) (nI 0) dX8_count_1 (by decide) ?_
  refine pw_put0 (pc := 2) fp_X8_61 dX8_count_2 (by first | assumption | exact va_up_self _ _ _ | exact lk1 (by first | assumption | (apply Ne.symm; assumption) | (simp; done)) (by assumption) | exact lk1 (by first | assumption | (apply Ne.symm; assumption) | (simp; done)) (va_up_self _ _ _) | exact lk1 (by first | assumption | (apply Ne.symm; assumption) | (simp; done)) (lk1 (by first | assumption | (apply Ne.symm; assumption) | (simp; done)) (by assumption)) | exact lk1 (by first | assumption | (apply Ne.symm; assumption) | (simp; done)) (lk1 (by first | assumption | (apply Ne.symm; assumption) | (simp; done)) (va_up_self _ _ _)) | exact lk1 (by first | assumption | (apply Ne.symm; assumption) | (simp; done)) (lk1 (by first | assumption | (apply Ne.symm; assumption) | (simp; done)) (lk1 (by first | assumption | (apply Ne.symm; assumption) | (simp; done)) (by assumption))) | exact lk1 (by first | assumption | (apply Ne.symm; assumption) | (simp; done)) (lk1 (by first | assumption | (apply Ne.symm; assumption) | (simp; done)) (lk1 (by first | assumption | (apply Ne.symm; assumption) | (simp; done)) (va_up_self _ _ _))) | exact lk1 (by first | assumption | (apply Ne.symm; assumption) | (simp; done)) (lk1 (by first | assumption | (apply Ne.symm; assumption) | (simp; done)) (lk1 (by first | assumption | (apply Ne.symm; assumption) | (simp; done)) (lk1 (by first | assumption | (apply Ne.symm; assumption) | (simp; done)) (by assumption)))) | exact lk1 (by first | assumption | (apply Ne.symm; assumption) | (simp; done)) (lk1 (by first | assumption | (apply Ne.symm; assumption) | (simp; done)) (lk1 (by first | assumption | (apply Ne.symm; assumption) | (simp; done)) (lk1 (by first | assumption | (apply Ne.symm; assumption) | (simp; done)) (va_up_self _ _ _))))) rfl rfl ?_
  generalize hh0 : va_up h m (some (.inr (8, mob m (nI 0) (sQ S) (nI (sT S).length) nx tk pl vl ft (sLo S) (sHi S) sz nm))) = h0
  have u0 : h0 m = some (.inr (8, mob m (nI 0) (sQ S) (nI (sT S).length) nx tk pl vl ft (sLo S) (sHi S) sz nm)) := by rw [← hh0]; exact va_up_self _ _ _
  have u1 : h0 (m + 1) = some (.inl (0, 90, .inl gs)) := by rw [← hh0]; exact lk1 (by omega) q1
  have fin : ∀ v0, v0 = a_count S x → QM m h (some (.int (a_count S x))) S (some (.int v0)) h0 := fun v0 e => ⟨by rw [e], ⟨⟨_, _, _, _, _, _, _, _, u0⟩, by rw [← hh0]; exact ma.on up_m⟩, by rw [← hh0]; exact on_m⟩
  have last : PW (KX E mX8_count n (QM m h (some (.int (a_count S x))) S)) 87 [.ref m, .int x, .int (nI (cntN (sCl S) 6)), .int (nI (cntN (sDt S) 26)), .int (nI 26)] [] h0 n 0 := by
    refine pw_iload_n (pc := 87) dX8_count_87 rfl ?_
    refine pw_if_ne (pc := 88) 98 dX8_count_88 (by decide) (fun z => ?_) (fun z => ?_)
    · refine pw_iload_n (pc := 98) dX8_count_98 rfl ?_
      refine pw_iconst (pc := 99) (nI 1) dX8_count_99 (by decide) ?_
      refine pw_icmp_ne (pc := 100) 110 dX8_count_100 (by decide) (fun z1 => ?_) (fun z1 => ?_)
      · refine pw_iload_n (pc := 110) dX8_count_110 rfl ?_
        refine pw_iconst (pc := 111) (nI 2) dX8_count_111 (by decide) ?_
        refine pw_icmp_ne (pc := 112) 119 dX8_count_112 (by decide) (fun z2 => ?_) (fun z2 => ?_)
        · refine pw_iload_n (pc := 119) dX8_count_119 rfl ?_
          refine pw_iconst (pc := 120) (nI 3) dX8_count_120 (by decide) ?_
          refine pw_icmp_ne (pc := 121) 128 dX8_count_121 (by decide) (fun z3 => ?_) (fun z3 => ?_)
          · refine pw_iconst (pc := 128) (-1) dX8_count_128 (by decide) ?_
            exact pw_iret dX8_count_129 rfl (fin _ (by rw [a_count, if_neg z, if_neg (show ¬ x = 1 from z1), if_neg (show ¬ x = 2 from z2), if_neg (show ¬ x = 3 from z3)]))
          · refine pw_iload_n (pc := 124) dX8_count_124 rfl ?_
            refine pw_goto (pc := 125) 129 dX8_count_125 (by decide) ?_
            exact pw_iret dX8_count_129 rfl (fin _ (by rw [a_count, if_neg z, if_neg (show ¬ x = 1 from z1), if_neg (show ¬ x = 2 from z2), if_pos (show x = 3 from z3)]))
        · refine pw_iload_n (pc := 115) dX8_count_115 rfl ?_
          refine pw_goto (pc := 116) 129 dX8_count_116 (by decide) ?_
          exact pw_iret dX8_count_129 rfl (fin _ (by rw [a_count, if_neg z, if_neg (show ¬ x = 1 from z1), if_pos (show x = 2 from z2)]))
      · refine pw_aload_n (pc := 103) dX8_count_103 rfl ?_
        refine pw_get (pc := 104) fg_X8_76 dX8_count_104 (by first | assumption | exact va_up_self _ _ _ | exact lk1 (by first | assumption | (apply Ne.symm; assumption) | (simp; done)) (by assumption) | exact lk1 (by first | assumption | (apply Ne.symm; assumption) | (simp; done)) (va_up_self _ _ _) | exact lk1 (by first | assumption | (apply Ne.symm; assumption) | (simp; done)) (lk1 (by first | assumption | (apply Ne.symm; assumption) | (simp; done)) (by assumption)) | exact lk1 (by first | assumption | (apply Ne.symm; assumption) | (simp; done)) (lk1 (by first | assumption | (apply Ne.symm; assumption) | (simp; done)) (va_up_self _ _ _)) | exact lk1 (by first | assumption | (apply Ne.symm; assumption) | (simp; done)) (lk1 (by first | assumption | (apply Ne.symm; assumption) | (simp; done)) (lk1 (by first | assumption | (apply Ne.symm; assumption) | (simp; done)) (by assumption))) | exact lk1 (by first | assumption | (apply Ne.symm; assumption) | (simp; done)) (lk1 (by first | assumption | (apply Ne.symm; assumption) | (simp; done)) (lk1 (by first | assumption | (apply Ne.symm; assumption) | (simp; done)) (va_up_self _ _ _))) | exact lk1 (by first | assumption | (apply Ne.symm; assumption) | (simp; done)) (lk1 (by first | assumption | (apply Ne.symm; assumption) | (simp; done)) (lk1 (by first | assumption | (apply Ne.symm; assumption) | (simp; done)) (lk1 (by first | assumption | (apply Ne.symm; assumption) | (simp; done)) (by assumption)))) | exact lk1 (by first | assumption | (apply Ne.symm; assumption) | (simp; done)) (lk1 (by first | assumption | (apply Ne.symm; assumption) | (simp; done)) (lk1 (by first | assumption | (apply Ne.symm; assumption) | (simp; done)) (lk1 (by first | assumption | (apply Ne.symm; assumption) | (simp; done)) (va_up_self _ _ _))))) (by first | rfl | assumption) ?_
        refine pw_goto (pc := 107) 129 dX8_count_107 (by decide) ?_
        exact pw_iret dX8_count_129 rfl (fin _ (by rw [a_count, if_neg z, if_pos (show x = 1 from z1)]))
    · refine pw_aload_n (pc := 91) dX8_count_91 rfl ?_
      refine pw_callV_i (pc := 92) cv_X8_204 dX8_count_92 (by first | assumption | exact va_up_self _ _ _ | exact lk1 (by first | assumption | (apply Ne.symm; assumption) | (simp; done)) (by assumption) | exact lk1 (by first | assumption | (apply Ne.symm; assumption) | (simp; done)) (va_up_self _ _ _) | exact lk1 (by first | assumption | (apply Ne.symm; assumption) | (simp; done)) (lk1 (by first | assumption | (apply Ne.symm; assumption) | (simp; done)) (by assumption)) | exact lk1 (by first | assumption | (apply Ne.symm; assumption) | (simp; done)) (lk1 (by first | assumption | (apply Ne.symm; assumption) | (simp; done)) (va_up_self _ _ _)) | exact lk1 (by first | assumption | (apply Ne.symm; assumption) | (simp; done)) (lk1 (by first | assumption | (apply Ne.symm; assumption) | (simp; done)) (lk1 (by first | assumption | (apply Ne.symm; assumption) | (simp; done)) (by assumption))) | exact lk1 (by first | assumption | (apply Ne.symm; assumption) | (simp; done)) (lk1 (by first | assumption | (apply Ne.symm; assumption) | (simp; done)) (lk1 (by first | assumption | (apply Ne.symm; assumption) | (simp; done)) (va_up_self _ _ _))) | exact lk1 (by first | assumption | (apply Ne.symm; assumption) | (simp; done)) (lk1 (by first | assumption | (apply Ne.symm; assumption) | (simp; done)) (lk1 (by first | assumption | (apply Ne.symm; assumption) | (simp; done)) (lk1 (by first | assumption | (apply Ne.symm; assumption) | (simp; done)) (by assumption)))) | exact lk1 (by first | assumption | (apply Ne.symm; assumption) | (simp; done)) (lk1 (by first | assumption | (apply Ne.symm; assumption) | (simp; done)) (lk1 (by first | assumption | (apply Ne.symm; assumption) | (simp; done)) (lk1 (by first | assumption | (apply Ne.symm; assumption) | (simp; done)) (va_up_self _ _ _))))) rfl (c_mtogether u0 rfl u1 k1) rfl rfl (Nat.le_of_ble_eq_true rfl) ⟨(Nat.le_of_ble_eq_true rfl), (Nat.le_of_ble_eq_true rfl)⟩ ?_
      refine pw_goto (pc := 95) 129 dX8_count_95 (by decide) ?_
      exact pw_iret dX8_count_129 rfl (fin _ (by rw [a_count, if_pos z]))
  have loop2 : ∀ p k, k + p = 26 → PW (KX E mX8_count n (QM m h (some (.int (a_count S x))) S)) 51 [.ref m, .int x, .int (nI (cntN (sCl S) 6)), .int (nI (cntN (sDt S) k)), .int (nI k)] [] h0 n 0 := by
    intro p
    induction p with
    | zero =>
      intro k hk
      refine pw_iload (pc := 51) dX8_count_51 rfl ?_
      refine pw_bipush (pc := 53) (nI 26) dX8_count_53 (by decide) ?_
      refine pw_icmp_ge_n (pc := 55) 87 dX8_count_55 (by decide) (by omega) (by omega) (fun c => ?_) (fun c => ?_)
      · obtain rfl : k = 26 := by omega
        exact last
      · omega
    | succ p ih =>
      intro k hk
      refine pw_iload (pc := 51) dX8_count_51 rfl ?_
      refine pw_bipush (pc := 53) (nI 26) dX8_count_53 (by decide) ?_
      refine pw_icmp_ge_n (pc := 55) 87 dX8_count_55 (by decide) (by omega) (by omega) (fun c => ?_) (fun c => ?_)
      · omega
      · refine pw_iload_n (pc := 58) dX8_count_58 rfl ?_
        refine pw_aload_n (pc := 59) dX8_count_59 rfl ?_
        refine pw_get (pc := 60) fg_X8_7 dX8_count_60 (by first | assumption | exact va_up_self _ _ _ | exact lk1 (by first | assumption | (apply Ne.symm; assumption) | (simp; done)) (by assumption) | exact lk1 (by first | assumption | (apply Ne.symm; assumption) | (simp; done)) (va_up_self _ _ _) | exact lk1 (by first | assumption | (apply Ne.symm; assumption) | (simp; done)) (lk1 (by first | assumption | (apply Ne.symm; assumption) | (simp; done)) (by assumption)) | exact lk1 (by first | assumption | (apply Ne.symm; assumption) | (simp; done)) (lk1 (by first | assumption | (apply Ne.symm; assumption) | (simp; done)) (va_up_self _ _ _)) | exact lk1 (by first | assumption | (apply Ne.symm; assumption) | (simp; done)) (lk1 (by first | assumption | (apply Ne.symm; assumption) | (simp; done)) (lk1 (by first | assumption | (apply Ne.symm; assumption) | (simp; done)) (by assumption))) | exact lk1 (by first | assumption | (apply Ne.symm; assumption) | (simp; done)) (lk1 (by first | assumption | (apply Ne.symm; assumption) | (simp; done)) (lk1 (by first | assumption | (apply Ne.symm; assumption) | (simp; done)) (va_up_self _ _ _))) | exact lk1 (by first | assumption | (apply Ne.symm; assumption) | (simp; done)) (lk1 (by first | assumption | (apply Ne.symm; assumption) | (simp; done)) (lk1 (by first | assumption | (apply Ne.symm; assumption) | (simp; done)) (lk1 (by first | assumption | (apply Ne.symm; assumption) | (simp; done)) (by assumption)))) | exact lk1 (by first | assumption | (apply Ne.symm; assumption) | (simp; done)) (lk1 (by first | assumption | (apply Ne.symm; assumption) | (simp; done)) (lk1 (by first | assumption | (apply Ne.symm; assumption) | (simp; done)) (lk1 (by first | assumption | (apply Ne.symm; assumption) | (simp; done)) (va_up_self _ _ _))))) (by first | rfl | assumption) ?_
        refine pw_bipush (pc := 63) (nI 64) dX8_count_63 (by decide) ?_
        refine pw_iload (pc := 65) dX8_count_65 rfl ?_
        refine pw_iadd (pc := 67) dX8_count_67 ?_
        refine pw_iald (pc := 68) (64 + k) dX8_count_68 (by first | assumption | exact va_up_self _ _ _ | exact lk1 (by first | assumption | (apply Ne.symm; assumption) | (simp; done)) (by assumption) | exact lk1 (by first | assumption | (apply Ne.symm; assumption) | (simp; done)) (va_up_self _ _ _) | exact lk1 (by first | assumption | (apply Ne.symm; assumption) | (simp; done)) (lk1 (by first | assumption | (apply Ne.symm; assumption) | (simp; done)) (by assumption)) | exact lk1 (by first | assumption | (apply Ne.symm; assumption) | (simp; done)) (lk1 (by first | assumption | (apply Ne.symm; assumption) | (simp; done)) (va_up_self _ _ _)) | exact lk1 (by first | assumption | (apply Ne.symm; assumption) | (simp; done)) (lk1 (by first | assumption | (apply Ne.symm; assumption) | (simp; done)) (lk1 (by first | assumption | (apply Ne.symm; assumption) | (simp; done)) (by assumption))) | exact lk1 (by first | assumption | (apply Ne.symm; assumption) | (simp; done)) (lk1 (by first | assumption | (apply Ne.symm; assumption) | (simp; done)) (lk1 (by first | assumption | (apply Ne.symm; assumption) | (simp; done)) (va_up_self _ _ _))) | exact lk1 (by first | assumption | (apply Ne.symm; assumption) | (simp; done)) (lk1 (by first | assumption | (apply Ne.symm; assumption) | (simp; done)) (lk1 (by first | assumption | (apply Ne.symm; assumption) | (simp; done)) (lk1 (by first | assumption | (apply Ne.symm; assumption) | (simp; done)) (by assumption)))) | exact lk1 (by first | assumption | (apply Ne.symm; assumption) | (simp; done)) (lk1 (by first | assumption | (apply Ne.symm; assumption) | (simp; done)) (lk1 (by first | assumption | (apply Ne.symm; assumption) | (simp; done)) (lk1 (by first | assumption | (apply Ne.symm; assumption) | (simp; done)) (va_up_self _ _ _))))) (by first | assumption | rfl | (simp only [nI_add, pk_mul, Nat.one_mul, Nat.mul_one, Nat.zero_add, Nat.add_zero, Nat.mul_zero]; done) | exact pk_sub (by omega) | (rw [pk_sub (by omega)]; first | done | (rw [nI_add]; done) | (rw [pk_sub (by omega)]; done) | (rw [pk_sub (by omega), nI_add]; done)) | (simp only [nI_add, pk_mul]; first | exact pk_sub (by omega) | (congr 1; omega)) | (congr 1; omega)) (by omega) (by omega) ?_
        refine pw_bipush (pc := 69) (-9) dX8_count_69 (by decide) ?_
        rw [k1.z.2.2.2.2 k (by omega)]
        refine pw_icmp_eq (pc := 71) 78 dX8_count_71 (by decide) (fun z => ?_) (fun z => ?_)
        · refine pw_iconst (pc := 78) (nI 0) dX8_count_78 (by decide) ?_
          refine pw_iadd (pc := 79) dX8_count_79 ?_
          rw [e0]
          refine pw_ist3 (pc := 80) dX8_count_80 (Nat.le_of_ble_eq_true rfl) rfl ?_
          refine pw_iinc4 (pc := 81) (nI (k + 1)) dX8_count_81 (Nat.le_of_ble_eq_true rfl) rfl (ni_inc _) ?_
          refine pw_goto (pc := 84) 51 dX8_count_84 (by decide) ?_
          have e : cntN (sDt S) (k + 1) = cntN (sDt S) k := by rw [cntN, if_pos z]; rfl
          rw [← e]; exact ih (k + 1) (by omega)
        · refine pw_iconst (pc := 74) (nI 1) dX8_count_74 (by decide) ?_
          refine pw_goto (pc := 75) 79 dX8_count_75 (by decide) ?_
          refine pw_iadd (pc := 79) dX8_count_79 ?_
          rw [nI_add]
          refine pw_ist3 (pc := 80) dX8_count_80 (Nat.le_of_ble_eq_true rfl) rfl ?_
          refine pw_iinc4 (pc := 81) (nI (k + 1)) dX8_count_81 (Nat.le_of_ble_eq_true rfl) rfl (ni_inc _) ?_
          refine pw_goto (pc := 84) 51 dX8_count_84 (by decide) ?_
          have e : cntN (sDt S) (k + 1) = cntN (sDt S) k + 1 := by rw [cntN, if_neg z]
          rw [← e]; exact ih (k + 1) (by omega)
  have loop1 : ∀ p k, k + p = 6 → PW (KX E mX8_count n (QM m h (some (.int (a_count S x))) S)) 12 [.ref m, .int x, .int (nI (cntN (sCl S) k)), .int (nI 0), .int (nI k)] [] h0 n 0 := by
    intro p
    induction p with
    | zero =>
      intro k hk
      refine pw_iload (pc := 12) dX8_count_12 rfl ?_
      refine pw_bipush (pc := 14) (nI 6) dX8_count_14 (by decide) ?_
      refine pw_icmp_ge_n (pc := 16) 48 dX8_count_16 (by decide) (by omega) (by omega) (fun c => ?_) (fun c => ?_)
      · obtain rfl : k = 6 := by omega
        refine pw_iconst (pc := 48) (nI 0) dX8_count_48 (by decide) ?_
        refine pw_ist4 (pc := 49) dX8_count_49 (Nat.le_of_ble_eq_true rfl) rfl ?_
        exact loop2 26 0 (by omega)
      · omega
    | succ p ih =>
      intro k hk
      refine pw_iload (pc := 12) dX8_count_12 rfl ?_
      refine pw_bipush (pc := 14) (nI 6) dX8_count_14 (by decide) ?_
      refine pw_icmp_ge_n (pc := 16) 48 dX8_count_16 (by decide) (by omega) (by omega) (fun c => ?_) (fun c => ?_)
      · omega
      · refine pw_iload_n (pc := 19) dX8_count_19 rfl ?_
        refine pw_aload_n (pc := 20) dX8_count_20 rfl ?_
        refine pw_get (pc := 21) fg_X8_7 dX8_count_21 (by first | assumption | exact va_up_self _ _ _ | exact lk1 (by first | assumption | (apply Ne.symm; assumption) | (simp; done)) (by assumption) | exact lk1 (by first | assumption | (apply Ne.symm; assumption) | (simp; done)) (va_up_self _ _ _) | exact lk1 (by first | assumption | (apply Ne.symm; assumption) | (simp; done)) (lk1 (by first | assumption | (apply Ne.symm; assumption) | (simp; done)) (by assumption)) | exact lk1 (by first | assumption | (apply Ne.symm; assumption) | (simp; done)) (lk1 (by first | assumption | (apply Ne.symm; assumption) | (simp; done)) (va_up_self _ _ _)) | exact lk1 (by first | assumption | (apply Ne.symm; assumption) | (simp; done)) (lk1 (by first | assumption | (apply Ne.symm; assumption) | (simp; done)) (lk1 (by first | assumption | (apply Ne.symm; assumption) | (simp; done)) (by assumption))) | exact lk1 (by first | assumption | (apply Ne.symm; assumption) | (simp; done)) (lk1 (by first | assumption | (apply Ne.symm; assumption) | (simp; done)) (lk1 (by first | assumption | (apply Ne.symm; assumption) | (simp; done)) (va_up_self _ _ _))) | exact lk1 (by first | assumption | (apply Ne.symm; assumption) | (simp; done)) (lk1 (by first | assumption | (apply Ne.symm; assumption) | (simp; done)) (lk1 (by first | assumption | (apply Ne.symm; assumption) | (simp; done)) (lk1 (by first | assumption | (apply Ne.symm; assumption) | (simp; done)) (by assumption)))) | exact lk1 (by first | assumption | (apply Ne.symm; assumption) | (simp; done)) (lk1 (by first | assumption | (apply Ne.symm; assumption) | (simp; done)) (lk1 (by first | assumption | (apply Ne.symm; assumption) | (simp; done)) (lk1 (by first | assumption | (apply Ne.symm; assumption) | (simp; done)) (va_up_self _ _ _))))) (by first | rfl | assumption) ?_
        refine pw_bipush (pc := 24) (nI 58) dX8_count_24 (by decide) ?_
        refine pw_iload (pc := 26) dX8_count_26 rfl ?_
        refine pw_iadd (pc := 28) dX8_count_28 ?_
        refine pw_iald (pc := 29) (58 + k) dX8_count_29 (by first | assumption | exact va_up_self _ _ _ | exact lk1 (by first | assumption | (apply Ne.symm; assumption) | (simp; done)) (by assumption) | exact lk1 (by first | assumption | (apply Ne.symm; assumption) | (simp; done)) (va_up_self _ _ _) | exact lk1 (by first | assumption | (apply Ne.symm; assumption) | (simp; done)) (lk1 (by first | assumption | (apply Ne.symm; assumption) | (simp; done)) (by assumption)) | exact lk1 (by first | assumption | (apply Ne.symm; assumption) | (simp; done)) (lk1 (by first | assumption | (apply Ne.symm; assumption) | (simp; done)) (va_up_self _ _ _)) | exact lk1 (by first | assumption | (apply Ne.symm; assumption) | (simp; done)) (lk1 (by first | assumption | (apply Ne.symm; assumption) | (simp; done)) (lk1 (by first | assumption | (apply Ne.symm; assumption) | (simp; done)) (by assumption))) | exact lk1 (by first | assumption | (apply Ne.symm; assumption) | (simp; done)) (lk1 (by first | assumption | (apply Ne.symm; assumption) | (simp; done)) (lk1 (by first | assumption | (apply Ne.symm; assumption) | (simp; done)) (va_up_self _ _ _))) | exact lk1 (by first | assumption | (apply Ne.symm; assumption) | (simp; done)) (lk1 (by first | assumption | (apply Ne.symm; assumption) | (simp; done)) (lk1 (by first | assumption | (apply Ne.symm; assumption) | (simp; done)) (lk1 (by first | assumption | (apply Ne.symm; assumption) | (simp; done)) (by assumption)))) | exact lk1 (by first | assumption | (apply Ne.symm; assumption) | (simp; done)) (lk1 (by first | assumption | (apply Ne.symm; assumption) | (simp; done)) (lk1 (by first | assumption | (apply Ne.symm; assumption) | (simp; done)) (lk1 (by first | assumption | (apply Ne.symm; assumption) | (simp; done)) (va_up_self _ _ _))))) (by first | assumption | rfl | (simp only [nI_add, pk_mul, Nat.one_mul, Nat.mul_one, Nat.zero_add, Nat.add_zero, Nat.mul_zero]; done) | exact pk_sub (by omega) | (rw [pk_sub (by omega)]; first | done | (rw [nI_add]; done) | (rw [pk_sub (by omega)]; done) | (rw [pk_sub (by omega), nI_add]; done)) | (simp only [nI_add, pk_mul]; first | exact pk_sub (by omega) | (congr 1; omega)) | (congr 1; omega)) (by omega) (by omega) ?_
        refine pw_bipush (pc := 30) (-9) dX8_count_30 (by decide) ?_
        rw [k1.z.2.2.2.1 k (by omega)]
        refine pw_icmp_eq (pc := 32) 39 dX8_count_32 (by decide) (fun z => ?_) (fun z => ?_)
        · refine pw_iconst (pc := 39) (nI 0) dX8_count_39 (by decide) ?_
          refine pw_iadd (pc := 40) dX8_count_40 ?_
          rw [e0]
          refine pw_ist2 (pc := 41) dX8_count_41 (Nat.le_of_ble_eq_true rfl) rfl ?_
          refine pw_iinc4 (pc := 42) (nI (k + 1)) dX8_count_42 (Nat.le_of_ble_eq_true rfl) rfl (ni_inc _) ?_
          refine pw_goto (pc := 45) 12 dX8_count_45 (by decide) ?_
          have e : cntN (sCl S) (k + 1) = cntN (sCl S) k := by rw [cntN, if_pos z]; rfl
          rw [← e]; exact ih (k + 1) (by omega)
        · refine pw_iconst (pc := 35) (nI 1) dX8_count_35 (by decide) ?_
          refine pw_goto (pc := 36) 40 dX8_count_36 (by decide) ?_
          refine pw_iadd (pc := 40) dX8_count_40 ?_
          rw [nI_add]
          refine pw_ist2 (pc := 41) dX8_count_41 (Nat.le_of_ble_eq_true rfl) rfl ?_
          refine pw_iinc4 (pc := 42) (nI (k + 1)) dX8_count_42 (Nat.le_of_ble_eq_true rfl) rfl (ni_inc _) ?_
          refine pw_goto (pc := 45) 12 dX8_count_45 (by decide) ?_
          have e : cntN (sCl S) (k + 1) = cntN (sCl S) k + 1 := by rw [cntN, if_neg z]
          rw [← e]; exact ih (k + 1) (by omega)
  refine pw_iconst (pc := 5) (nI 0) dX8_count_5 (by decide) ?_
  refine pw_ist2 (pc := 6) dX8_count_6 (Nat.le_of_ble_eq_true rfl) rfl ?_
  refine pw_iconst (pc := 7) (nI 0) dX8_count_7 (by decide) ?_
  refine pw_ist3 (pc := 8) dX8_count_8 (Nat.le_of_ble_eq_true rfl) rfl ?_
  refine pw_iconst (pc := 9) (nI 0) dX8_count_9 (by decide) ?_
  refine pw_ist4 (pc := 10) dX8_count_10 (Nat.le_of_ble_eq_true rfl) rfl ?_
  exact loop1 6 0 (by omega)
end M5
