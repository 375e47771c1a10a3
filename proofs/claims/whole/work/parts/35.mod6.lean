theorem bI_or (a b : Bool) : bI a ||| bI b = bI (a || b) := by cases a <;> cases b <;> decide
theorem i32_add0 (z : Int32) : z + nI 0 = z := by rw [show nI 0 = 0 from rfl, Int32.add_zero]
theorem crtB_m {L : List Int32} (hL : L.length ≤ 12) (a b : Int32) : (fun p q : Int32 => if p < q then nI 1 else if q < p then -1 else nI 0) (if oI (ixL a L) = -9 then nI 99 else oI (ixL a L)) (if oI (ixL b L) = -9 then nI 99 else oI (ixL b L)) = crtB L a b := by
  have key : ∀ x : Int32, ∃ j : Nat, j ≤ L.length ∧ (if oI (ixL x L) = -9 then nI L.length else oI (ixL x L)) = nI j ∧ (if oI (ixL x L) = -9 then nI 99 else oI (ixL x L)) = nI (if j = L.length then 99 else j) := by
    intro x
    cases e : ixL x L with
    | none => exact ⟨L.length, Nat.le_refl _, by simp [oI], by simp [oI]⟩
    | some p =>
      have hp := (ixL_lt e).1
      have h9 : nI p ≠ -9 := ni_ne9 (by omega)
      refine ⟨p, by omega, ?_, ?_⟩
      · simp [oI, h9]
      · simp [oI, h9]; rw [if_neg (by omega)]
  obtain ⟨i, hi, e1, e2⟩ := key a
  obtain ⟨j, hj, e3, e4⟩ := key b
  rw [crtB, e1, e2, e3, e4]
  simp only []
  have l1 : nI (if i = L.length then 99 else i) < nI (if j = L.length then 99 else j) ↔ i < j := by
    rw [nI_ltI (by split <;> omega) (by split <;> omega)]
    split <;> split <;> omega
  have l2 : nI (if j = L.length then 99 else j) < nI (if i = L.length then 99 else i) ↔ j < i := by
    rw [nI_ltI (by split <;> omega) (by split <;> omega)]
    split <;> split <;> omega
  have l3 : nI j < nI i ↔ j < i := nI_ltI (by omega) (by omega)
  have l4 : nI j = nI i ↔ j = i := nI_eq (by omega) (by omega)
  simp only [l1, l2, l3, l4]
  by_cases h1 : i < j
  · rw [if_pos h1, if_neg (by omega), if_neg (by omega)]; rfl
  · rw [if_neg h1]
    by_cases h2 : j < i
    · rw [if_pos h2, if_pos h2]
    · rw [if_neg h2, if_neg h2, if_pos (by omega)]; rfl
section M7
variable {E : EV} {h : HP} {n m : Nat} {S : AS}
theorem o_worth (hm : modP h m S) (hw : wfR (sN S)) (k x : Int32) : PM E mX8_worth [.ref m, .int k, .int x] h n n 0 (QM m h (some (.int (a_worth S k x))) (n_worth S k x)) := by
  obtain ⟨⟨th, nx, tk, pl, vl, ft, sz, nm, m0⟩, ma⟩ := id hm
  obtain ⟨⟨gs, q1, k1⟩, -⟩ := id ma
  refine PM.of [.ref m, .int k, .int x, .null, .null, .null, .null] rfl (Nat.le_of_ble_eq_true rfl) rfl ?_
  refine pw_aload_n (pc := 0) dX8_worth_0 rfl ?_
  refine pw_iconst (pc := 1) (nI 0) dX8_worth_1 (by decide) ?_
  refine pw_put0 (pc := 2) fp_X8_61 dX8_worth_2 (by first | assumption | exact va_up_self _ _ _ | exact lk1 (by first | assumption | (apply Ne.symm; assumption) | (simp; done)) (by assumption) | exact lk1 (by first | assumption | (apply Ne.symm; assumption) | (simp; done)) (va_up_self _ _ _) | exact lk1 (by first | assumption | (apply Ne.symm; assumption) | (simp; done)) (lk1 (by first | assumption | (apply Ne.symm; assumption) | (simp; done)) (by assumption)) | exact lk1 (by first | assumption | (apply Ne.symm; assumption) | (simp; done)) (lk1 (by first | assumption | (apply Ne.symm; assumption) | (simp; done)) (va_up_self _ _ _)) | exact lk1 (by first | assumption | (apply Ne.symm; assumption) | (simp; done)) (lk1 (by first | assumption | (apply Ne.symm; assumption) | (simp; done)) (lk1 (by first | assumption | (apply Ne.symm; assumption) | (simp; done)) (by assumption))) | exact lk1 (by first | assumption | (apply Ne.symm; assumption) | (simp; done)) (lk1 (by first | assumption | (apply Ne.symm; assumption) | (simp; done)) (lk1 (by first | assumption | (apply Ne.symm; assumption) | (simp; done)) (va_up_self _ _ _))) | exact lk1 (by first | assumption | (apply Ne.symm; assumption) | (simp; done)) (lk1 (by first | assumption | (apply Ne.symm; assumption) | (simp; done)) (lk1 (by first | assumption | (apply Ne.symm; assumption) | (simp; done)) (lk1 (by first | assumption | (apply Ne.symm; assumption) | (simp; done)) (by assumption)))) | exact lk1 (by first | assumption | (apply Ne.symm; assumption) | (simp; done)) (lk1 (by first | assumption | (apply Ne.symm; assumption) | (simp; done)) (lk1 (by first | assumption | (apply Ne.symm; assumption) | (simp; done)) (lk1 (by first | assumption | (apply Ne.symm; assumption) | (simp; done)) (va_up_self _ _ _))))) rfl rfl ?_
  refine pw_iload_n (pc := 5) dX8_worth_5 rfl ?_
  refine pw_iconst (pc := 6) (nI 0) dX8_worth_6 (by decide) ?_
  refine pw_iconst (pc := 7) (nI 5) dX8_worth_7 (by decide) ?_
  refine pw_callS_i (pc := 8) cs_X8_64 dX8_worth_8 (c_in k (nI 0) (nI 5)) rfl rfl (Nat.le_of_ble_eq_true rfl) ⟨(Nat.le_of_ble_eq_true rfl), (Nat.le_of_ble_eq_true rfl)⟩ ?_
  generalize hh0 : va_up h m (some (.inr (8, mob m (nI 0) (sQ S) (nI (sT S).length) nx tk pl vl ft (sLo S) (sHi S) sz nm))) = h0
  have u0 : h0 m = some (.inr (8, mob m (nI 0) (sQ S) (nI (sT S).length) nx tk pl vl ft (sLo S) (sHi S) sz nm)) := by rw [← hh0]; exact va_up_self _ _ _
  have u1 : h0 (m + 1) = some (.inl (0, 90, .inl gs)) := by rw [← hh0]; exact lk1 (by omega) q1
  have mb : mArr h0 m S := by rw [← hh0]; exact ma.on up_m
  have on0 : only h h0 m (m + 13) := by rw [← hh0]; exact on_m
  have bad : (rg 0 5 k && rg 0 25 x) = false → PW (KX E mX8_worth n (QM m h (some (.int (a_worth S k x))) (n_worth S k x))) 21 [.ref m, .int k, .int x, .null, .null, .null, .null] [] h0 n 0 := by
    intro hb
    refine pw_iconst (pc := 21) (-1) dX8_worth_21 (by decide) ?_
    refine pw_iret dX8_worth_22 rfl ⟨?_, ?_, on0⟩
    · rw [a_worth, hb]; rfl
    · rw [n_worth, hb]; exact ⟨⟨_, _, _, _, _, _, _, _, u0⟩, mb⟩
  refine pw_if_eq_b (pc := 11) 21 dX8_worth_11 (by decide) (fun z => ?_) (fun z => ?_)
  · exact bad (by rw [show rg 0 5 k = false from z]; rfl)
  refine pw_iload_n (pc := 14) dX8_worth_14 rfl ?_
  refine pw_callS_i (pc := 15) cs_X8_128 dX8_worth_15 (c_misName x) rfl rfl (Nat.le_of_ble_eq_true rfl) ⟨(Nat.le_of_ble_eq_true rfl), (Nat.le_of_ble_eq_true rfl)⟩ ?_
  refine pw_if_ne_b (pc := 18) 23 dX8_worth_18 (by decide) (fun z2 => ?_) (fun z2 => ?_)
  · have hok : (rg 0 5 k && rg 0 25 x) = true := by rw [show rg 0 5 k = true from z, z2]; rfl
    obtain ⟨jx, hjx, ex, ejx⟩ := rg_ix (hi := 25) z2
    have fin2 : ∀ V v0 w4, V = (if k = 0 then 1 else if k = 1 then 11 else if k = 2 then 101 else if k = 3 then 1101 else if k = 4 then 10001 else 110001) → v0 = a_worth S k x → PW (KX E mX8_worth n (QM m h (some (.int (a_worth S k x))) (n_worth S k x))) 259 [.ref m, .int k, .int x, .int (nI (lcF (sN S) x 4)), .int w4, .int (joinV S x), .int (datV S x)] [.int v0] (va_up h0 m (some (.inr (8, mob m (nI 0) (sQ S + V) (nI (sT S).length) nx tk pl vl ft (sLo S) (sHi S) sz nm)))) n 0 := by
      intro V v0 w4 e1 e2
      refine pw_iret dX8_worth_259 rfl ⟨by rw [e2], ?_, on0.trans on_m⟩
      rw [n_worth, hok, ← e1]
      exact ⟨⟨_, _, _, _, _, _, _, _, va_up_self _ _ _⟩, mb.on up_m⟩
    have fin1 : ∀ V w4, V = (if k = 0 then 1 else if k = 1 then 11 else if k = 2 then 101 else if k = 3 then 1101 else if k = 4 then 10001 else 110001) → PW (KX E mX8_worth n (QM m h (some (.int (a_worth S k x))) (n_worth S k x))) 195 [.ref m, .int k, .int x, .int (nI (lcF (sN S) x 4)), .int w4, .int (joinV S x), .int (datV S x)] [.long V, .long (sQ S), .ref m] h0 n 0 := by
      intro V w4 e1
      have hA := a_worth S k x
      have eA : a_worth S k x = (if k = 0 then nI (lcF (sN S) x 4) else if k = 1 then nI (lcF (sN S) x 4) + hldF (sSt S) (sCl S) x 6 else if k = 2 then joinV S x else if k = 3 then joinV S x * joinV S x else if k = 4 then datV S x else datV S x / nI 2) := by rw [a_worth, hok]; rfl
      refine pw_ladd (pc := 195) dX8_worth_195 ?_
      refine pw_put1 (pc := 196) fp_X8_190 dX8_worth_196 (by first | assumption | exact va_up_self _ _ _ | exact lk1 (by first | assumption | (apply Ne.symm; assumption) | (simp; done)) (by assumption) | exact lk1 (by first | assumption | (apply Ne.symm; assumption) | (simp; done)) (va_up_self _ _ _) | exact lk1 (by first | assumption | (apply Ne.symm; assumption) | (simp; done)) (lk1 (by first | assumption | (apply Ne.symm; assumption) | (simp; done)) (by assumption)) | exact lk1 (by first | assumption | (apply Ne.symm; assumption) | (simp; done)) (lk1 (by first | assumption | (apply Ne.symm; assumption) | (simp; done)) (va_up_self _ _ _)) | exact lk1 (by first | assumption | (apply Ne.symm; assumption) | (simp; done)) (lk1 (by first | assumption | (apply Ne.symm; assumption) | (simp; done)) (lk1 (by first | assumption | (apply Ne.symm; assumption) | (simp; done)) (by assumption))) | exact lk1 (by first | assumption | (apply Ne.symm; assumption) | (simp; done)) (lk1 (by first | assumption | (apply Ne.symm; assumption) | (simp; done)) (lk1 (by first | assumption | (apply Ne.symm; assumption) | (simp; done)) (va_up_self _ _ _))) | exact lk1 (by first | assumption | (apply Ne.symm; assumption) | (simp; done)) (lk1 (by first | assumption | (apply Ne.symm; assumption) | (simp; done)) (lk1 (by first | assumption | (apply Ne.symm; assumption) | (simp; done)) (lk1 (by first | assumption | (apply Ne.symm; assumption) | (simp; done)) (by assumption)))) | exact lk1 (by first | assumption | (apply Ne.symm; assumption) | (simp; done)) (lk1 (by first | assumption | (apply Ne.symm; assumption) | (simp; done)) (lk1 (by first | assumption | (apply Ne.symm; assumption) | (simp; done)) (lk1 (by first | assumption | (apply Ne.symm; assumption) | (simp; done)) (va_up_self _ _ _))))) rfl rfl ?_
      refine pw_iload_n (pc := 199) dX8_worth_199 rfl ?_
      refine pw_if_ne (pc := 200) 207 dX8_worth_200 (by decide) (fun y0 => ?_) (fun y0 => ?_)
      · refine pw_iload_n (pc := 207) dX8_worth_207 rfl ?_
        refine pw_iconst (pc := 208) (nI 1) dX8_worth_208 (by decide) ?_
        refine pw_icmp_ne (pc := 209) 222 dX8_worth_209 (by decide) (fun y1 => ?_) (fun y1 => ?_)
        · refine pw_iload_n (pc := 222) dX8_worth_222 rfl ?_
          refine pw_iconst (pc := 223) (nI 2) dX8_worth_223 (by decide) ?_
          refine pw_icmp_ne (pc := 224) 232 dX8_worth_224 (by decide) (fun y2 => ?_) (fun y2 => ?_)
          · refine pw_iload_n (pc := 232) dX8_worth_232 rfl ?_
            refine pw_iconst (pc := 233) (nI 3) dX8_worth_233 (by decide) ?_
            refine pw_icmp_ne (pc := 234) 245 dX8_worth_234 (by decide) (fun y3 => ?_) (fun y3 => ?_)
            · refine pw_iload_n (pc := 245) dX8_worth_245 rfl ?_
              refine pw_iconst (pc := 246) (nI 4) dX8_worth_246 (by decide) ?_
              refine pw_icmp_ne (pc := 247) 255 dX8_worth_247 (by decide) (fun y4 => ?_) (fun y4 => ?_)
              · refine pw_iload (pc := 255) dX8_worth_255 rfl ?_
                refine pw_iconst (pc := 257) (nI 2) dX8_worth_257 (by decide) ?_
                refine pw_idiv (pc := 258) dX8_worth_258 (by decide) ?_
                exact fin2 _ _ _ e1 (by rw [eA, if_neg y0, if_neg (show ¬ k = 1 from y1), if_neg (show ¬ k = 2 from y2), if_neg (show ¬ k = 3 from y3), if_neg (show ¬ k = 4 from y4)])
              · refine pw_iload (pc := 250) dX8_worth_250 rfl ?_
                refine pw_goto (pc := 252) 259 dX8_worth_252 (by decide) ?_
                exact fin2 _ _ _ e1 (by rw [eA, if_neg y0, if_neg (show ¬ k = 1 from y1), if_neg (show ¬ k = 2 from y2), if_neg (show ¬ k = 3 from y3), if_pos (show k = 4 from y4)])
            · refine pw_iload (pc := 237) dX8_worth_237 rfl ?_
              refine pw_iload (pc := 239) dX8_worth_239 rfl ?_
              refine pw_imul (pc := 241) dX8_worth_241 ?_
              refine pw_goto (pc := 242) 259 dX8_worth_242 (by decide) ?_
              exact fin2 _ _ _ e1 (by rw [eA, if_neg y0, if_neg (show ¬ k = 1 from y1), if_neg (show ¬ k = 2 from y2), if_pos (show k = 3 from y3)])
          · refine pw_iload (pc := 227) dX8_worth_227 rfl ?_
            refine pw_goto (pc := 229) 259 dX8_worth_229 (by decide) ?_
            exact fin2 _ _ _ e1 (by rw [eA, if_neg y0, if_neg (show ¬ k = 1 from y1), if_pos (show k = 2 from y2)])
        · have q1' := lk1 (v := some (.inr (8, mob m (nI 0) (sQ S + V) (nI (sT S).length) nx tk pl vl ft (sLo S) (sHi S) sz nm))) (k := m) (by omega) u1
          refine pw_iload_n (pc := 212) dX8_worth_212 rfl ?_
          refine pw_aload_n (pc := 213) dX8_worth_213 rfl ?_
          refine pw_iload_n (pc := 214) dX8_worth_214 rfl ?_
          refine pw_callV_i (pc := 215) cv_X8_134 dX8_worth_215 (by first | assumption | exact va_up_self _ _ _ | exact lk1 (by first | assumption | (apply Ne.symm; assumption) | (simp; done)) (by assumption) | exact lk1 (by first | assumption | (apply Ne.symm; assumption) | (simp; done)) (va_up_self _ _ _) | exact lk1 (by first | assumption | (apply Ne.symm; assumption) | (simp; done)) (lk1 (by first | assumption | (apply Ne.symm; assumption) | (simp; done)) (by assumption)) | exact lk1 (by first | assumption | (apply Ne.symm; assumption) | (simp; done)) (lk1 (by first | assumption | (apply Ne.symm; assumption) | (simp; done)) (va_up_self _ _ _)) | exact lk1 (by first | assumption | (apply Ne.symm; assumption) | (simp; done)) (lk1 (by first | assumption | (apply Ne.symm; assumption) | (simp; done)) (lk1 (by first | assumption | (apply Ne.symm; assumption) | (simp; done)) (by assumption))) | exact lk1 (by first | assumption | (apply Ne.symm; assumption) | (simp; done)) (lk1 (by first | assumption | (apply Ne.symm; assumption) | (simp; done)) (lk1 (by first | assumption | (apply Ne.symm; assumption) | (simp; done)) (va_up_self _ _ _))) | exact lk1 (by first | assumption | (apply Ne.symm; assumption) | (simp; done)) (lk1 (by first | assumption | (apply Ne.symm; assumption) | (simp; done)) (lk1 (by first | assumption | (apply Ne.symm; assumption) | (simp; done)) (lk1 (by first | assumption | (apply Ne.symm; assumption) | (simp; done)) (by assumption)))) | exact lk1 (by first | assumption | (apply Ne.symm; assumption) | (simp; done)) (lk1 (by first | assumption | (apply Ne.symm; assumption) | (simp; done)) (lk1 (by first | assumption | (apply Ne.symm; assumption) | (simp; done)) (lk1 (by first | assumption | (apply Ne.symm; assumption) | (simp; done)) (va_up_self _ _ _))))) rfl (c_mheldOf (va_up_self _ _ _) rfl q1' k1 x) rfl rfl (Nat.le_of_ble_eq_true rfl) ⟨(Nat.le_of_ble_eq_true rfl), (Nat.le_of_ble_eq_true rfl)⟩ ?_
          refine pw_iadd (pc := 218) dX8_worth_218 ?_
          refine pw_goto (pc := 219) 259 dX8_worth_219 (by decide) ?_
          exact fin2 _ _ _ e1 (by rw [eA, if_neg y0, if_pos (show k = 1 from y1)])
      · refine pw_iload_n (pc := 203) dX8_worth_203 rfl ?_
        refine pw_goto (pc := 204) 259 dX8_worth_204 (by decide) ?_
        exact fin2 _ _ _ e1 (by rw [eA, if_pos y0])
    have mid : ∀ w4, PW (KX E mX8_worth n (QM m h (some (.int (a_worth S k x))) (n_worth S k x))) 135 [.ref m, .int k, .int x, .int (nI (lcF (sN S) x 4)), .int w4, .int (joinV S x), .int (datV S x)] [] h0 n 0 := by
      intro w4
      refine pw_aload_n (pc := 135) dX8_worth_135 rfl ?_
      refine pw_dup (pc := 136) dX8_worth_136 rfl ?_
      refine pw_get (pc := 137) fg_X8_190 dX8_worth_137 (by first | assumption | exact va_up_self _ _ _ | exact lk1 (by first | assumption | (apply Ne.symm; assumption) | (simp; done)) (by assumption) | exact lk1 (by first | assumption | (apply Ne.symm; assumption) | (simp; done)) (va_up_self _ _ _) | exact lk1 (by first | assumption | (apply Ne.symm; assumption) | (simp; done)) (lk1 (by first | assumption | (apply Ne.symm; assumption) | (simp; done)) (by assumption)) | exact lk1 (by first | assumption | (apply Ne.symm; assumption) | (simp; done)) (lk1 (by first | assumption | (apply Ne.symm; assumption) | (simp; done)) (va_up_self _ _ _)) | exact lk1 (by first | assumption | (apply Ne.symm; assumption) | (simp; done)) (lk1 (by first | assumption | (apply Ne.symm; assumption) | (simp; done)) (lk1 (by first | assumption | (apply Ne.symm; assumption) | (simp; done)) (by assumption))) | exact lk1 (by first | assumption | (apply Ne.symm; assumption) | (simp; done)) (lk1 (by first | assumption | (apply Ne.symm; assumption) | (simp; done)) (lk1 (by first | assumption | (apply Ne.symm; assumption) | (simp; done)) (va_up_self _ _ _))) | exact lk1 (by first | assumption | (apply Ne.symm; assumption) | (simp; done)) (lk1 (by first | assumption | (apply Ne.symm; assumption) | (simp; done)) (lk1 (by first | assumption | (apply Ne.symm; assumption) | (simp; done)) (lk1 (by first | assumption | (apply Ne.symm; assumption) | (simp; done)) (by assumption)))) | exact lk1 (by first | assumption | (apply Ne.symm; assumption) | (simp; done)) (lk1 (by first | assumption | (apply Ne.symm; assumption) | (simp; done)) (lk1 (by first | assumption | (apply Ne.symm; assumption) | (simp; done)) (lk1 (by first | assumption | (apply Ne.symm; assumption) | (simp; done)) (va_up_self _ _ _))))) (by first | rfl | assumption) ?_
      refine pw_iload_n (pc := 140) dX8_worth_140 rfl ?_
      refine pw_if_ne (pc := 141) 148 dX8_worth_141 (by decide) (fun y0 => ?_) (fun y0 => ?_)
      · refine pw_iload_n (pc := 148) dX8_worth_148 rfl ?_
        refine pw_iconst (pc := 149) (nI 1) dX8_worth_149 (by decide) ?_
        refine pw_icmp_ne (pc := 150) 159 dX8_worth_150 (by decide) (fun y1 => ?_) (fun y1 => ?_)
        · refine pw_iload_n (pc := 159) dX8_worth_159 rfl ?_
          refine pw_iconst (pc := 160) (nI 2) dX8_worth_160 (by decide) ?_
          refine pw_icmp_ne (pc := 161) 170 dX8_worth_161 (by decide) (fun y2 => ?_) (fun y2 => ?_)
          · refine pw_iload_n (pc := 170) dX8_worth_170 rfl ?_
            refine pw_iconst (pc := 171) (nI 3) dX8_worth_171 (by decide) ?_
            refine pw_icmp_ne (pc := 172) 181 dX8_worth_172 (by decide) (fun y3 => ?_) (fun y3 => ?_)
            · refine pw_iload_n (pc := 181) dX8_worth_181 rfl ?_
              refine pw_iconst (pc := 182) (nI 4) dX8_worth_182 (by decide) ?_
              refine pw_icmp_ne (pc := 183) 192 dX8_worth_183 (by decide) (fun y4 => ?_) (fun y4 => ?_)
              · refine pw_ldc2 (pc := 192) (110001) dX8_worth_192 lc_X8_202 ?_
                exact fin1 _ _ (by rw [if_neg y0, if_neg (show ¬ k = 1 from y1), if_neg (show ¬ k = 2 from y2), if_neg (show ¬ k = 3 from y3), if_neg (show ¬ k = 4 from y4)])
              · refine pw_ldc2 (pc := 186) (10001) dX8_worth_186 lc_X8_200 ?_
                refine pw_goto (pc := 189) 195 dX8_worth_189 (by decide) ?_
                exact fin1 _ _ (by rw [if_neg y0, if_neg (show ¬ k = 1 from y1), if_neg (show ¬ k = 2 from y2), if_neg (show ¬ k = 3 from y3), if_pos (show k = 4 from y4)])
            · refine pw_ldc2 (pc := 175) (1101) dX8_worth_175 lc_X8_198 ?_
              refine pw_goto (pc := 178) 195 dX8_worth_178 (by decide) ?_
              exact fin1 _ _ (by rw [if_neg y0, if_neg (show ¬ k = 1 from y1), if_neg (show ¬ k = 2 from y2), if_pos (show k = 3 from y3)])
          · refine pw_ldc2 (pc := 164) (101) dX8_worth_164 lc_X8_196 ?_
            refine pw_goto (pc := 167) 195 dX8_worth_167 (by decide) ?_
            exact fin1 _ _ (by rw [if_neg y0, if_neg (show ¬ k = 1 from y1), if_pos (show k = 2 from y2)])
        · refine pw_ldc2 (pc := 153) (11) dX8_worth_153 lc_X8_194 ?_
          refine pw_goto (pc := 156) 195 dX8_worth_156 (by decide) ?_
          exact fin1 _ _ (by rw [if_neg y0, if_pos (show k = 1 from y1)])
      · refine pw_lconst (pc := 144) (1) dX8_worth_144 (by decide) ?_
        refine pw_goto (pc := 145) 195 dX8_worth_145 (by decide) ?_
        exact fin1 _ _ (by rw [if_pos y0])
    have loop2 : ∀ p j, j + p = 6 → PW (KX E mX8_worth n (QM m h (some (.int (a_worth S k x))) (n_worth S k x))) 66 [.ref m, .int k, .int x, .int (nI (lcF (sN S) x 4)), .int (nI (cntE (sCl S) x j)), .int (nI j), .null] [] h0 n 0 := by
      intro p
      induction p with
      | zero =>
        intro j hj
        refine pw_iload (pc := 66) dX8_worth_66 rfl ?_
        refine pw_bipush (pc := 68) (nI 6) dX8_worth_68 (by decide) ?_
        refine pw_icmp_ge_n (pc := 70) 103 dX8_worth_70 (by decide) (by omega) (by omega) (fun c => ?_) (fun c => ?_)
        · obtain rfl : j = 6 := by omega
          refine pw_iload_n (pc := 103) dX8_worth_103 rfl ?_
          refine pw_iconst (pc := 104) (nI 2) dX8_worth_104 (by decide) ?_
          refine pw_iload (pc := 105) dX8_worth_105 rfl ?_
          refine pw_imul (pc := 107) dX8_worth_107 ?_
          refine pw_iadd (pc := 108) dX8_worth_108 ?_
          refine pw_ist5 (pc := 109) dX8_worth_109 (Nat.le_of_ble_eq_true rfl) rfl ?_
          rw [ex]
          refine pw_iload_n (pc := 111) dX8_worth_111 rfl ?_
          refine pw_aload_n (pc := 112) dX8_worth_112 rfl ?_
          refine pw_get (pc := 113) fg_X8_7 dX8_worth_113 (by first | assumption | exact va_up_self _ _ _ | exact lk1 (by first | assumption | (apply Ne.symm; assumption) | (simp; done)) (by assumption) | exact lk1 (by first | assumption | (apply Ne.symm; assumption) | (simp; done)) (va_up_self _ _ _) | exact lk1 (by first | assumption | (apply Ne.symm; assumption) | (simp; done)) (lk1 (by first | assumption | (apply Ne.symm; assumption) | (simp; done)) (by assumption)) | exact lk1 (by first | assumption | (apply Ne.symm; assumption) | (simp; done)) (lk1 (by first | assumption | (apply Ne.symm; assumption) | (simp; done)) (va_up_self _ _ _)) | exact lk1 (by first | assumption | (apply Ne.symm; assumption) | (simp; done)) (lk1 (by first | assumption | (apply Ne.symm; assumption) | (simp; done)) (lk1 (by first | assumption | (apply Ne.symm; assumption) | (simp; done)) (by assumption))) | exact lk1 (by first | assumption | (apply Ne.symm; assumption) | (simp; done)) (lk1 (by first | assumption | (apply Ne.symm; assumption) | (simp; done)) (lk1 (by first | assumption | (apply Ne.symm; assumption) | (simp; done)) (va_up_self _ _ _))) | exact lk1 (by first | assumption | (apply Ne.symm; assumption) | (simp; done)) (lk1 (by first | assumption | (apply Ne.symm; assumption) | (simp; done)) (lk1 (by first | assumption | (apply Ne.symm; assumption) | (simp; done)) (lk1 (by first | assumption | (apply Ne.symm; assumption) | (simp; done)) (by assumption)))) | exact lk1 (by first | assumption | (apply Ne.symm; assumption) | (simp; done)) (lk1 (by first | assumption | (apply Ne.symm; assumption) | (simp; done)) (lk1 (by first | assumption | (apply Ne.symm; assumption) | (simp; done)) (lk1 (by first | assumption | (apply Ne.symm; assumption) | (simp; done)) (va_up_self _ _ _))))) (by first | rfl | assumption) ?_
          refine pw_bipush (pc := 116) (nI 64) dX8_worth_116 (by decide) ?_
          refine pw_iload_n (pc := 118) dX8_worth_118 rfl ?_
          refine pw_iadd (pc := 119) dX8_worth_119 ?_
          refine pw_iald (pc := 120) (64 + jx) dX8_worth_120 (by first | assumption | exact va_up_self _ _ _ | exact lk1 (by first | assumption | (apply Ne.symm; assumption) | (simp; done)) (by assumption) | exact lk1 (by first | assumption | (apply Ne.symm; assumption) | (simp; done)) (va_up_self _ _ _) | exact lk1 (by first | assumption | (apply Ne.symm; assumption) | (simp; done)) (lk1 (by first | assumption | (apply Ne.symm; assumption) | (simp; done)) (by assumption)) | exact lk1 (by first | assumption | (apply Ne.symm; assumption) | (simp; done)) (lk1 (by first | assumption | (apply Ne.symm; assumption) | (simp; done)) (va_up_self _ _ _)) | exact lk1 (by first | assumption | (apply Ne.symm; assumption) | (simp; done)) (lk1 (by first | assumption | (apply Ne.symm; assumption) | (simp; done)) (lk1 (by first | assumption | (apply Ne.symm; assumption) | (simp; done)) (by assumption))) | exact lk1 (by first | assumption | (apply Ne.symm; assumption) | (simp; done)) (lk1 (by first | assumption | (apply Ne.symm; assumption) | (simp; done)) (lk1 (by first | assumption | (apply Ne.symm; assumption) | (simp; done)) (va_up_self _ _ _))) | exact lk1 (by first | assumption | (apply Ne.symm; assumption) | (simp; done)) (lk1 (by first | assumption | (apply Ne.symm; assumption) | (simp; done)) (lk1 (by first | assumption | (apply Ne.symm; assumption) | (simp; done)) (lk1 (by first | assumption | (apply Ne.symm; assumption) | (simp; done)) (by assumption)))) | exact lk1 (by first | assumption | (apply Ne.symm; assumption) | (simp; done)) (lk1 (by first | assumption | (apply Ne.symm; assumption) | (simp; done)) (lk1 (by first | assumption | (apply Ne.symm; assumption) | (simp; done)) (lk1 (by first | assumption | (apply Ne.symm; assumption) | (simp; done)) (va_up_self _ _ _))))) (by first | assumption | rfl | (simp only [nI_add, pk_mul, Nat.one_mul, Nat.mul_one, Nat.zero_add, Nat.add_zero, Nat.mul_zero]; done) | exact pk_sub (by omega) | (rw [pk_sub (by omega)]; first | done | (rw [nI_add]; done) | (rw [pk_sub (by omega)]; done) | (rw [pk_sub (by omega), nI_add]; done)) | (simp only [nI_add, pk_mul]; first | exact pk_sub (by omega) | (congr 1; omega)) | (congr 1; omega)) (by omega) (by omega) ?_
          refine pw_bipush (pc := 121) (-9) dX8_worth_121 (by decide) ?_
          rw [← ex, k1.z.2.2.2.2 jx (by omega)]
          refine pw_icmp_eq (pc := 123) 131 dX8_worth_123 (by decide) (fun y1 => ?_) (fun y1 => ?_)
          · refine pw_iconst (pc := 131) (nI 0) dX8_worth_131 (by decide) ?_
            refine pw_iadd (pc := 132) dX8_worth_132 ?_
            rw [i32_add0]
            refine pw_ist6 (pc := 133) dX8_worth_133 (Nat.le_of_ble_eq_true rfl) rfl ?_
            have e : datV S x = nI (lcF (sN S) x 4) := by unfold datV; rw [ejx, if_pos y1]
            rw [← e]
            exact pw_ls (by rw [e]) (mid _)
          · refine pw_bipush (pc := 126) (nI 7) dX8_worth_126 (by decide) ?_
            refine pw_goto (pc := 128) 132 dX8_worth_128 (by decide) ?_
            refine pw_iadd (pc := 132) dX8_worth_132 ?_
            refine pw_ist6 (pc := 133) dX8_worth_133 (Nat.le_of_ble_eq_true rfl) rfl ?_
            have e : datV S x = nI (lcF (sN S) x 4) + nI 7 := by unfold datV; rw [ejx, if_neg y1]
            rw [← e]
            exact mid _
        · omega
      | succ p ih =>
        intro j hj
        refine pw_iload (pc := 66) dX8_worth_66 rfl ?_
        refine pw_bipush (pc := 68) (nI 6) dX8_worth_68 (by decide) ?_
        refine pw_icmp_ge_n (pc := 70) 103 dX8_worth_70 (by decide) (by omega) (by omega) (fun c => ?_) (fun c => ?_)
        · omega
        · refine pw_iload (pc := 73) dX8_worth_73 rfl ?_
          refine pw_aload_n (pc := 75) dX8_worth_75 rfl ?_
          refine pw_get (pc := 76) fg_X8_7 dX8_worth_76 (by first | assumption | exact va_up_self _ _ _ | exact lk1 (by first | assumption | (apply Ne.symm; assumption) | (simp; done)) (by assumption) | exact lk1 (by first | assumption | (apply Ne.symm; assumption) | (simp; done)) (va_up_self _ _ _) | exact lk1 (by first | assumption | (apply Ne.symm; assumption) | (simp; done)) (lk1 (by first | assumption | (apply Ne.symm; assumption) | (simp; done)) (by assumption)) | exact lk1 (by first | assumption | (apply Ne.symm; assumption) | (simp; done)) (lk1 (by first | assumption | (apply Ne.symm; assumption) | (simp; done)) (va_up_self _ _ _)) | exact lk1 (by first | assumption | (apply Ne.symm; assumption) | (simp; done)) (lk1 (by first | assumption | (apply Ne.symm; assumption) | (simp; done)) (lk1 (by first | assumption | (apply Ne.symm; assumption) | (simp; done)) (by assumption))) | exact lk1 (by first | assumption | (apply Ne.symm; assumption) | (simp; done)) (lk1 (by first | assumption | (apply Ne.symm; assumption) | (simp; done)) (lk1 (by first | assumption | (apply Ne.symm; assumption) | (simp; done)) (va_up_self _ _ _))) | exact lk1 (by first | assumption | (apply Ne.symm; assumption) | (simp; done)) (lk1 (by first | assumption | (apply Ne.symm; assumption) | (simp; done)) (lk1 (by first | assumption | (apply Ne.symm; assumption) | (simp; done)) (lk1 (by first | assumption | (apply Ne.symm; assumption) | (simp; done)) (by assumption)))) | exact lk1 (by first | assumption | (apply Ne.symm; assumption) | (simp; done)) (lk1 (by first | assumption | (apply Ne.symm; assumption) | (simp; done)) (lk1 (by first | assumption | (apply Ne.symm; assumption) | (simp; done)) (lk1 (by first | assumption | (apply Ne.symm; assumption) | (simp; done)) (va_up_self _ _ _))))) (by first | rfl | assumption) ?_
          refine pw_bipush (pc := 79) (nI 58) dX8_worth_79 (by decide) ?_
          refine pw_iload (pc := 81) dX8_worth_81 rfl ?_
          refine pw_iadd (pc := 83) dX8_worth_83 ?_
          refine pw_iald (pc := 84) (58 + j) dX8_worth_84 (by first | assumption | exact va_up_self _ _ _ | exact lk1 (by first | assumption | (apply Ne.symm; assumption) | (simp; done)) (by assumption) | exact lk1 (by first | assumption | (apply Ne.symm; assumption) | (simp; done)) (va_up_self _ _ _) | exact lk1 (by first | assumption | (apply Ne.symm; assumption) | (simp; done)) (lk1 (by first | assumption | (apply Ne.symm; assumption) | (simp; done)) (by assumption)) | exact lk1 (by first | assumption | (apply Ne.symm; assumption) | (simp; done)) (lk1 (by first | assumption | (apply Ne.symm; assumption) | (simp; done)) (va_up_self _ _ _)) | exact lk1 (by first | assumption | (apply Ne.symm; assumption) | (simp; done)) (lk1 (by first | assumption | (apply Ne.symm; assumption) | (simp; done)) (lk1 (by first | assumption | (apply Ne.symm; assumption) | (simp; done)) (by assumption))) | exact lk1 (by first | assumption | (apply Ne.symm; assumption) | (simp; done)) (lk1 (by first | assumption | (apply Ne.symm; assumption) | (simp; done)) (lk1 (by first | assumption | (apply Ne.symm; assumption) | (simp; done)) (va_up_self _ _ _))) | exact lk1 (by first | assumption | (apply Ne.symm; assumption) | (simp; done)) (lk1 (by first | assumption | (apply Ne.symm; assumption) | (simp; done)) (lk1 (by first | assumption | (apply Ne.symm; assumption) | (simp; done)) (lk1 (by first | assumption | (apply Ne.symm; assumption) | (simp; done)) (by assumption)))) | exact lk1 (by first | assumption | (apply Ne.symm; assumption) | (simp; done)) (lk1 (by first | assumption | (apply Ne.symm; assumption) | (simp; done)) (lk1 (by first | assumption | (apply Ne.symm; assumption) | (simp; done)) (lk1 (by first | assumption | (apply Ne.symm; assumption) | (simp; done)) (va_up_self _ _ _))))) (by first | assumption | rfl | (simp only [nI_add, pk_mul, Nat.one_mul, Nat.mul_one, Nat.zero_add, Nat.add_zero, Nat.mul_zero]; done) | exact pk_sub (by omega) | (rw [pk_sub (by omega)]; first | done | (rw [nI_add]; done) | (rw [pk_sub (by omega)]; done) | (rw [pk_sub (by omega), nI_add]; done)) | (simp only [nI_add, pk_mul]; first | exact pk_sub (by omega) | (congr 1; omega)) | (congr 1; omega)) (by omega) (by omega) ?_
          refine pw_iload_n (pc := 85) dX8_worth_85 rfl ?_
          rw [k1.z.2.2.2.1 j (by omega)]
          refine pw_icmp_ne (pc := 86) 93 dX8_worth_86 (by decide) (fun y1 => ?_) (fun y1 => ?_)
          · refine pw_iconst (pc := 93) (nI 0) dX8_worth_93 (by decide) ?_
            refine pw_iadd (pc := 94) dX8_worth_94 ?_
            rw [i32_add0]
            refine pw_ist4 (pc := 95) dX8_worth_95 (Nat.le_of_ble_eq_true rfl) rfl ?_
            refine pw_iinc5 (pc := 97) (nI (j + 1)) dX8_worth_97 (Nat.le_of_ble_eq_true rfl) rfl (ni_inc _) ?_
            refine pw_goto (pc := 100) 66 dX8_worth_100 (by decide) ?_
            have e : cntE (sCl S) x (j + 1) = cntE (sCl S) x j := by rw [cntE, if_neg y1]; rfl
            rw [← e]; exact ih (j + 1) (by omega)
          · refine pw_iconst (pc := 89) (nI 1) dX8_worth_89 (by decide) ?_
            refine pw_goto (pc := 90) 94 dX8_worth_90 (by decide) ?_
            refine pw_iadd (pc := 94) dX8_worth_94 ?_
            rw [nI_add]
            refine pw_ist4 (pc := 95) dX8_worth_95 (Nat.le_of_ble_eq_true rfl) rfl ?_
            refine pw_iinc5 (pc := 97) (nI (j + 1)) dX8_worth_97 (Nat.le_of_ble_eq_true rfl) rfl (ni_inc _) ?_
            refine pw_goto (pc := 100) 66 dX8_worth_100 (by decide) ?_
            have e : cntE (sCl S) x (j + 1) = cntE (sCl S) x j + 1 := by rw [cntE, if_pos y1]
            rw [← e]; exact ih (j + 1) (by omega)
    have loop1 : ∀ p j, j + p = 4 → PW (KX E mX8_worth n (QM m h (some (.int (a_worth S k x))) (n_worth S k x))) 31 [.ref m, .int k, .int x, .int (nI (lcF (sN S) x j)), .int (nI 0), .int (nI j), .null] [] h0 n 0 := by
      intro p
      induction p with
      | zero =>
        intro j hj
        refine pw_iload (pc := 31) dX8_worth_31 rfl ?_
        refine pw_iconst (pc := 33) (nI 4) dX8_worth_33 (by decide) ?_
        refine pw_icmp_ge_n (pc := 34) 63 dX8_worth_34 (by decide) (by omega) (by omega) (fun c => ?_) (fun c => ?_)
        · obtain rfl : j = 4 := by omega
          refine pw_iconst (pc := 63) (nI 0) dX8_worth_63 (by decide) ?_
          refine pw_ist5 (pc := 64) dX8_worth_64 (Nat.le_of_ble_eq_true rfl) rfl ?_
          exact loop2 6 0 (by omega)
        · omega
      | succ p ih =>
        intro j hj
        have hl := (hw.1 j (by omega)).1
        refine pw_iload (pc := 31) dX8_worth_31 rfl ?_
        refine pw_iconst (pc := 33) (nI 4) dX8_worth_33 (by decide) ?_
        refine pw_icmp_ge_n (pc := 34) 63 dX8_worth_34 (by decide) (by omega) (by omega) (fun c => ?_) (fun c => ?_)
        · omega
        · refine pw_iload_n (pc := 37) dX8_worth_37 rfl ?_
          refine pw_aload_n (pc := 38) dX8_worth_38 rfl ?_
          refine pw_iload (pc := 39) dX8_worth_39 rfl ?_
          refine pw_iload_n (pc := 41) dX8_worth_41 rfl ?_
          refine pw_callV_i (pc := 42) cv_X8_131 dX8_worth_42 (by first | assumption | exact va_up_self _ _ _ | exact lk1 (by first | assumption | (apply Ne.symm; assumption) | (simp; done)) (by assumption) | exact lk1 (by first | assumption | (apply Ne.symm; assumption) | (simp; done)) (va_up_self _ _ _) | exact lk1 (by first | assumption | (apply Ne.symm; assumption) | (simp; done)) (lk1 (by first | assumption | (apply Ne.symm; assumption) | (simp; done)) (by assumption)) | exact lk1 (by first | assumption | (apply Ne.symm; assumption) | (simp; done)) (lk1 (by first | assumption | (apply Ne.symm; assumption) | (simp; done)) (va_up_self _ _ _)) | exact lk1 (by first | assumption | (apply Ne.symm; assumption) | (simp; done)) (lk1 (by first | assumption | (apply Ne.symm; assumption) | (simp; done)) (lk1 (by first | assumption | (apply Ne.symm; assumption) | (simp; done)) (by assumption))) | exact lk1 (by first | assumption | (apply Ne.symm; assumption) | (simp; done)) (lk1 (by first | assumption | (apply Ne.symm; assumption) | (simp; done)) (lk1 (by first | assumption | (apply Ne.symm; assumption) | (simp; done)) (va_up_self _ _ _))) | exact lk1 (by first | assumption | (apply Ne.symm; assumption) | (simp; done)) (lk1 (by first | assumption | (apply Ne.symm; assumption) | (simp; done)) (lk1 (by first | assumption | (apply Ne.symm; assumption) | (simp; done)) (lk1 (by first | assumption | (apply Ne.symm; assumption) | (simp; done)) (by assumption)))) | exact lk1 (by first | assumption | (apply Ne.symm; assumption) | (simp; done)) (lk1 (by first | assumption | (apply Ne.symm; assumption) | (simp; done)) (lk1 (by first | assumption | (apply Ne.symm; assumption) | (simp; done)) (lk1 (by first | assumption | (apply Ne.symm; assumption) | (simp; done)) (va_up_self _ _ _))))) rfl (c_mplaceOf u0 rfl u1 k1 j (by omega) x hl) rfl rfl (Nat.le_of_ble_eq_true rfl) ⟨(Nat.le_of_ble_eq_true rfl), (Nat.le_of_ble_eq_true rfl)⟩ ?_
          refine pw_bipush (pc := 45) (-9) dX8_worth_45 (by decide) ?_
          have ho : oI (ixL x ((sN S).1 j)) = -9 ↔ ixL x ((sN S).1 j) = none := oI_none (fun p hp => by have := (ixL_lt hp).1; omega)
          refine pw_icmp_eq (pc := 47) 54 dX8_worth_47 (by decide) (fun y1 => ?_) (fun y1 => ?_)
          · refine pw_iconst (pc := 54) (nI 0) dX8_worth_54 (by decide) ?_
            refine pw_iadd (pc := 55) dX8_worth_55 ?_
            rw [i32_add0]
            refine pw_ist3 (pc := 56) dX8_worth_56 (Nat.le_of_ble_eq_true rfl) rfl ?_
            refine pw_iinc5 (pc := 57) (nI (j + 1)) dX8_worth_57 (Nat.le_of_ble_eq_true rfl) rfl (ni_inc _) ?_
            refine pw_goto (pc := 60) 31 dX8_worth_60 (by decide) ?_
            have e : lcF (sN S) x (j + 1) = lcF (sN S) x j := by rw [lcF, if_pos (ho.mp y1)]; rfl
            rw [← e]; exact ih (j + 1) (by omega)
          · refine pw_iconst (pc := 50) (nI 1) dX8_worth_50 (by decide) ?_
            refine pw_goto (pc := 51) 55 dX8_worth_51 (by decide) ?_
            refine pw_iadd (pc := 55) dX8_worth_55 ?_
            rw [nI_add]
            refine pw_ist3 (pc := 56) dX8_worth_56 (Nat.le_of_ble_eq_true rfl) rfl ?_
            refine pw_iinc5 (pc := 57) (nI (j + 1)) dX8_worth_57 (Nat.le_of_ble_eq_true rfl) rfl (ni_inc _) ?_
            refine pw_goto (pc := 60) 31 dX8_worth_60 (by decide) ?_
            have e : lcF (sN S) x (j + 1) = lcF (sN S) x j + 1 := by rw [lcF, if_neg (fun q => y1 (ho.mpr q))]
            rw [← e]; exact ih (j + 1) (by omega)
    refine pw_iconst (pc := 23) (nI 0) dX8_worth_23 (by decide) ?_
    refine pw_ist3 (pc := 24) dX8_worth_24 (Nat.le_of_ble_eq_true rfl) rfl ?_
    refine pw_iconst (pc := 25) (nI 0) dX8_worth_25 (by decide) ?_
    refine pw_ist4 (pc := 26) dX8_worth_26 (Nat.le_of_ble_eq_true rfl) rfl ?_
    refine pw_iconst (pc := 28) (nI 0) dX8_worth_28 (by decide) ?_
    refine pw_ist5 (pc := 29) dX8_worth_29 (Nat.le_of_ble_eq_true rfl) rfl ?_
    exact loop1 4 0 (by omega)
  · exact bad (by rw [z2]; simp)
theorem o_court (hm : modP h m S) (hw : wfR (sN S)) (set x y : Int32) : PM E mX8_court [.ref m, .int set, .int x, .int y] h n n 0 (QM m h (some (.int (a_court S set x y))) S) := by
  obtain ⟨⟨th, nx, tk, pl, vl, ft, sz, nm, m0⟩, ma⟩ := id hm
  obtain ⟨⟨gs, q1, k1⟩, -⟩ := id ma
  refine PM.of [.ref m, .int set, .int x, .int y, .null, .null, .null, .null, .null, .null, .null] rfl (Nat.le_of_ble_eq_true rfl) rfl ?_
  refine pw_aload_n (pc := 0) dX8_court_0 rfl ?_
  refine pw_iconst (pc := 1) (nI 0) dX8_court_1 (by decide) ?_
  refine pw_put0 (pc := 2) fp_X8_61 dX8_court_2 (by first | assumption | exact va_up_self _ _ _ | exact lk1 (by first | assumption | (apply Ne.symm; assumption) | (simp; done)) (by assumption) | exact lk1 (by first | assumption | (apply Ne.symm; assumption) | (simp; done)) (va_up_self _ _ _) | exact lk1 (by first | assumption | (apply Ne.symm; assumption) | (simp; done)) (lk1 (by first | assumption | (apply Ne.symm; assumption) | (simp; done)) (by assumption)) | exact lk1 (by first | assumption | (apply Ne.symm; assumption) | (simp; done)) (lk1 (by first | assumption | (apply Ne.symm; assumption) | (simp; done)) (va_up_self _ _ _)) | exact lk1 (by first | assumption | (apply Ne.symm; assumption) | (simp; done)) (lk1 (by first | assumption | (apply Ne.symm; assumption) | (simp; done)) (lk1 (by first | assumption | (apply Ne.symm; assumption) | (simp; done)) (by assumption))) | exact lk1 (by first | assumption | (apply Ne.symm; assumption) | (simp; done)) (lk1 (by first | assumption | (apply Ne.symm; assumption) | (simp; done)) (lk1 (by first | assumption | (apply Ne.symm; assumption) | (simp; done)) (va_up_self _ _ _))) | exact lk1 (by first | assumption | (apply Ne.symm; assumption) | (simp; done)) (lk1 (by first | assumption | (apply Ne.symm; assumption) | (simp; done)) (lk1 (by first | assumption | (apply Ne.symm; assumption) | (simp; done)) (lk1 (by first | assumption | (apply Ne.symm; assumption) | (simp; done)) (by assumption)))) | exact lk1 (by first | assumption | (apply Ne.symm; assumption) | (simp; done)) (lk1 (by first | assumption | (apply Ne.symm; assumption) | (simp; done)) (lk1 (by first | assumption | (apply Ne.symm; assumption) | (simp; done)) (lk1 (by first | assumption | (apply Ne.symm; assumption) | (simp; done)) (va_up_self _ _ _))))) rfl rfl ?_
  refine pw_iload_n (pc := 5) dX8_court_5 rfl ?_
  refine pw_callS_i (pc := 6) cs_X8_169 dX8_court_6 (c_misSet set) rfl rfl (Nat.le_of_ble_eq_true rfl) ⟨(Nat.le_of_ble_eq_true rfl), (Nat.le_of_ble_eq_true rfl)⟩ ?_
  generalize hh0 : va_up h m (some (.inr (8, mob m (nI 0) (sQ S) (nI (sT S).length) nx tk pl vl ft (sLo S) (sHi S) sz nm))) = h0
  have u0 : h0 m = some (.inr (8, mob m (nI 0) (sQ S) (nI (sT S).length) nx tk pl vl ft (sLo S) (sHi S) sz nm)) := by rw [← hh0]; exact va_up_self _ _ _
  have u1 : h0 (m + 1) = some (.inl (0, 90, .inl gs)) := by rw [← hh0]; exact lk1 (by omega) q1
  have fin : ∀ v0, v0 = a_court S set x y → QM m h (some (.int (a_court S set x y))) S (some (.int v0)) h0 := fun v0 e => ⟨by rw [e], ⟨⟨_, _, _, _, _, _, _, _, u0⟩, by rw [← hh0]; exact ma.on up_m⟩, by rw [← hh0]; exact on_m⟩
  have bad : okCourt S set x y = false → PW (KX E mX8_court n (QM m h (some (.int (a_court S set x y))) S)) 58 [.ref m, .int set, .int x, .int y, .null, .null, .null, .null, .null, .null, .null] [] h0 n 0 := by
    intro h1
    refine pw_ldc (pc := 58) (-1000000) dX8_court_58 lc_X8_186 ?_
    exact pw_iret dX8_court_60 rfl (fin _ (by rw [a_court, h1]; rfl))
  refine pw_if_eq_b (pc := 9) 58 dX8_court_9 (by decide) (fun z => ?_) (fun z => ?_)
  · exact bad (by rw [okCourt, z]; rfl)
  refine pw_iload_n (pc := 12) dX8_court_12 rfl ?_
  refine pw_iconst (pc := 13) (nI 0) dX8_court_13 (by decide) ?_
  refine pw_iconst (pc := 14) (nI 5) dX8_court_14 (by decide) ?_
  refine pw_callS_i (pc := 15) cs_X8_64 dX8_court_15 (c_in x (nI 0) (nI 5)) rfl rfl (Nat.le_of_ble_eq_true rfl) ⟨(Nat.le_of_ble_eq_true rfl), (Nat.le_of_ble_eq_true rfl)⟩ ?_
  refine pw_if_eq_b (pc := 18) 58 dX8_court_18 (by decide) (fun z1 => ?_) (fun z1 => ?_)
  · exact bad (by rw [okCourt, z, show rg 0 5 x = false from z1]; rfl)
  refine pw_iload_n (pc := 21) dX8_court_21 rfl ?_
  refine pw_iconst (pc := 22) (nI 0) dX8_court_22 (by decide) ?_
  refine pw_iconst (pc := 23) (nI 5) dX8_court_23 (by decide) ?_
  refine pw_callS_i (pc := 24) cs_X8_64 dX8_court_24 (c_in y (nI 0) (nI 5)) rfl rfl (Nat.le_of_ble_eq_true rfl) ⟨(Nat.le_of_ble_eq_true rfl), (Nat.le_of_ble_eq_true rfl)⟩ ?_
  refine pw_if_eq_b (pc := 27) 58 dX8_court_27 (by decide) (fun z2 => ?_) (fun z2 => ?_)
  · exact bad (by rw [okCourt, z, show rg 0 5 x = true from z1, show rg 0 5 y = false from z2]; rfl)
  obtain ⟨i, hi, ex, ei⟩ := rg_ix (hi := 5) (show rg 0 5 x = true from z1)
  obtain ⟨j, hj, ey, ej⟩ := rg_ix (hi := 5) (show rg 0 5 y = true from z2)
  rw [ex]
  refine pw_aload_n (pc := 30) dX8_court_30 rfl ?_
  refine pw_get (pc := 31) fg_X8_7 dX8_court_31 (by first | assumption | exact va_up_self _ _ _ | exact lk1 (by first | assumption | (apply Ne.symm; assumption) | (simp; done)) (by assumption) | exact lk1 (by first | assumption | (apply Ne.symm; assumption) | (simp; done)) (va_up_self _ _ _) | exact lk1 (by first | assumption | (apply Ne.symm; assumption) | (simp; done)) (lk1 (by first | assumption | (apply Ne.symm; assumption) | (simp; done)) (by assumption)) | exact lk1 (by first | assumption | (apply Ne.symm; assumption) | (simp; done)) (lk1 (by first | assumption | (apply Ne.symm; assumption) | (simp; done)) (va_up_self _ _ _)) | exact lk1 (by first | assumption | (apply Ne.symm; assumption) | (simp; done)) (lk1 (by first | assumption | (apply Ne.symm; assumption) | (simp; done)) (lk1 (by first | assumption | (apply Ne.symm; assumption) | (simp; done)) (by assumption))) | exact lk1 (by first | assumption | (apply Ne.symm; assumption) | (simp; done)) (lk1 (by first | assumption | (apply Ne.symm; assumption) | (simp; done)) (lk1 (by first | assumption | (apply Ne.symm; assumption) | (simp; done)) (va_up_self _ _ _))) | exact lk1 (by first | assumption | (apply Ne.symm; assumption) | (simp; done)) (lk1 (by first | assumption | (apply Ne.symm; assumption) | (simp; done)) (lk1 (by first | assumption | (apply Ne.symm; assumption) | (simp; done)) (lk1 (by first | assumption | (apply Ne.symm; assumption) | (simp; done)) (by assumption)))) | exact lk1 (by first | assumption | (apply Ne.symm; assumption) | (simp; done)) (lk1 (by first | assumption | (apply Ne.symm; assumption) | (simp; done)) (lk1 (by first | assumption | (apply Ne.symm; assumption) | (simp; done)) (lk1 (by first | assumption | (apply Ne.symm; assumption) | (simp; done)) (va_up_self _ _ _))))) (by first | rfl | assumption) ?_
  refine pw_bipush (pc := 34) (nI 58) dX8_court_34 (by decide) ?_
  refine pw_iload_n (pc := 36) dX8_court_36 rfl ?_
  refine pw_iadd (pc := 37) dX8_court_37 ?_
  refine pw_iald (pc := 38) (58 + i) dX8_court_38 (by first | assumption | exact va_up_self _ _ _ | exact lk1 (by first | assumption | (apply Ne.symm; assumption) | (simp; done)) (by assumption) | exact lk1 (by first | assumption | (apply Ne.symm; assumption) | (simp; done)) (va_up_self _ _ _) | exact lk1 (by first | assumption | (apply Ne.symm; assumption) | (simp; done)) (lk1 (by first | assumption | (apply Ne.symm; assumption) | (simp; done)) (by assumption)) | exact lk1 (by first | assumption | (apply Ne.symm; assumption) | (simp; done)) (lk1 (by first | assumption | (apply Ne.symm; assumption) | (simp; done)) (va_up_self _ _ _)) | exact lk1 (by first | assumption | (apply Ne.symm; assumption) | (simp; done)) (lk1 (by first | assumption | (apply Ne.symm; assumption) | (simp; done)) (lk1 (by first | assumption | (apply Ne.symm; assumption) | (simp; done)) (by assumption))) | exact lk1 (by first | assumption | (apply Ne.symm; assumption) | (simp; done)) (lk1 (by first | assumption | (apply Ne.symm; assumption) | (simp; done)) (lk1 (by first | assumption | (apply Ne.symm; assumption) | (simp; done)) (va_up_self _ _ _))) | exact lk1 (by first | assumption | (apply Ne.symm; assumption) | (simp; done)) (lk1 (by first | assumption | (apply Ne.symm; assumption) | (simp; done)) (lk1 (by first | assumption | (apply Ne.symm; assumption) | (simp; done)) (lk1 (by first | assumption | (apply Ne.symm; assumption) | (simp; done)) (by assumption)))) | exact lk1 (by first | assumption | (apply Ne.symm; assumption) | (simp; done)) (lk1 (by first | assumption | (apply Ne.symm; assumption) | (simp; done)) (lk1 (by first | assumption | (apply Ne.symm; assumption) | (simp; done)) (lk1 (by first | assumption | (apply Ne.symm; assumption) | (simp; done)) (va_up_self _ _ _))))) (by first | assumption | rfl | (simp only [nI_add, pk_mul, Nat.one_mul, Nat.mul_one, Nat.zero_add, Nat.add_zero, Nat.mul_zero]; done) | exact pk_sub (by omega) | (rw [pk_sub (by omega)]; first | done | (rw [nI_add]; done) | (rw [pk_sub (by omega)]; done) | (rw [pk_sub (by omega), nI_add]; done)) | (simp only [nI_add, pk_mul]; first | exact pk_sub (by omega) | (congr 1; omega)) | (congr 1; omega)) (by omega) (by omega) ?_
  refine pw_bipush (pc := 39) (-9) dX8_court_39 (by decide) ?_
  rw [k1.z.2.2.2.1 i (by omega), ← ex]
  refine pw_icmp_eq (pc := 41) 58 dX8_court_41 (by decide) (fun z3 => ?_) (fun z3 => ?_)
  · exact bad (by rw [okCourt, ei]; simp [show sCl S i = -9 from z3])
  rw [ey]
  refine pw_aload_n (pc := 44) dX8_court_44 rfl ?_
  refine pw_get (pc := 45) fg_X8_7 dX8_court_45 (by first | assumption | exact va_up_self _ _ _ | exact lk1 (by first | assumption | (apply Ne.symm; assumption) | (simp; done)) (by assumption) | exact lk1 (by first | assumption | (apply Ne.symm; assumption) | (simp; done)) (va_up_self _ _ _) | exact lk1 (by first | assumption | (apply Ne.symm; assumption) | (simp; done)) (lk1 (by first | assumption | (apply Ne.symm; assumption) | (simp; done)) (by assumption)) | exact lk1 (by first | assumption | (apply Ne.symm; assumption) | (simp; done)) (lk1 (by first | assumption | (apply Ne.symm; assumption) | (simp; done)) (va_up_self _ _ _)) | exact lk1 (by first | assumption | (apply Ne.symm; assumption) | (simp; done)) (lk1 (by first | assumption | (apply Ne.symm; assumption) | (simp; done)) (lk1 (by first | assumption | (apply Ne.symm; assumption) | (simp; done)) (by assumption))) | exact lk1 (by first | assumption | (apply Ne.symm; assumption) | (simp; done)) (lk1 (by first | assumption | (apply Ne.symm; assumption) | (simp; done)) (lk1 (by first | assumption | (apply Ne.symm; assumption) | (simp; done)) (va_up_self _ _ _))) | exact lk1 (by first | assumption | (apply Ne.symm; assumption) | (simp; done)) (lk1 (by first | assumption | (apply Ne.symm; assumption) | (simp; done)) (lk1 (by first | assumption | (apply Ne.symm; assumption) | (simp; done)) (lk1 (by first | assumption | (apply Ne.symm; assumption) | (simp; done)) (by assumption)))) | exact lk1 (by first | assumption | (apply Ne.symm; assumption) | (simp; done)) (lk1 (by first | assumption | (apply Ne.symm; assumption) | (simp; done)) (lk1 (by first | assumption | (apply Ne.symm; assumption) | (simp; done)) (lk1 (by first | assumption | (apply Ne.symm; assumption) | (simp; done)) (va_up_self _ _ _))))) (by first | rfl | assumption) ?_
  refine pw_bipush (pc := 48) (nI 58) dX8_court_48 (by decide) ?_
  refine pw_iload_n (pc := 50) dX8_court_50 rfl ?_
  refine pw_iadd (pc := 51) dX8_court_51 ?_
  refine pw_iald (pc := 52) (58 + j) dX8_court_52 (by first | assumption | exact va_up_self _ _ _ | exact lk1 (by first | assumption | (apply Ne.symm; assumption) | (simp; done)) (by assumption) | exact lk1 (by first | assumption | (apply Ne.symm; assumption) | (simp; done)) (va_up_self _ _ _) | exact lk1 (by first | assumption | (apply Ne.symm; assumption) | (simp; done)) (lk1 (by first | assumption | (apply Ne.symm; assumption) | (simp; done)) (by assumption)) | exact lk1 (by first | assumption | (apply Ne.symm; assumption) | (simp; done)) (lk1 (by first | assumption | (apply Ne.symm; assumption) | (simp; done)) (va_up_self _ _ _)) | exact lk1 (by first | assumption | (apply Ne.symm; assumption) | (simp; done)) (lk1 (by first | assumption | (apply Ne.symm; assumption) | (simp; done)) (lk1 (by first | assumption | (apply Ne.symm; assumption) | (simp; done)) (by assumption))) | exact lk1 (by first | assumption | (apply Ne.symm; assumption) | (simp; done)) (lk1 (by first | assumption | (apply Ne.symm; assumption) | (simp; done)) (lk1 (by first | assumption | (apply Ne.symm; assumption) | (simp; done)) (va_up_self _ _ _))) | exact lk1 (by first | assumption | (apply Ne.symm; assumption) | (simp; done)) (lk1 (by first | assumption | (apply Ne.symm; assumption) | (simp; done)) (lk1 (by first | assumption | (apply Ne.symm; assumption) | (simp; done)) (lk1 (by first | assumption | (apply Ne.symm; assumption) | (simp; done)) (by assumption)))) | exact lk1 (by first | assumption | (apply Ne.symm; assumption) | (simp; done)) (lk1 (by first | assumption | (apply Ne.symm; assumption) | (simp; done)) (lk1 (by first | assumption | (apply Ne.symm; assumption) | (simp; done)) (lk1 (by first | assumption | (apply Ne.symm; assumption) | (simp; done)) (va_up_self _ _ _))))) (by first | assumption | rfl | (simp only [nI_add, pk_mul, Nat.one_mul, Nat.mul_one, Nat.zero_add, Nat.add_zero, Nat.mul_zero]; done) | exact pk_sub (by omega) | (rw [pk_sub (by omega)]; first | done | (rw [nI_add]; done) | (rw [pk_sub (by omega)]; done) | (rw [pk_sub (by omega), nI_add]; done)) | (simp only [nI_add, pk_mul]; first | exact pk_sub (by omega) | (congr 1; omega)) | (congr 1; omega)) (by omega) (by omega) ?_
  refine pw_bipush (pc := 53) (-9) dX8_court_53 (by decide) ?_
  rw [k1.z.2.2.2.1 j (by omega), ← ey]
  refine pw_icmp_ne (pc := 55) 61 dX8_court_55 (by decide) (fun z4 => ?_) (fun z4 => ?_)
  · have hok : okCourt S set x y = true := by rw [okCourt, ei, ej, z, show rg 0 5 x = true from z1, show rg 0 5 y = true from z2]; simp [show sCl S i ≠ -9 from z3, show sCl S j ≠ -9 from z4]
    have loop : ∀ p k w6 w7 w8 w9 w10, k + p = 4 → PW (KX E mX8_court n (QM m h (some (.int (a_court S set x y))) S)) 67 [.ref m, .int set, .int x, .int y, .int (crtF (sN S) set (sCl S i) (sCl S j) k), .int (nI k), w6, w7, w8, w9, w10] [] h0 n 0 := by
      intro p
      induction p with
      | zero =>
        intro k w6 w7 w8 w9 w10 hk
        refine pw_iload (pc := 67) dX8_court_67 rfl ?_
        refine pw_iconst (pc := 69) (nI 4) dX8_court_69 (by decide) ?_
        refine pw_icmp_ge_n (pc := 70) 191 dX8_court_70 (by decide) (by omega) (by omega) (fun c => ?_) (fun c => ?_)
        · obtain rfl : k = 4 := by omega
          refine pw_iload (pc := 191) dX8_court_191 rfl ?_
          exact pw_iret dX8_court_193 rfl (fin _ (by rw [a_court, hok, if_pos rfl, ei, ej]))
        · omega
      | succ p ih =>
        intro k w6 w7 w8 w9 w10 hk
        have hl := (hw.1 k (by omega)).1
        refine pw_iload (pc := 67) dX8_court_67 rfl ?_
        refine pw_iconst (pc := 69) (nI 4) dX8_court_69 (by decide) ?_
        refine pw_icmp_ge_n (pc := 70) 191 dX8_court_70 (by decide) (by omega) (by omega) (fun c => ?_) (fun c => ?_)
        · omega
        · rw [ex]
          refine pw_aload_n (pc := 73) dX8_court_73 rfl ?_
          refine pw_iload (pc := 74) dX8_court_74 rfl ?_
          refine pw_aload_n (pc := 76) dX8_court_76 rfl ?_
          refine pw_get (pc := 77) fg_X8_7 dX8_court_77 (by first | assumption | exact va_up_self _ _ _ | exact lk1 (by first | assumption | (apply Ne.symm; assumption) | (simp; done)) (by assumption) | exact lk1 (by first | assumption | (apply Ne.symm; assumption) | (simp; done)) (va_up_self _ _ _) | exact lk1 (by first | assumption | (apply Ne.symm; assumption) | (simp; done)) (lk1 (by first | assumption | (apply Ne.symm; assumption) | (simp; done)) (by assumption)) | exact lk1 (by first | assumption | (apply Ne.symm; assumption) | (simp; done)) (lk1 (by first | assumption | (apply Ne.symm; assumption) | (simp; done)) (va_up_self _ _ _)) | exact lk1 (by first | assumption | (apply Ne.symm; assumption) | (simp; done)) (lk1 (by first | assumption | (apply Ne.symm; assumption) | (simp; done)) (lk1 (by first | assumption | (apply Ne.symm; assumption) | (simp; done)) (by assumption))) | exact lk1 (by first | assumption | (apply Ne.symm; assumption) | (simp; done)) (lk1 (by first | assumption | (apply Ne.symm; assumption) | (simp; done)) (lk1 (by first | assumption | (apply Ne.symm; assumption) | (simp; done)) (va_up_self _ _ _))) | exact lk1 (by first | assumption | (apply Ne.symm; assumption) | (simp; done)) (lk1 (by first | assumption | (apply Ne.symm; assumption) | (simp; done)) (lk1 (by first | assumption | (apply Ne.symm; assumption) | (simp; done)) (lk1 (by first | assumption | (apply Ne.symm; assumption) | (simp; done)) (by assumption)))) | exact lk1 (by first | assumption | (apply Ne.symm; assumption) | (simp; done)) (lk1 (by first | assumption | (apply Ne.symm; assumption) | (simp; done)) (lk1 (by first | assumption | (apply Ne.symm; assumption) | (simp; done)) (lk1 (by first | assumption | (apply Ne.symm; assumption) | (simp; done)) (va_up_self _ _ _))))) (by first | rfl | assumption) ?_
          refine pw_bipush (pc := 80) (nI 58) dX8_court_80 (by decide) ?_
          refine pw_iload_n (pc := 82) dX8_court_82 rfl ?_
          refine pw_iadd (pc := 83) dX8_court_83 ?_
          refine pw_iald (pc := 84) (58 + i) dX8_court_84 (by first | assumption | exact va_up_self _ _ _ | exact lk1 (by first | assumption | (apply Ne.symm; assumption) | (simp; done)) (by assumption) | exact lk1 (by first | assumption | (apply Ne.symm; assumption) | (simp; done)) (va_up_self _ _ _) | exact lk1 (by first | assumption | (apply Ne.symm; assumption) | (simp; done)) (lk1 (by first | assumption | (apply Ne.symm; assumption) | (simp; done)) (by assumption)) | exact lk1 (by first | assumption | (apply Ne.symm; assumption) | (simp; done)) (lk1 (by first | assumption | (apply Ne.symm; assumption) | (simp; done)) (va_up_self _ _ _)) | exact lk1 (by first | assumption | (apply Ne.symm; assumption) | (simp; done)) (lk1 (by first | assumption | (apply Ne.symm; assumption) | (simp; done)) (lk1 (by first | assumption | (apply Ne.symm; assumption) | (simp; done)) (by assumption))) | exact lk1 (by first | assumption | (apply Ne.symm; assumption) | (simp; done)) (lk1 (by first | assumption | (apply Ne.symm; assumption) | (simp; done)) (lk1 (by first | assumption | (apply Ne.symm; assumption) | (simp; done)) (va_up_self _ _ _))) | exact lk1 (by first | assumption | (apply Ne.symm; assumption) | (simp; done)) (lk1 (by first | assumption | (apply Ne.symm; assumption) | (simp; done)) (lk1 (by first | assumption | (apply Ne.symm; assumption) | (simp; done)) (lk1 (by first | assumption | (apply Ne.symm; assumption) | (simp; done)) (by assumption)))) | exact lk1 (by first | assumption | (apply Ne.symm; assumption) | (simp; done)) (lk1 (by first | assumption | (apply Ne.symm; assumption) | (simp; done)) (lk1 (by first | assumption | (apply Ne.symm; assumption) | (simp; done)) (lk1 (by first | assumption | (apply Ne.symm; assumption) | (simp; done)) (va_up_self _ _ _))))) (by first | assumption | rfl | (simp only [nI_add, pk_mul, Nat.one_mul, Nat.mul_one, Nat.zero_add, Nat.add_zero, Nat.mul_zero]; done) | exact pk_sub (by omega) | (rw [pk_sub (by omega)]; first | done | (rw [nI_add]; done) | (rw [pk_sub (by omega)]; done) | (rw [pk_sub (by omega), nI_add]; done)) | (simp only [nI_add, pk_mul]; first | exact pk_sub (by omega) | (congr 1; omega)) | (congr 1; omega)) (by omega) (by omega) ?_
          rw [k1.z.2.2.2.1 i (by omega), ← ex]
          refine pw_callV_i (pc := 85) cv_X8_131 dX8_court_85 (by first | assumption | exact va_up_self _ _ _ | exact lk1 (by first | assumption | (apply Ne.symm; assumption) | (simp; done)) (by assumption) | exact lk1 (by first | assumption | (apply Ne.symm; assumption) | (simp; done)) (va_up_self _ _ _) | exact lk1 (by first | assumption | (apply Ne.symm; assumption) | (simp; done)) (lk1 (by first | assumption | (apply Ne.symm; assumption) | (simp; done)) (by assumption)) | exact lk1 (by first | assumption | (apply Ne.symm; assumption) | (simp; done)) (lk1 (by first | assumption | (apply Ne.symm; assumption) | (simp; done)) (va_up_self _ _ _)) | exact lk1 (by first | assumption | (apply Ne.symm; assumption) | (simp; done)) (lk1 (by first | assumption | (apply Ne.symm; assumption) | (simp; done)) (lk1 (by first | assumption | (apply Ne.symm; assumption) | (simp; done)) (by assumption))) | exact lk1 (by first | assumption | (apply Ne.symm; assumption) | (simp; done)) (lk1 (by first | assumption | (apply Ne.symm; assumption) | (simp; done)) (lk1 (by first | assumption | (apply Ne.symm; assumption) | (simp; done)) (va_up_self _ _ _))) | exact lk1 (by first | assumption | (apply Ne.symm; assumption) | (simp; done)) (lk1 (by first | assumption | (apply Ne.symm; assumption) | (simp; done)) (lk1 (by first | assumption | (apply Ne.symm; assumption) | (simp; done)) (lk1 (by first | assumption | (apply Ne.symm; assumption) | (simp; done)) (by assumption)))) | exact lk1 (by first | assumption | (apply Ne.symm; assumption) | (simp; done)) (lk1 (by first | assumption | (apply Ne.symm; assumption) | (simp; done)) (lk1 (by first | assumption | (apply Ne.symm; assumption) | (simp; done)) (lk1 (by first | assumption | (apply Ne.symm; assumption) | (simp; done)) (va_up_self _ _ _))))) rfl (c_mplaceOf u0 rfl u1 k1 k (by omega) _ hl) rfl rfl (Nat.le_of_ble_eq_true rfl) ⟨(Nat.le_of_ble_eq_true rfl), (Nat.le_of_ble_eq_true rfl)⟩ ?_
          refine pw_ist6 (pc := 88) dX8_court_88 (Nat.le_of_ble_eq_true rfl) rfl ?_
          rw [ey]
          refine pw_aload_n (pc := 90) dX8_court_90 rfl ?_
          refine pw_iload (pc := 91) dX8_court_91 rfl ?_
          refine pw_aload_n (pc := 93) dX8_court_93 rfl ?_
          refine pw_get (pc := 94) fg_X8_7 dX8_court_94 (by first | assumption | exact va_up_self _ _ _ | exact lk1 (by first | assumption | (apply Ne.symm; assumption) | (simp; done)) (by assumption) | exact lk1 (by first | assumption | (apply Ne.symm; assumption) | (simp; done)) (va_up_self _ _ _) | exact lk1 (by first | assumption | (apply Ne.symm; assumption) | (simp; done)) (lk1 (by first | assumption | (apply Ne.symm; assumption) | (simp; done)) (by assumption)) | exact lk1 (by first | assumption | (apply Ne.symm; assumption) | (simp; done)) (lk1 (by first | assumption | (apply Ne.symm; assumption) | (simp; done)) (va_up_self _ _ _)) | exact lk1 (by first | assumption | (apply Ne.symm; assumption) | (simp; done)) (lk1 (by first | assumption | (apply Ne.symm; assumption) | (simp; done)) (lk1 (by first | assumption | (apply Ne.symm; assumption) | (simp; done)) (by assumption))) | exact lk1 (by first | assumption | (apply Ne.symm; assumption) | (simp; done)) (lk1 (by first | assumption | (apply Ne.symm; assumption) | (simp; done)) (lk1 (by first | assumption | (apply Ne.symm; assumption) | (simp; done)) (va_up_self _ _ _))) | exact lk1 (by first | assumption | (apply Ne.symm; assumption) | (simp; done)) (lk1 (by first | assumption | (apply Ne.symm; assumption) | (simp; done)) (lk1 (by first | assumption | (apply Ne.symm; assumption) | (simp; done)) (lk1 (by first | assumption | (apply Ne.symm; assumption) | (simp; done)) (by assumption)))) | exact lk1 (by first | assumption | (apply Ne.symm; assumption) | (simp; done)) (lk1 (by first | assumption | (apply Ne.symm; assumption) | (simp; done)) (lk1 (by first | assumption | (apply Ne.symm; assumption) | (simp; done)) (lk1 (by first | assumption | (apply Ne.symm; assumption) | (simp; done)) (va_up_self _ _ _))))) (by first | rfl | assumption) ?_
          refine pw_bipush (pc := 97) (nI 58) dX8_court_97 (by decide) ?_
          refine pw_iload_n (pc := 99) dX8_court_99 rfl ?_
          refine pw_iadd (pc := 100) dX8_court_100 ?_
          refine pw_iald (pc := 101) (58 + j) dX8_court_101 (by first | assumption | exact va_up_self _ _ _ | exact lk1 (by first | assumption | (apply Ne.symm; assumption) | (simp; done)) (by assumption) | exact lk1 (by first | assumption | (apply Ne.symm; assumption) | (simp; done)) (va_up_self _ _ _) | exact lk1 (by first | assumption | (apply Ne.symm; assumption) | (simp; done)) (lk1 (by first | assumption | (apply Ne.symm; assumption) | (simp; done)) (by assumption)) | exact lk1 (by first | assumption | (apply Ne.symm; assumption) | (simp; done)) (lk1 (by first | assumption | (apply Ne.symm; assumption) | (simp; done)) (va_up_self _ _ _)) | exact lk1 (by first | assumption | (apply Ne.symm; assumption) | (simp; done)) (lk1 (by first | assumption | (apply Ne.symm; assumption) | (simp; done)) (lk1 (by first | assumption | (apply Ne.symm; assumption) | (simp; done)) (by assumption))) | exact lk1 (by first | assumption | (apply Ne.symm; assumption) | (simp; done)) (lk1 (by first | assumption | (apply Ne.symm; assumption) | (simp; done)) (lk1 (by first | assumption | (apply Ne.symm; assumption) | (simp; done)) (va_up_self _ _ _))) | exact lk1 (by first | assumption | (apply Ne.symm; assumption) | (simp; done)) (lk1 (by first | assumption | (apply Ne.symm; assumption) | (simp; done)) (lk1 (by first | assumption | (apply Ne.symm; assumption) | (simp; done)) (lk1 (by first | assumption | (apply Ne.symm; assumption) | (simp; done)) (by assumption)))) | exact lk1 (by first | assumption | (apply Ne.symm; assumption) | (simp; done)) (lk1 (by first | assumption | (apply Ne.symm; assumption) | (simp; done)) (lk1 (by first | assumption | (apply Ne.symm; assumption) | (simp; done)) (lk1 (by first | assumption | (apply Ne.symm; assumption) | (simp; done)) (va_up_self _ _ _))))) (by first | assumption | rfl | (simp only [nI_add, pk_mul, Nat.one_mul, Nat.mul_one, Nat.zero_add, Nat.add_zero, Nat.mul_zero]; done) | exact pk_sub (by omega) | (rw [pk_sub (by omega)]; first | done | (rw [nI_add]; done) | (rw [pk_sub (by omega)]; done) | (rw [pk_sub (by omega), nI_add]; done)) | (simp only [nI_add, pk_mul]; first | exact pk_sub (by omega) | (congr 1; omega)) | (congr 1; omega)) (by omega) (by omega) ?_
          rw [k1.z.2.2.2.1 j (by omega), ← ey]
          refine pw_callV_i (pc := 102) cv_X8_131 dX8_court_102 (by first | assumption | exact va_up_self _ _ _ | exact lk1 (by first | assumption | (apply Ne.symm; assumption) | (simp; done)) (by assumption) | exact lk1 (by first | assumption | (apply Ne.symm; assumption) | (simp; done)) (va_up_self _ _ _) | exact lk1 (by first | assumption | (apply Ne.symm; assumption) | (simp; done)) (lk1 (by first | assumption | (apply Ne.symm; assumption) | (simp; done)) (by assumption)) | exact lk1 (by first | assumption | (apply Ne.symm; assumption) | (simp; done)) (lk1 (by first | assumption | (apply Ne.symm; assumption) | (simp; done)) (va_up_self _ _ _)) | exact lk1 (by first | assumption | (apply Ne.symm; assumption) | (simp; done)) (lk1 (by first | assumption | (apply Ne.symm; assumption) | (simp; done)) (lk1 (by first | assumption | (apply Ne.symm; assumption) | (simp; done)) (by assumption))) | exact lk1 (by first | assumption | (apply Ne.symm; assumption) | (simp; done)) (lk1 (by first | assumption | (apply Ne.symm; assumption) | (simp; done)) (lk1 (by first | assumption | (apply Ne.symm; assumption) | (simp; done)) (va_up_self _ _ _))) | exact lk1 (by first | assumption | (apply Ne.symm; assumption) | (simp; done)) (lk1 (by first | assumption | (apply Ne.symm; assumption) | (simp; done)) (lk1 (by first | assumption | (apply Ne.symm; assumption) | (simp; done)) (lk1 (by first | assumption | (apply Ne.symm; assumption) | (simp; done)) (by assumption)))) | exact lk1 (by first | assumption | (apply Ne.symm; assumption) | (simp; done)) (lk1 (by first | assumption | (apply Ne.symm; assumption) | (simp; done)) (lk1 (by first | assumption | (apply Ne.symm; assumption) | (simp; done)) (lk1 (by first | assumption | (apply Ne.symm; assumption) | (simp; done)) (va_up_self _ _ _))))) rfl (c_mplaceOf u0 rfl u1 k1 k (by omega) _ hl) rfl rfl (Nat.le_of_ble_eq_true rfl) ⟨(Nat.le_of_ble_eq_true rfl), (Nat.le_of_ble_eq_true rfl)⟩ ?_
          refine pw_ist7 (pc := 105) dX8_court_105 (Nat.le_of_ble_eq_true rfl) rfl ?_
          refine pw_iload (pc := 107) dX8_court_107 rfl ?_
          refine pw_bipush (pc := 109) (-9) dX8_court_109 (by decide) ?_
          have tail : ∀ w6 w7 w8 w9 b, b = crtB ((sN S).1 k) (sCl S i) (sCl S j) → PW (KX E mX8_court n (QM m h (some (.int (a_court S set x y))) S)) 162 [.ref m, .int set, .int x, .int y, .int (crtF (sN S) set (sCl S i) (sCl S j) k), .int (nI k), .int w6, .int w7, .int w8, .int w9, w10] [.int b] h0 n 0 := by
            intro w6 w7 w8 w9 b hb
            refine pw_ist10 (pc := 162) dX8_court_162 (Nat.le_of_ble_eq_true rfl) rfl ?_
            refine pw_iload (pc := 164) dX8_court_164 rfl ?_
            refine pw_iload_n (pc := 166) dX8_court_166 rfl ?_
            refine pw_iload (pc := 167) dX8_court_167 rfl ?_
            refine pw_ishr (pc := 169) dX8_court_169 ?_
            refine pw_iconst (pc := 170) (nI 1) dX8_court_170 (by decide) ?_
            refine pw_iand (pc := 171) dX8_court_171 ?_
            refine pw_iconst (pc := 172) (nI 1) dX8_court_172 (by decide) ?_
            refine pw_icmp_ne (pc := 173) 181 dX8_court_173 (by decide) (fun y1 => ?_) (fun y1 => ?_)
            · refine pw_iconst (pc := 181) (nI 0) dX8_court_181 (by decide) ?_
              refine pw_iadd (pc := 182) dX8_court_182 ?_
              rw [i32_add0]
              refine pw_ist4 (pc := 183) dX8_court_183 (Nat.le_of_ble_eq_true rfl) rfl ?_
              refine pw_iinc5 (pc := 185) (nI (k + 1)) dX8_court_185 (Nat.le_of_ble_eq_true rfl) rfl (ni_inc _) ?_
              refine pw_goto (pc := 188) 67 dX8_court_188 (by decide) ?_
              have y2 : ¬ inB set (nI k) = true := fun q => y1 ((inB_1 _ _).mpr q)
              have e2 : crtF (sN S) set (sCl S i) (sCl S j) (k + 1) = crtF (sN S) set (sCl S i) (sCl S j) k := by rw [crtF, if_neg y2]
              rw [← e2]
              exact ih (k + 1) _ _ _ _ _ (by omega)
            · refine pw_iload (pc := 176) dX8_court_176 rfl ?_
              refine pw_goto (pc := 178) 182 dX8_court_178 (by decide) ?_
              refine pw_iadd (pc := 182) dX8_court_182 ?_
              refine pw_ist4 (pc := 183) dX8_court_183 (Nat.le_of_ble_eq_true rfl) rfl ?_
              refine pw_iinc5 (pc := 185) (nI (k + 1)) dX8_court_185 (Nat.le_of_ble_eq_true rfl) rfl (ni_inc _) ?_
              refine pw_goto (pc := 188) 67 dX8_court_188 (by decide) ?_
              have y2 : inB set (nI k) = true := (inB_1 _ _).mp y1
              have e2 : crtF (sN S) set (sCl S i) (sCl S j) (k + 1) = crtF (sN S) set (sCl S i) (sCl S j) k + b := by rw [crtF, if_pos y2, hb]
              rw [← e2]
              exact ih (k + 1) _ _ _ _ _ (by omega)
          have tail2 : ∀ w6 w7 p0 q0, p0 = (if oI (ixL (sCl S i) ((sN S).1 k)) = -9 then nI 99 else oI (ixL (sCl S i) ((sN S).1 k))) → q0 = (if oI (ixL (sCl S j) ((sN S).1 k)) = -9 then nI 99 else oI (ixL (sCl S j) ((sN S).1 k))) → PW (KX E mX8_court n (QM m h (some (.int (a_court S set x y))) S)) 137 [.ref m, .int set, .int x, .int y, .int (crtF (sN S) set (sCl S i) (sCl S j) k), .int (nI k), .int w6, .int w7, .int p0, w9, w10] [.int q0] h0 n 0 := by
            intro w6 w7 p0 q0 hp hq
            have hb := crtB_m hl (sCl S i) (sCl S j)
            simp only [] at hb
            rw [← hp, ← hq] at hb
            refine pw_ist9 (pc := 137) dX8_court_137 (Nat.le_of_ble_eq_true rfl) rfl ?_
            refine pw_iload (pc := 139) dX8_court_139 rfl ?_
            refine pw_iload (pc := 141) dX8_court_141 rfl ?_
            refine pw_icmp_ge (pc := 143) 150 dX8_court_143 (by decide) (fun y1 => ?_) (fun y1 => ?_)
            · rw [if_neg (by rw [i32_lt]; rw [i32_le] at y1; omega)] at hb
              refine pw_iload (pc := 150) dX8_court_150 rfl ?_
              refine pw_iload (pc := 152) dX8_court_152 rfl ?_
              refine pw_icmp_le (pc := 154) 161 dX8_court_154 (by decide) (fun y2 => ?_) (fun y2 => ?_)
              · rw [if_neg (by rw [i32_lt]; rw [i32_le] at y2; omega)] at hb
                refine pw_iconst (pc := 161) (nI 0) dX8_court_161 (by decide) ?_
                exact tail _ _ _ _ _ hb
              · rw [if_pos (by rw [i32_lt]; rw [i32_le] at y2; omega)] at hb
                refine pw_iconst (pc := 157) (-1) dX8_court_157 (by decide) ?_
                refine pw_goto (pc := 158) 162 dX8_court_158 (by decide) ?_
                exact tail _ _ _ _ _ hb
            · rw [if_pos (by rw [i32_lt]; rw [i32_le] at y1; omega)] at hb
              refine pw_iconst (pc := 146) (nI 1) dX8_court_146 (by decide) ?_
              refine pw_goto (pc := 147) 162 dX8_court_147 (by decide) ?_
              exact tail _ _ _ _ _ hb
          have tail3 : ∀ w6 p0, p0 = (if oI (ixL (sCl S i) ((sN S).1 k)) = -9 then nI 99 else oI (ixL (sCl S i) ((sN S).1 k))) → PW (KX E mX8_court n (QM m h (some (.int (a_court S set x y))) S)) 121 [.ref m, .int set, .int x, .int y, .int (crtF (sN S) set (sCl S i) (sCl S j) k), .int (nI k), .int w6, .int (oI (ixL (sCl S j) ((sN S).1 k))), w8, w9, w10] [.int p0] h0 n 0 := by
            intro w6 p0 hp
            refine pw_ist8 (pc := 121) dX8_court_121 (Nat.le_of_ble_eq_true rfl) rfl ?_
            refine pw_iload (pc := 123) dX8_court_123 rfl ?_
            refine pw_bipush (pc := 125) (-9) dX8_court_125 (by decide) ?_
            refine pw_icmp_ne (pc := 127) 135 dX8_court_127 (by decide) (fun y1 => ?_) (fun y1 => ?_)
            · refine pw_iload (pc := 135) dX8_court_135 rfl ?_
              exact tail2 _ _ _ _ hp (by rw [if_neg y1])
            · refine pw_bipush (pc := 130) (nI 99) dX8_court_130 (by decide) ?_
              refine pw_goto (pc := 132) 137 dX8_court_132 (by decide) ?_
              exact tail2 _ _ _ _ hp (by rw [if_pos y1])
          refine pw_icmp_ne (pc := 111) 119 dX8_court_111 (by decide) (fun y1 => ?_) (fun y1 => ?_)
          · refine pw_iload (pc := 119) dX8_court_119 rfl ?_
            exact tail3 _ _ (by rw [if_neg y1])
          · refine pw_bipush (pc := 114) (nI 99) dX8_court_114 (by decide) ?_
            refine pw_goto (pc := 116) 121 dX8_court_116 (by decide) ?_
            exact tail3 _ _ (by rw [if_pos y1])
    refine pw_iconst (pc := 61) (nI 0) dX8_court_61 (by decide) ?_
    refine pw_ist4 (pc := 62) dX8_court_62 (Nat.le_of_ble_eq_true rfl) rfl ?_
    refine pw_iconst (pc := 64) (nI 0) dX8_court_64 (by decide) ?_
    refine pw_ist5 (pc := 65) dX8_court_65 (Nat.le_of_ble_eq_true rfl) rfl ?_
    exact loop 4 0 _ _ _ _ _ (by omega)
  · exact bad (by rw [okCourt, ej]; simp [show sCl S j = -9 from z4])
end M7
