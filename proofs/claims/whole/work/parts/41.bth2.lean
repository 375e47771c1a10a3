theorem nd_inj : ∀ {L : List Int32}, L.Nodup → ∀ {i j : Nat}, i < L.length → j < L.length → L.getD i 0 = L.getD j 0 → i = j
  | [], _, _, _, h, _, _ => absurd h (Nat.not_lt_zero _)
  | x :: L, h, 0, 0, _, _, _ => rfl
  | x :: L, h, 0, j + 1, _, hj, e => by
    exfalso
    have hj' : j < L.length := by simpa using hj
    have e' : x = L.getD j 0 := by simpa using e
    refine (List.nodup_cons.mp h).1 ?_
    rw [e', List.getD_eq_getElem?_getD, List.getElem?_eq_getElem hj']
    exact List.getElem_mem _
  | x :: L, h, i + 1, 0, hi, _, e => by
    exfalso
    have hi' : i < L.length := by simpa using hi
    have e' : L.getD i 0 = x := by simpa using e
    refine (List.nodup_cons.mp h).1 ?_
    rw [← e', List.getD_eq_getElem?_getD, List.getElem?_eq_getElem hi']
    exact List.getElem_mem _
  | x :: L, h, i + 1, j + 1, hi, hj, e => by
    have := nd_inj (L := L) (List.nodup_cons.mp h).2 (i := i) (j := j) (by simpa using hi) (by simpa using hj) (by simpa using e)
    omega
theorem mem_getD {L : List Int32} {k : Nat} (hk : k < L.length) : L.getD k 0 ∈ L := by
  rw [List.getD_eq_getElem?_getD, List.getElem?_eq_getElem hk]
  exact List.getElem_mem _
theorem ixL_at {L : List Int32} (h : L.Nodup) {k : Nat} (hk : k < L.length) : ixL (L.getD k 0) L = some k := by
  cases e : ixL (L.getD k 0) L with
  | none => exact absurd (mem_getD hk) (ixL_none.mp e)
  | some p =>
    obtain ⟨h1, h2⟩ := ixL_lt e
    rw [nd_inj h h1 hk h2]
def lcR (prev : Nat → Nat) (x : Int32) (L2 : List Int32) : Nat → Nat
  | 0 => 0
  | b + 1 => if x = L2.getD b 0 then prev b + 1 else max (prev (b + 1)) (lcR prev x L2 b)
def lcP (L1 L2 : List Int32) : Nat → Nat → Nat
  | 0 => fun _ => 0
  | a + 1 => lcR (lcP L1 L2 a) (L1.getD a 0) L2
theorem ppM_mono (L1 L2 : List Int32) : ∀ a b, ppM L1 L2 a b ≤ ppM L1 L2 a (b + 1)
  | 0, _ => Nat.le_refl _
  | a + 1, b => by
    have h1 := ppM_mono L1 L2 a b
    cases e : ixL (L1.getD a 0) L2 with
    | none => rw [(ppM_none e).1, (ppM_none e).1]; exact h1
    | some p =>
      by_cases h2 : p < b
      · rw [ppM_yes e h2, ppM_yes e (by omega)]; omega
      · by_cases h3 : p < b + 1
        · rw [ppM_no e h2, ppM_yes e h3]; omega
        · rw [ppM_no e h2, ppM_no e h3]; exact h1
theorem ppM_skip {L1 L2 : List Int32} {b : Nat} : ∀ a, (∀ k, k < a → ixL (L1.getD k 0) L2 ≠ some b) → ppM L1 L2 a (b + 1) = ppM L1 L2 a b
  | 0, _ => rfl
  | a + 1, h => by
    have h1 := ppM_skip a (fun k hk => h k (by omega))
    cases e : ixL (L1.getD a 0) L2 with
    | none => rw [(ppM_none e).1, (ppM_none e).1]; exact h1
    | some p =>
      have hp : p ≠ b := fun q => h a (by omega) (by rw [e, q])
      by_cases h2 : p < b
      · rw [ppM_yes e h2, ppM_yes e (by omega), h1]
      · rw [ppM_no e h2, ppM_no e (by omega), h1]
theorem lcP_0 (L1 L2 : List Int32) : ∀ a, lcP L1 L2 a 0 = 0
  | 0 => rfl
  | _ + 1 => rfl
theorem ppM_b0 (L1 L2 : List Int32) : ∀ a, ppM L1 L2 a 0 = 0
  | 0 => rfl
  | a + 1 => by
    have := ppM_b0 L1 L2 a
    cases e : ixL (L1.getD a 0) L2 with
    | none => rw [(ppM_none e).1, this]
    | some p => rw [ppM_no e (by omega), this]
theorem lcP_ppM {L1 L2 : List Int32} (n1 : L1.Nodup) (n2 : L2.Nodup) : ∀ a, a ≤ L1.length → ∀ b, b ≤ L2.length → lcP L1 L2 a b = ppM L1 L2 a b
  | 0, _, _, _ => rfl
  | a + 1, ha, 0, _ => by rw [ppM_b0]; rfl
  | a + 1, ha, b + 1, hb => by
    have i1 := lcP_ppM n1 n2 a (by omega) b (by omega)
    have i2 := lcP_ppM n1 n2 a (by omega) (b + 1) hb
    have i3 := lcP_ppM n1 n2 (a + 1) ha b (by omega)
    show lcR (lcP L1 L2 a) (L1.getD a 0) L2 (b + 1) = _
    have i3' : lcR (lcP L1 L2 a) (L1.getD a 0) L2 b = ppM L1 L2 (a + 1) b := i3
    rw [lcR]
    by_cases h : L1.getD a 0 = L2.getD b 0
    · rw [if_pos h, i1]
      have e : ixL (L1.getD a 0) L2 = some b := by rw [h]; exact ixL_at n2 (by omega)
      have sk := ppM_skip (L1 := L1) (L2 := L2) (b := b) a (fun k hk q => by
        have := (ixL_lt q).2
        rw [← h] at this
        have := nd_inj n1 (by omega) (by omega) this
        omega)
      rw [ppM_yes e (by omega), ppD, e, sk]
      simp only []
      omega
    · rw [if_neg h, i2, i3']
      have mo := ppM_mono L1 L2 a b
      cases e : ixL (L1.getD a 0) L2 with
      | none => rw [(ppM_none e).1, (ppM_none e).1]; omega
      | some p =>
        have hp : p ≠ b := fun q => by subst q; exact h (ixL_lt e).2.symm
        by_cases h2 : p < b
        · rw [ppM_yes e h2, ppM_yes e (by omega)]; omega
        · rw [ppM_no e h2, ppM_no e (by omega)]; omega
  termination_by a _ b => (a, b)
def a_both (S : AS) (i j w : Int32) : Int32 := if rg 0 3 i && rg 0 3 j && rg 0 3 w then (if w = 0 then bitsL (sLs S (ixN i)) &&& (bitsL (sLs S (ixN j)) ^^^ -1) else if w = 1 then bitsL (sLs S (ixN j)) &&& (bitsL (sLs S (ixN i)) ^^^ -1) else if w = 2 then nI (ppM (sLs S (ixN i)) (sLs S (ixN j)) (sLs S (ixN i)).length (sLs S (ixN j)).length) else onesF (bitsL (sLs S (ixN i)) &&& bitsL (sLs S (ixN j))) 26 - nI (ppM (sLs S (ixN i)) (sLs S (ixN j)) (sLs S (ixN i)).length (sLs S (ixN j)).length)) else -1
theorem bt_bitsF {f : Nat → Int32} {k : Nat} (hk : k < 32) : ∀ n, (∀ j, j < n → ∃ x : Nat, x < 26 ∧ f j = nI x) → bt (bitsF f n) k = true → k < 26
  | 0, _, h => by rw [bitsF, bt_0] at h; cases h
  | n + 1, hf, h => by
    rw [bitsF, bt_or, Bool.or_eq_true] at h
    rcases h with h | h
    · exact bt_bitsF hk n (fun j hj => hf j (by omega)) h
    · obtain ⟨x, hx, e⟩ := hf n (by omega)
      rw [e] at h
      have h' : bt (bit1 (nI x)) k = true := h
      rw [bt_bit1 (by omega) hk] at h'
      have := of_decide_eq_true h'
      omega
theorem bits_small {L : List Int32} (h : ∀ x, x ∈ L → rg 0 25 x = true) : ∀ k, 26 ≤ k → k < 32 → bt (bitsL L) k = false := by
  intro k h1 h2
  cases e : bt (bitsL L) k with
  | false => rfl
  | true =>
    have := bt_bitsF h2 _ (fun j hj => by
      obtain ⟨x, hx, ex, -⟩ := rg_ix (hi := 25) (h _ (mem_getD hj))
      exact ⟨x, by omega, ex⟩) e
    omega
section B2
variable {E : EV} {h : HP} {n c : Nat} {S : AS}
theorem k_both (hc : clsP h c S) (hw : wfS S) (i j w : Int32) : PM E mX7_both [.ref c, .int i, .int j, .int w] h n n 0 (QC c h (some (.int (a_both S i j w))) S) := by
  obtain ⟨c1, c2, c3, ⟨r1, ⟨q, r2, r3⟩, r4, r5, r6⟩, c5, c6, c7, c8, c9, f, c10⟩ := id hc
  have bad : (rg 0 3 i && rg 0 3 j && rg 0 3 w) = false → PW (KX E mX7_both n (QC c h (some (.int (a_both S i j w))) S)) 14 [.ref c, .int i, .int j, .int w, .null, .null, .null, .null] [] h n 0 := by
    intro hb
    refine pw_iconst (pc := 14) (-1) dX7_both_14 (by decide) ?_
    refine pw_iret dX7_both_15 rfl ⟨?_, hc, only.rfl⟩
    rw [a_both, hb]; rfl
  refine PM.of [.ref c, .int i, .int j, .int w, .null, .null, .null, .null] rfl (Nat.le_of_ble_eq_true rfl) rfl ?_
  refine pw_iload_n (pc := 0) dX7_both_0 rfl ?_
  refine pw_callS_i (pc := 1) cs_X7_83 dX7_both_1 (c_isList i) rfl rfl (Nat.le_of_ble_eq_true rfl) ⟨(Nat.le_of_ble_eq_true rfl), (Nat.le_of_ble_eq_true rfl)⟩ ?_
  refine pw_if_eq_b (pc := 4) 14 dX7_both_4 (by decide) (fun z => ?_) (fun z => ?_)
  · exact bad (by rw [z]; rfl)
  refine pw_iload_n (pc := 7) dX7_both_7 rfl ?_
  refine pw_callS_i (pc := 8) cs_X7_83 dX7_both_8 (c_isList j) rfl rfl (Nat.le_of_ble_eq_true rfl) ⟨(Nat.le_of_ble_eq_true rfl), (Nat.le_of_ble_eq_true rfl)⟩ ?_
  refine pw_if_ne_b (pc := 11) 16 dX7_both_11 (by decide) (fun z1 => ?_) (fun z1 => ?_)
  · obtain ⟨p1, hp1, ei, ej1⟩ := rg_ix (hi := 3) z
    obtain ⟨p2, hp2, ej, ej2⟩ := rg_ix (hi := 3) z1
    have hr1 := r6 p1 (by omega)
    have hr2 := r6 p2 (by omega)
    obtain ⟨g1, u1, hg1⟩ := id hr1
    obtain ⟨g2, u2, hg2⟩ := id hr2
    have u10 := u1.1
    have u20 := u2.1
    have hq1 := r3 p1 (by omega)
    have hq2 := r3 p2 (by omega)
    have wf1 := hw.2.2.2.1.1 p1 (by omega)
    have wf2 := hw.2.2.2.1.1 p2 (by omega)
    rw [ei, ej]
    refine pw_aload_n (pc := 16) dX7_both_16 rfl ?_
    refine pw_get (pc := 17) fg_X7_26 dX7_both_17 (by first | assumption | exact va_up_self _ _ _ | exact lk1 (by first | assumption | (apply Ne.symm; assumption) | (simp; done)) (by assumption) | exact lk1 (by first | assumption | (apply Ne.symm; assumption) | (simp; done)) (va_up_self _ _ _) | exact lk1 (by first | assumption | (apply Ne.symm; assumption) | (simp; done)) (lk1 (by first | assumption | (apply Ne.symm; assumption) | (simp; done)) (by assumption)) | exact lk1 (by first | assumption | (apply Ne.symm; assumption) | (simp; done)) (lk1 (by first | assumption | (apply Ne.symm; assumption) | (simp; done)) (va_up_self _ _ _)) | exact lk1 (by first | assumption | (apply Ne.symm; assumption) | (simp; done)) (lk1 (by first | assumption | (apply Ne.symm; assumption) | (simp; done)) (lk1 (by first | assumption | (apply Ne.symm; assumption) | (simp; done)) (by assumption))) | exact lk1 (by first | assumption | (apply Ne.symm; assumption) | (simp; done)) (lk1 (by first | assumption | (apply Ne.symm; assumption) | (simp; done)) (lk1 (by first | assumption | (apply Ne.symm; assumption) | (simp; done)) (va_up_self _ _ _))) | exact lk1 (by first | assumption | (apply Ne.symm; assumption) | (simp; done)) (lk1 (by first | assumption | (apply Ne.symm; assumption) | (simp; done)) (lk1 (by first | assumption | (apply Ne.symm; assumption) | (simp; done)) (lk1 (by first | assumption | (apply Ne.symm; assumption) | (simp; done)) (by assumption)))) | exact lk1 (by first | assumption | (apply Ne.symm; assumption) | (simp; done)) (lk1 (by first | assumption | (apply Ne.symm; assumption) | (simp; done)) (lk1 (by first | assumption | (apply Ne.symm; assumption) | (simp; done)) (lk1 (by first | assumption | (apply Ne.symm; assumption) | (simp; done)) (va_up_self _ _ _))))) (by first | rfl | assumption) ?_
    refine pw_get (pc := 20) fg_X7_90 dX7_both_20 (by first | assumption | exact va_up_self _ _ _ | exact lk1 (by first | assumption | (apply Ne.symm; assumption) | (simp; done)) (by assumption) | exact lk1 (by first | assumption | (apply Ne.symm; assumption) | (simp; done)) (va_up_self _ _ _) | exact lk1 (by first | assumption | (apply Ne.symm; assumption) | (simp; done)) (lk1 (by first | assumption | (apply Ne.symm; assumption) | (simp; done)) (by assumption)) | exact lk1 (by first | assumption | (apply Ne.symm; assumption) | (simp; done)) (lk1 (by first | assumption | (apply Ne.symm; assumption) | (simp; done)) (va_up_self _ _ _)) | exact lk1 (by first | assumption | (apply Ne.symm; assumption) | (simp; done)) (lk1 (by first | assumption | (apply Ne.symm; assumption) | (simp; done)) (lk1 (by first | assumption | (apply Ne.symm; assumption) | (simp; done)) (by assumption))) | exact lk1 (by first | assumption | (apply Ne.symm; assumption) | (simp; done)) (lk1 (by first | assumption | (apply Ne.symm; assumption) | (simp; done)) (lk1 (by first | assumption | (apply Ne.symm; assumption) | (simp; done)) (va_up_self _ _ _))) | exact lk1 (by first | assumption | (apply Ne.symm; assumption) | (simp; done)) (lk1 (by first | assumption | (apply Ne.symm; assumption) | (simp; done)) (lk1 (by first | assumption | (apply Ne.symm; assumption) | (simp; done)) (lk1 (by first | assumption | (apply Ne.symm; assumption) | (simp; done)) (by assumption)))) | exact lk1 (by first | assumption | (apply Ne.symm; assumption) | (simp; done)) (lk1 (by first | assumption | (apply Ne.symm; assumption) | (simp; done)) (lk1 (by first | assumption | (apply Ne.symm; assumption) | (simp; done)) (lk1 (by first | assumption | (apply Ne.symm; assumption) | (simp; done)) (va_up_self _ _ _))))) (by first | rfl | assumption) ?_
    refine pw_iload_n (pc := 23) dX7_both_23 rfl ?_
    refine pw_aald (pc := 24) (p1) dX7_both_24 (by first | assumption | exact va_up_self _ _ _ | exact lk1 (by first | assumption | (apply Ne.symm; assumption) | (simp; done)) (by assumption) | exact lk1 (by first | assumption | (apply Ne.symm; assumption) | (simp; done)) (va_up_self _ _ _) | exact lk1 (by first | assumption | (apply Ne.symm; assumption) | (simp; done)) (lk1 (by first | assumption | (apply Ne.symm; assumption) | (simp; done)) (by assumption)) | exact lk1 (by first | assumption | (apply Ne.symm; assumption) | (simp; done)) (lk1 (by first | assumption | (apply Ne.symm; assumption) | (simp; done)) (va_up_self _ _ _)) | exact lk1 (by first | assumption | (apply Ne.symm; assumption) | (simp; done)) (lk1 (by first | assumption | (apply Ne.symm; assumption) | (simp; done)) (lk1 (by first | assumption | (apply Ne.symm; assumption) | (simp; done)) (by assumption))) | exact lk1 (by first | assumption | (apply Ne.symm; assumption) | (simp; done)) (lk1 (by first | assumption | (apply Ne.symm; assumption) | (simp; done)) (lk1 (by first | assumption | (apply Ne.symm; assumption) | (simp; done)) (va_up_self _ _ _))) | exact lk1 (by first | assumption | (apply Ne.symm; assumption) | (simp; done)) (lk1 (by first | assumption | (apply Ne.symm; assumption) | (simp; done)) (lk1 (by first | assumption | (apply Ne.symm; assumption) | (simp; done)) (lk1 (by first | assumption | (apply Ne.symm; assumption) | (simp; done)) (by assumption)))) | exact lk1 (by first | assumption | (apply Ne.symm; assumption) | (simp; done)) (lk1 (by first | assumption | (apply Ne.symm; assumption) | (simp; done)) (lk1 (by first | assumption | (apply Ne.symm; assumption) | (simp; done)) (lk1 (by first | assumption | (apply Ne.symm; assumption) | (simp; done)) (va_up_self _ _ _))))) (by first | assumption | rfl | (simp only [nI_add, pk_mul, Nat.one_mul, Nat.mul_one, Nat.zero_add, Nat.add_zero, Nat.mul_zero]; done) | exact pk_sub (by omega) | (rw [pk_sub (by omega)]; first | done | (rw [nI_add]; done) | (rw [pk_sub (by omega)]; done) | (rw [pk_sub (by omega), nI_add]; done)) | (simp only [nI_add, pk_mul]; first | exact pk_sub (by omega) | (congr 1; omega)) | (congr 1; omega)) (by omega) (by omega) (by first | assumption | exact va_up_self _ _ _ | exact lk1 (by first | assumption | (apply Ne.symm; assumption) | (simp; done)) (by assumption) | exact lk1 (by first | assumption | (apply Ne.symm; assumption) | (simp; done)) (va_up_self _ _ _) | exact lk1 (by first | assumption | (apply Ne.symm; assumption) | (simp; done)) (lk1 (by first | assumption | (apply Ne.symm; assumption) | (simp; done)) (by assumption)) | exact lk1 (by first | assumption | (apply Ne.symm; assumption) | (simp; done)) (lk1 (by first | assumption | (apply Ne.symm; assumption) | (simp; done)) (va_up_self _ _ _)) | exact lk1 (by first | assumption | (apply Ne.symm; assumption) | (simp; done)) (lk1 (by first | assumption | (apply Ne.symm; assumption) | (simp; done)) (lk1 (by first | assumption | (apply Ne.symm; assumption) | (simp; done)) (by assumption))) | exact lk1 (by first | assumption | (apply Ne.symm; assumption) | (simp; done)) (lk1 (by first | assumption | (apply Ne.symm; assumption) | (simp; done)) (lk1 (by first | assumption | (apply Ne.symm; assumption) | (simp; done)) (va_up_self _ _ _))) | exact lk1 (by first | assumption | (apply Ne.symm; assumption) | (simp; done)) (lk1 (by first | assumption | (apply Ne.symm; assumption) | (simp; done)) (lk1 (by first | assumption | (apply Ne.symm; assumption) | (simp; done)) (lk1 (by first | assumption | (apply Ne.symm; assumption) | (simp; done)) (by assumption)))) | exact lk1 (by first | assumption | (apply Ne.symm; assumption) | (simp; done)) (lk1 (by first | assumption | (apply Ne.symm; assumption) | (simp; done)) (lk1 (by first | assumption | (apply Ne.symm; assumption) | (simp; done)) (lk1 (by first | assumption | (apply Ne.symm; assumption) | (simp; done)) (va_up_self _ _ _))))) ?_
    refine pw_ast4 (pc := 25) dX7_both_25 (Nat.le_of_ble_eq_true rfl) rfl ?_
    refine pw_aload_n (pc := 27) dX7_both_27 rfl ?_
    refine pw_get (pc := 28) fg_X7_26 dX7_both_28 (by first | assumption | exact va_up_self _ _ _ | exact lk1 (by first | assumption | (apply Ne.symm; assumption) | (simp; done)) (by assumption) | exact lk1 (by first | assumption | (apply Ne.symm; assumption) | (simp; done)) (va_up_self _ _ _) | exact lk1 (by first | assumption | (apply Ne.symm; assumption) | (simp; done)) (lk1 (by first | assumption | (apply Ne.symm; assumption) | (simp; done)) (by assumption)) | exact lk1 (by first | assumption | (apply Ne.symm; assumption) | (simp; done)) (lk1 (by first | assumption | (apply Ne.symm; assumption) | (simp; done)) (va_up_self _ _ _)) | exact lk1 (by first | assumption | (apply Ne.symm; assumption) | (simp; done)) (lk1 (by first | assumption | (apply Ne.symm; assumption) | (simp; done)) (lk1 (by first | assumption | (apply Ne.symm; assumption) | (simp; done)) (by assumption))) | exact lk1 (by first | assumption | (apply Ne.symm; assumption) | (simp; done)) (lk1 (by first | assumption | (apply Ne.symm; assumption) | (simp; done)) (lk1 (by first | assumption | (apply Ne.symm; assumption) | (simp; done)) (va_up_self _ _ _))) | exact lk1 (by first | assumption | (apply Ne.symm; assumption) | (simp; done)) (lk1 (by first | assumption | (apply Ne.symm; assumption) | (simp; done)) (lk1 (by first | assumption | (apply Ne.symm; assumption) | (simp; done)) (lk1 (by first | assumption | (apply Ne.symm; assumption) | (simp; done)) (by assumption)))) | exact lk1 (by first | assumption | (apply Ne.symm; assumption) | (simp; done)) (lk1 (by first | assumption | (apply Ne.symm; assumption) | (simp; done)) (lk1 (by first | assumption | (apply Ne.symm; assumption) | (simp; done)) (lk1 (by first | assumption | (apply Ne.symm; assumption) | (simp; done)) (va_up_self _ _ _))))) (by first | rfl | assumption) ?_
    refine pw_get (pc := 31) fg_X7_90 dX7_both_31 (by first | assumption | exact va_up_self _ _ _ | exact lk1 (by first | assumption | (apply Ne.symm; assumption) | (simp; done)) (by assumption) | exact lk1 (by first | assumption | (apply Ne.symm; assumption) | (simp; done)) (va_up_self _ _ _) | exact lk1 (by first | assumption | (apply Ne.symm; assumption) | (simp; done)) (lk1 (by first | assumption | (apply Ne.symm; assumption) | (simp; done)) (by assumption)) | exact lk1 (by first | assumption | (apply Ne.symm; assumption) | (simp; done)) (lk1 (by first | assumption | (apply Ne.symm; assumption) | (simp; done)) (va_up_self _ _ _)) | exact lk1 (by first | assumption | (apply Ne.symm; assumption) | (simp; done)) (lk1 (by first | assumption | (apply Ne.symm; assumption) | (simp; done)) (lk1 (by first | assumption | (apply Ne.symm; assumption) | (simp; done)) (by assumption))) | exact lk1 (by first | assumption | (apply Ne.symm; assumption) | (simp; done)) (lk1 (by first | assumption | (apply Ne.symm; assumption) | (simp; done)) (lk1 (by first | assumption | (apply Ne.symm; assumption) | (simp; done)) (va_up_self _ _ _))) | exact lk1 (by first | assumption | (apply Ne.symm; assumption) | (simp; done)) (lk1 (by first | assumption | (apply Ne.symm; assumption) | (simp; done)) (lk1 (by first | assumption | (apply Ne.symm; assumption) | (simp; done)) (lk1 (by first | assumption | (apply Ne.symm; assumption) | (simp; done)) (by assumption)))) | exact lk1 (by first | assumption | (apply Ne.symm; assumption) | (simp; done)) (lk1 (by first | assumption | (apply Ne.symm; assumption) | (simp; done)) (lk1 (by first | assumption | (apply Ne.symm; assumption) | (simp; done)) (lk1 (by first | assumption | (apply Ne.symm; assumption) | (simp; done)) (va_up_self _ _ _))))) (by first | rfl | assumption) ?_
    refine pw_iload_n (pc := 34) dX7_both_34 rfl ?_
    refine pw_aald (pc := 35) (p2) dX7_both_35 (by first | assumption | exact va_up_self _ _ _ | exact lk1 (by first | assumption | (apply Ne.symm; assumption) | (simp; done)) (by assumption) | exact lk1 (by first | assumption | (apply Ne.symm; assumption) | (simp; done)) (va_up_self _ _ _) | exact lk1 (by first | assumption | (apply Ne.symm; assumption) | (simp; done)) (lk1 (by first | assumption | (apply Ne.symm; assumption) | (simp; done)) (by assumption)) | exact lk1 (by first | assumption | (apply Ne.symm; assumption) | (simp; done)) (lk1 (by first | assumption | (apply Ne.symm; assumption) | (simp; done)) (va_up_self _ _ _)) | exact lk1 (by first | assumption | (apply Ne.symm; assumption) | (simp; done)) (lk1 (by first | assumption | (apply Ne.symm; assumption) | (simp; done)) (lk1 (by first | assumption | (apply Ne.symm; assumption) | (simp; done)) (by assumption))) | exact lk1 (by first | assumption | (apply Ne.symm; assumption) | (simp; done)) (lk1 (by first | assumption | (apply Ne.symm; assumption) | (simp; done)) (lk1 (by first | assumption | (apply Ne.symm; assumption) | (simp; done)) (va_up_self _ _ _))) | exact lk1 (by first | assumption | (apply Ne.symm; assumption) | (simp; done)) (lk1 (by first | assumption | (apply Ne.symm; assumption) | (simp; done)) (lk1 (by first | assumption | (apply Ne.symm; assumption) | (simp; done)) (lk1 (by first | assumption | (apply Ne.symm; assumption) | (simp; done)) (by assumption)))) | exact lk1 (by first | assumption | (apply Ne.symm; assumption) | (simp; done)) (lk1 (by first | assumption | (apply Ne.symm; assumption) | (simp; done)) (lk1 (by first | assumption | (apply Ne.symm; assumption) | (simp; done)) (lk1 (by first | assumption | (apply Ne.symm; assumption) | (simp; done)) (va_up_self _ _ _))))) (by first | assumption | rfl | (simp only [nI_add, pk_mul, Nat.one_mul, Nat.mul_one, Nat.zero_add, Nat.add_zero, Nat.mul_zero]; done) | exact pk_sub (by omega) | (rw [pk_sub (by omega)]; first | done | (rw [nI_add]; done) | (rw [pk_sub (by omega)]; done) | (rw [pk_sub (by omega), nI_add]; done)) | (simp only [nI_add, pk_mul]; first | exact pk_sub (by omega) | (congr 1; omega)) | (congr 1; omega)) (by omega) (by omega) (by first | assumption | exact va_up_self _ _ _ | exact lk1 (by first | assumption | (apply Ne.symm; assumption) | (simp; done)) (by assumption) | exact lk1 (by first | assumption | (apply Ne.symm; assumption) | (simp; done)) (va_up_self _ _ _) | exact lk1 (by first | assumption | (apply Ne.symm; assumption) | (simp; done)) (lk1 (by first | assumption | (apply Ne.symm; assumption) | (simp; done)) (by assumption)) | exact lk1 (by first | assumption | (apply Ne.symm; assumption) | (simp; done)) (lk1 (by first | assumption | (apply Ne.symm; assumption) | (simp; done)) (va_up_self _ _ _)) | exact lk1 (by first | assumption | (apply Ne.symm; assumption) | (simp; done)) (lk1 (by first | assumption | (apply Ne.symm; assumption) | (simp; done)) (lk1 (by first | assumption | (apply Ne.symm; assumption) | (simp; done)) (by assumption))) | exact lk1 (by first | assumption | (apply Ne.symm; assumption) | (simp; done)) (lk1 (by first | assumption | (apply Ne.symm; assumption) | (simp; done)) (lk1 (by first | assumption | (apply Ne.symm; assumption) | (simp; done)) (va_up_self _ _ _))) | exact lk1 (by first | assumption | (apply Ne.symm; assumption) | (simp; done)) (lk1 (by first | assumption | (apply Ne.symm; assumption) | (simp; done)) (lk1 (by first | assumption | (apply Ne.symm; assumption) | (simp; done)) (lk1 (by first | assumption | (apply Ne.symm; assumption) | (simp; done)) (by assumption)))) | exact lk1 (by first | assumption | (apply Ne.symm; assumption) | (simp; done)) (lk1 (by first | assumption | (apply Ne.symm; assumption) | (simp; done)) (lk1 (by first | assumption | (apply Ne.symm; assumption) | (simp; done)) (lk1 (by first | assumption | (apply Ne.symm; assumption) | (simp; done)) (va_up_self _ _ _))))) ?_
    refine pw_ast5 (pc := 36) dX7_both_36 (Nat.le_of_ble_eq_true rfl) rfl ?_
    have eb1 : bitsF g1 ((sN S).1 p1).length = bitsL ((sN S).1 p1) := bitsF_congr _ (fun k hk => hg1.at hk)
    have eb2 : bitsF g2 ((sN S).1 p2).length = bitsL ((sN S).1 p2) := bitsF_congr _ (fun k hk => hg2.at hk)
    refine pw_aload (pc := 38) dX7_both_38 rfl ?_
    refine pw_callV_i (pc := 40) cv_X7_164 dX7_both_40 (by first | assumption | exact va_up_self _ _ _ | exact lk1 (by first | assumption | (apply Ne.symm; assumption) | (simp; done)) (by assumption) | exact lk1 (by first | assumption | (apply Ne.symm; assumption) | (simp; done)) (va_up_self _ _ _) | exact lk1 (by first | assumption | (apply Ne.symm; assumption) | (simp; done)) (lk1 (by first | assumption | (apply Ne.symm; assumption) | (simp; done)) (by assumption)) | exact lk1 (by first | assumption | (apply Ne.symm; assumption) | (simp; done)) (lk1 (by first | assumption | (apply Ne.symm; assumption) | (simp; done)) (va_up_self _ _ _)) | exact lk1 (by first | assumption | (apply Ne.symm; assumption) | (simp; done)) (lk1 (by first | assumption | (apply Ne.symm; assumption) | (simp; done)) (lk1 (by first | assumption | (apply Ne.symm; assumption) | (simp; done)) (by assumption))) | exact lk1 (by first | assumption | (apply Ne.symm; assumption) | (simp; done)) (lk1 (by first | assumption | (apply Ne.symm; assumption) | (simp; done)) (lk1 (by first | assumption | (apply Ne.symm; assumption) | (simp; done)) (va_up_self _ _ _))) | exact lk1 (by first | assumption | (apply Ne.symm; assumption) | (simp; done)) (lk1 (by first | assumption | (apply Ne.symm; assumption) | (simp; done)) (lk1 (by first | assumption | (apply Ne.symm; assumption) | (simp; done)) (lk1 (by first | assumption | (apply Ne.symm; assumption) | (simp; done)) (by assumption)))) | exact lk1 (by first | assumption | (apply Ne.symm; assumption) | (simp; done)) (lk1 (by first | assumption | (apply Ne.symm; assumption) | (simp; done)) (lk1 (by first | assumption | (apply Ne.symm; assumption) | (simp; done)) (lk1 (by first | assumption | (apply Ne.symm; assumption) | (simp; done)) (va_up_self _ _ _))))) rfl (c_Row_bits u1) rfl rfl (Nat.le_of_ble_eq_true rfl) ⟨(Nat.le_of_ble_eq_true rfl), (Nat.le_of_ble_eq_true rfl)⟩ ?_
    refine pw_ist6 (pc := 43) dX7_both_43 (Nat.le_of_ble_eq_true rfl) rfl ?_
    refine pw_aload (pc := 45) dX7_both_45 rfl ?_
    refine pw_callV_i (pc := 47) cv_X7_164 dX7_both_47 (by first | assumption | exact va_up_self _ _ _ | exact lk1 (by first | assumption | (apply Ne.symm; assumption) | (simp; done)) (by assumption) | exact lk1 (by first | assumption | (apply Ne.symm; assumption) | (simp; done)) (va_up_self _ _ _) | exact lk1 (by first | assumption | (apply Ne.symm; assumption) | (simp; done)) (lk1 (by first | assumption | (apply Ne.symm; assumption) | (simp; done)) (by assumption)) | exact lk1 (by first | assumption | (apply Ne.symm; assumption) | (simp; done)) (lk1 (by first | assumption | (apply Ne.symm; assumption) | (simp; done)) (va_up_self _ _ _)) | exact lk1 (by first | assumption | (apply Ne.symm; assumption) | (simp; done)) (lk1 (by first | assumption | (apply Ne.symm; assumption) | (simp; done)) (lk1 (by first | assumption | (apply Ne.symm; assumption) | (simp; done)) (by assumption))) | exact lk1 (by first | assumption | (apply Ne.symm; assumption) | (simp; done)) (lk1 (by first | assumption | (apply Ne.symm; assumption) | (simp; done)) (lk1 (by first | assumption | (apply Ne.symm; assumption) | (simp; done)) (va_up_self _ _ _))) | exact lk1 (by first | assumption | (apply Ne.symm; assumption) | (simp; done)) (lk1 (by first | assumption | (apply Ne.symm; assumption) | (simp; done)) (lk1 (by first | assumption | (apply Ne.symm; assumption) | (simp; done)) (lk1 (by first | assumption | (apply Ne.symm; assumption) | (simp; done)) (by assumption)))) | exact lk1 (by first | assumption | (apply Ne.symm; assumption) | (simp; done)) (lk1 (by first | assumption | (apply Ne.symm; assumption) | (simp; done)) (lk1 (by first | assumption | (apply Ne.symm; assumption) | (simp; done)) (lk1 (by first | assumption | (apply Ne.symm; assumption) | (simp; done)) (va_up_self _ _ _))))) rfl (c_Row_bits u2) rfl rfl (Nat.le_of_ble_eq_true rfl) ⟨(Nat.le_of_ble_eq_true rfl), (Nat.le_of_ble_eq_true rfl)⟩ ?_
    refine pw_ist7 (pc := 50) dX7_both_50 (Nat.le_of_ble_eq_true rfl) rfl ?_
    refine pw_iload_n (pc := 52) dX7_both_52 rfl ?_
    rw [eb1, eb2, ← ei, ← ej]
    by_cases hx : rg 0 3 w = true
    · have hok : (rg 0 3 i && rg 0 3 j && rg 0 3 w) = true := by rw [z, z1, hx]; rfl
      have ea : a_both S i j w = (if w = 0 then bitsL ((sN S).1 p1) &&& (bitsL ((sN S).1 p2) ^^^ -1) else if w = 1 then bitsL ((sN S).1 p2) &&& (bitsL ((sN S).1 p1) ^^^ -1) else if w = 2 then nI (ppM ((sN S).1 p1) ((sN S).1 p2) ((sN S).1 p1).length ((sN S).1 p2).length) else onesF (bitsL ((sN S).1 p1) &&& bitsL ((sN S).1 p2)) 26 - nI (ppM ((sN S).1 p1) ((sN S).1 p2) ((sN S).1 p1).length ((sN S).1 p2).length)) := by rw [a_both, hok, ej1, ej2]; rfl
      obtain ⟨v, hv, ev, -⟩ := rg_ix (hi := 3) hx
      rw [ea, ev]
      rcases (show v = 0 ∨ v = 1 ∨ v = 2 ∨ v = 3 by omega) with rfl | rfl | rfl | rfl
      · refine pw_tabIn (pc := 53) 84 dX7_both_53 (by decide) (by decide) (by rfl) (by decide) ?_
        refine pw_iload (pc := 84) dX7_both_84 rfl ?_
        refine pw_iload (pc := 86) dX7_both_86 rfl ?_
        refine pw_iconst (pc := 88) (-1) dX7_both_88 (by decide) ?_
        refine pw_ixor (pc := 89) dX7_both_89 ?_
        refine pw_iand (pc := 90) dX7_both_90 ?_
        exact pw_iret dX7_both_91 rfl ⟨rfl, hc, only.rfl⟩
      · refine pw_tabIn (pc := 53) 92 dX7_both_53 (by decide) (by decide) (by rfl) (by decide) ?_
        refine pw_iload (pc := 92) dX7_both_92 rfl ?_
        refine pw_iload (pc := 94) dX7_both_94 rfl ?_
        refine pw_iconst (pc := 96) (-1) dX7_both_96 (by decide) ?_
        refine pw_ixor (pc := 97) dX7_both_97 ?_
        refine pw_iand (pc := 98) dX7_both_98 ?_
        exact pw_iret dX7_both_99 rfl ⟨rfl, hc, only.rfl⟩
      · refine pw_tabIn (pc := 53) 100 dX7_both_53 (by decide) (by decide) (by rfl) (by decide) ?_
        refine pw_aload_n (pc := 100) dX7_both_100 rfl ?_
        refine pw_aload (pc := 101) dX7_both_101 rfl ?_
        refine pw_aload (pc := 103) dX7_both_103 rfl ?_
        refine pw_callV (pc := 105) cv_X7_167 dX7_both_105 (by first | assumption | exact va_up_self _ _ _ | exact lk1 (by first | assumption | (apply Ne.symm; assumption) | (simp; done)) (by assumption) | exact lk1 (by first | assumption | (apply Ne.symm; assumption) | (simp; done)) (va_up_self _ _ _) | exact lk1 (by first | assumption | (apply Ne.symm; assumption) | (simp; done)) (lk1 (by first | assumption | (apply Ne.symm; assumption) | (simp; done)) (by assumption)) | exact lk1 (by first | assumption | (apply Ne.symm; assumption) | (simp; done)) (lk1 (by first | assumption | (apply Ne.symm; assumption) | (simp; done)) (va_up_self _ _ _)) | exact lk1 (by first | assumption | (apply Ne.symm; assumption) | (simp; done)) (lk1 (by first | assumption | (apply Ne.symm; assumption) | (simp; done)) (lk1 (by first | assumption | (apply Ne.symm; assumption) | (simp; done)) (by assumption))) | exact lk1 (by first | assumption | (apply Ne.symm; assumption) | (simp; done)) (lk1 (by first | assumption | (apply Ne.symm; assumption) | (simp; done)) (lk1 (by first | assumption | (apply Ne.symm; assumption) | (simp; done)) (va_up_self _ _ _))) | exact lk1 (by first | assumption | (apply Ne.symm; assumption) | (simp; done)) (lk1 (by first | assumption | (apply Ne.symm; assumption) | (simp; done)) (lk1 (by first | assumption | (apply Ne.symm; assumption) | (simp; done)) (lk1 (by first | assumption | (apply Ne.symm; assumption) | (simp; done)) (by assumption)))) | exact lk1 (by first | assumption | (apply Ne.symm; assumption) | (simp; done)) (lk1 (by first | assumption | (apply Ne.symm; assumption) | (simp; done)) (lk1 (by first | assumption | (apply Ne.symm; assumption) | (simp; done)) (lk1 (by first | assumption | (apply Ne.symm; assumption) | (simp; done)) (va_up_self _ _ _))))) rfl (c_sameOrder c1 rfl c10 hr1 hr2 (by omega) (by omega) (by omega) (by omega) (by omega)) rfl rfl (Nat.le_of_ble_eq_true rfl) ⟨(Nat.le_of_ble_eq_true rfl), (Nat.le_of_ble_eq_true rfl)⟩ (Nat.le_refl _) (Nat.le_refl _) (Nat.zero_le _) (fun v h' q => ?_)
        obtain ⟨rfl, ⟨f', y1⟩, y2⟩ := q
        refine pw_iret dX7_both_108 rfl ⟨rfl, hc.upL (fun p hp => y2 p (by omega)) y1, fun p hp => y2 p (by omega)⟩
      · refine pw_tabIn (pc := 53) 109 dX7_both_53 (by decide) (by decide) (by rfl) (by decide) ?_
        have h26 : bcI (bitsL ((sN S).1 p1) &&& bitsL ((sN S).1 p2)) = onesF (bitsL ((sN S).1 p1) &&& bitsL ((sN S).1 p2)) 26 := by
          refine bcI_pop (bt_26 (fun k k1 k2 => ?_))
          rw [bt_and, bits_small wf1.2.2 k k1 k2]; rfl
        refine pw_iload (pc := 109) dX7_both_109 rfl ?_
        refine pw_iload (pc := 111) dX7_both_111 rfl ?_
        refine pw_iand (pc := 113) dX7_both_113 ?_
        refine pw_callS_i (pc := 114) cs_X7_171 dX7_both_114 (c_bitCount _) rfl rfl (Nat.le_of_ble_eq_true rfl) ⟨(Nat.le_of_ble_eq_true rfl), (Nat.le_of_ble_eq_true rfl)⟩ ?_
        rw [h26]
        refine pw_aload_n (pc := 117) dX7_both_117 rfl ?_
        refine pw_aload (pc := 118) dX7_both_118 rfl ?_
        refine pw_aload (pc := 120) dX7_both_120 rfl ?_
        refine pw_callV (pc := 122) cv_X7_167 dX7_both_122 (by first | assumption | exact va_up_self _ _ _ | exact lk1 (by first | assumption | (apply Ne.symm; assumption) | (simp; done)) (by assumption) | exact lk1 (by first | assumption | (apply Ne.symm; assumption) | (simp; done)) (va_up_self _ _ _) | exact lk1 (by first | assumption | (apply Ne.symm; assumption) | (simp; done)) (lk1 (by first | assumption | (apply Ne.symm; assumption) | (simp; done)) (by assumption)) | exact lk1 (by first | assumption | (apply Ne.symm; assumption) | (simp; done)) (lk1 (by first | assumption | (apply Ne.symm; assumption) | (simp; done)) (va_up_self _ _ _)) | exact lk1 (by first | assumption | (apply Ne.symm; assumption) | (simp; done)) (lk1 (by first | assumption | (apply Ne.symm; assumption) | (simp; done)) (lk1 (by first | assumption | (apply Ne.symm; assumption) | (simp; done)) (by assumption))) | exact lk1 (by first | assumption | (apply Ne.symm; assumption) | (simp; done)) (lk1 (by first | assumption | (apply Ne.symm; assumption) | (simp; done)) (lk1 (by first | assumption | (apply Ne.symm; assumption) | (simp; done)) (va_up_self _ _ _))) | exact lk1 (by first | assumption | (apply Ne.symm; assumption) | (simp; done)) (lk1 (by first | assumption | (apply Ne.symm; assumption) | (simp; done)) (lk1 (by first | assumption | (apply Ne.symm; assumption) | (simp; done)) (lk1 (by first | assumption | (apply Ne.symm; assumption) | (simp; done)) (by assumption)))) | exact lk1 (by first | assumption | (apply Ne.symm; assumption) | (simp; done)) (lk1 (by first | assumption | (apply Ne.symm; assumption) | (simp; done)) (lk1 (by first | assumption | (apply Ne.symm; assumption) | (simp; done)) (lk1 (by first | assumption | (apply Ne.symm; assumption) | (simp; done)) (va_up_self _ _ _))))) rfl (c_sameOrder c1 rfl c10 hr1 hr2 (by omega) (by omega) (by omega) (by omega) (by omega)) rfl rfl (Nat.le_of_ble_eq_true rfl) ⟨(Nat.le_of_ble_eq_true rfl), (Nat.le_of_ble_eq_true rfl)⟩ (Nat.le_refl _) (Nat.le_refl _) (Nat.zero_le _) (fun v h' q => ?_)
        obtain ⟨rfl, ⟨f', y1⟩, y2⟩ := q
        refine pw_isub (pc := 125) dX7_both_125 ?_
        refine pw_iret dX7_both_126 rfl ⟨rfl, hc.upL (fun p hp => y2 p (by omega)) y1, fun p hp => y2 p (by omega)⟩
    · have hx' := rg_f (by simpa using hx : rg 0 3 w = false)
      refine pw_tabOut (pc := 53) 127 dX7_both_53 (by omega) (by decide) ?_
      refine pw_iconst (pc := 127) (-1) dX7_both_127 (by decide) ?_
      refine pw_iret dX7_both_128 rfl ⟨?_, hc, only.rfl⟩
      rw [a_both, show rg 0 3 w = false from by simpa using hx]; simp
  · exact bad (by rw [z1]; simp)
end B2
