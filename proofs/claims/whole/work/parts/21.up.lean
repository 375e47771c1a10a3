abbrev setT (S : AS) (T : List Int32) : AS := (T, S.2)
abbrev setW (S : AS) (W : Nat → Int32) : AS := (S.1, W, S.2.2)
abbrev setN (S : AS) (R : RecS) : AS := (S.1, S.2.1, R, S.2.2.2)
abbrev setA (S : AS) (A : Bool × RecS) : AS := (S.1, S.2.1, S.2.2.1, A, S.2.2.2.2)
abbrev setB (S : AS) (B : Bool × RecS) : AS := (S.1, S.2.1, S.2.2.1, S.2.2.2.1, B, S.2.2.2.2.2)
abbrev setD (S : AS) (D : Nat → Int32) : AS := (S.1, S.2.1, S.2.2.1, S.2.2.2.1, S.2.2.2.2.1, D, S.2.2.2.2.2.2)
abbrev setO (S : AS) (lo hi : Int32) (q : Int64) : AS := (S.1, S.2.1, S.2.2.1, S.2.2.2.1, S.2.2.2.2.1, S.2.2.2.2.2.1, lo, hi, q)
theorem clsP.upO {h h' : HP} {c : Nat} {S : AS} {lo hi : Int32} {q : Int64} (hc : clsP h c S) (ho : only h h' (c) (c + 1)) (hx : h' c = some (.inr (7, [.ref (c + 1), .ref (c + 3), .ref (c + 6), .ref (c + 20), .ref (c + 34), .ref (c + 48), .ref (c + 54), .ref (c + 60), .ref (c + 64), .int lo, .int hi, .long q]))) : clsP h' c (setO S lo hi q) := by
  obtain ⟨c1, c2, c3, c4, c5, c6, c7, ⟨D0, c8⟩, c9, f0, c10⟩ := hc
  exact ⟨hx, c2.on (ho.on (by omega)), c3.on (ho.on (by omega)), c4.on (ho.on (by omega)), c5.on (ho.on (by omega)), c6.on (ho.on (by omega)), c7.on (ho.on (by omega)), ⟨D0, c8.on (ho.on (by omega))⟩, c9.on (ho.on (by omega)), ⟨f0, (ho _ (by omega)).trans c10⟩⟩
theorem clsP.upT {h h' : HP} {c : Nat} {S : AS} {T : List Int32} (hc : clsP h c S) (ho : only h h' (c + 1) (c + 3)) (hx : txtP h' (c + 1) T) : clsP h' c (setT S T) := by
  obtain ⟨c1, c2, c3, c4, c5, c6, c7, ⟨D0, c8⟩, c9, f0, c10⟩ := hc
  exact ⟨(ho _ (by omega)).trans c1, hx, c3.on (ho.on (by omega)), c4.on (ho.on (by omega)), c5.on (ho.on (by omega)), c6.on (ho.on (by omega)), c7.on (ho.on (by omega)), ⟨D0, c8.on (ho.on (by omega))⟩, c9.on (ho.on (by omega)), ⟨f0, (ho _ (by omega)).trans c10⟩⟩
theorem clsP.upW {h h' : HP} {c : Nat} {S : AS} {W : Nat → Int32} (hc : clsP h c S) (ho : only h h' (c + 3) (c + 6)) (hx : lawP h' (c + 3) W) : clsP h' c (setW S W) := by
  obtain ⟨c1, c2, c3, c4, c5, c6, c7, ⟨D0, c8⟩, c9, f0, c10⟩ := hc
  exact ⟨(ho _ (by omega)).trans c1, c2.on (ho.on (by omega)), hx, c4.on (ho.on (by omega)), c5.on (ho.on (by omega)), c6.on (ho.on (by omega)), c7.on (ho.on (by omega)), ⟨D0, c8.on (ho.on (by omega))⟩, c9.on (ho.on (by omega)), ⟨f0, (ho _ (by omega)).trans c10⟩⟩
theorem clsP.upN {h h' : HP} {c : Nat} {S : AS} {R : RecS} (hc : clsP h c S) (ho : only h h' (c + 6) (c + 20)) (hx : recP h' (c + 6) false R) : clsP h' c (setN S R) := by
  obtain ⟨c1, c2, c3, c4, c5, c6, c7, ⟨D0, c8⟩, c9, f0, c10⟩ := hc
  exact ⟨(ho _ (by omega)).trans c1, c2.on (ho.on (by omega)), c3.on (ho.on (by omega)), hx, c5.on (ho.on (by omega)), c6.on (ho.on (by omega)), c7.on (ho.on (by omega)), ⟨D0, c8.on (ho.on (by omega))⟩, c9.on (ho.on (by omega)), ⟨f0, (ho _ (by omega)).trans c10⟩⟩
theorem clsP.upA {h h' : HP} {c : Nat} {S : AS} {A : Bool × RecS} (hc : clsP h c S) (ho : only h h' (c + 20) (c + 34)) (hx : recP h' (c + 20) A.1 A.2) : clsP h' c (setA S A) := by
  obtain ⟨c1, c2, c3, c4, c5, c6, c7, ⟨D0, c8⟩, c9, f0, c10⟩ := hc
  exact ⟨(ho _ (by omega)).trans c1, c2.on (ho.on (by omega)), c3.on (ho.on (by omega)), c4.on (ho.on (by omega)), hx, c6.on (ho.on (by omega)), c7.on (ho.on (by omega)), ⟨D0, c8.on (ho.on (by omega))⟩, c9.on (ho.on (by omega)), ⟨f0, (ho _ (by omega)).trans c10⟩⟩
theorem clsP.upB {h h' : HP} {c : Nat} {S : AS} {A : Bool × RecS} (hc : clsP h c S) (ho : only h h' (c + 34) (c + 48)) (hx : recP h' (c + 34) A.1 A.2) : clsP h' c (setB S A) := by
  obtain ⟨c1, c2, c3, c4, c5, c6, c7, ⟨D0, c8⟩, c9, f0, c10⟩ := hc
  exact ⟨(ho _ (by omega)).trans c1, c2.on (ho.on (by omega)), c3.on (ho.on (by omega)), c4.on (ho.on (by omega)), c5.on (ho.on (by omega)), hx, c7.on (ho.on (by omega)), ⟨D0, c8.on (ho.on (by omega))⟩, c9.on (ho.on (by omega)), ⟨f0, (ho _ (by omega)).trans c10⟩⟩
theorem clsP.upD {h h' : HP} {c : Nat} {S : AS} {D : Nat → Int32} (hc : clsP h c S) (ho : only h h' (c + 48) (c + 54)) (hx : sayP h' (c + 48) D) : clsP h' c (setD S D) := by
  obtain ⟨c1, c2, c3, c4, c5, c6, c7, ⟨D0, c8⟩, c9, f0, c10⟩ := hc
  exact ⟨(ho _ (by omega)).trans c1, c2.on (ho.on (by omega)), c3.on (ho.on (by omega)), c4.on (ho.on (by omega)), c5.on (ho.on (by omega)), c6.on (ho.on (by omega)), hx, ⟨D0, c8.on (ho.on (by omega))⟩, c9.on (ho.on (by omega)), ⟨f0, (ho _ (by omega)).trans c10⟩⟩
theorem clsP.upU {h h' : HP} {c : Nat} {S : AS} {D : Nat → Int32} (hc : clsP h c S) (ho : only h h' (c + 54) (c + 60)) (hx : sayP h' (c + 54) D) : clsP h' c (S) := by
  obtain ⟨c1, c2, c3, c4, c5, c6, c7, ⟨D0, c8⟩, c9, f0, c10⟩ := hc
  exact ⟨(ho _ (by omega)).trans c1, c2.on (ho.on (by omega)), c3.on (ho.on (by omega)), c4.on (ho.on (by omega)), c5.on (ho.on (by omega)), c6.on (ho.on (by omega)), c7.on (ho.on (by omega)), ⟨D, hx⟩, c9.on (ho.on (by omega)), ⟨f0, (ho _ (by omega)).trans c10⟩⟩
theorem clsP.upS {h h' : HP} {c : Nat} {S : AS} (hc : clsP h c S) (ho : only h h' (c + 60) (c + 64)) (hx : sidP h' (c + 60)) : clsP h' c (S) := by
  obtain ⟨c1, c2, c3, c4, c5, c6, c7, ⟨D0, c8⟩, c9, f0, c10⟩ := hc
  exact ⟨(ho _ (by omega)).trans c1, c2.on (ho.on (by omega)), c3.on (ho.on (by omega)), c4.on (ho.on (by omega)), c5.on (ho.on (by omega)), c6.on (ho.on (by omega)), c7.on (ho.on (by omega)), ⟨D0, c8.on (ho.on (by omega))⟩, hx, ⟨f0, (ho _ (by omega)).trans c10⟩⟩
theorem clsP.upL {h h' : HP} {c : Nat} {S : AS} {f : Nat → Int32} (hc : clsP h c S) (ho : only h h' (c + 64) (c + 65)) (hx : h' (c + 64) = some (.inl (0, 12, .inl f))) : clsP h' c (S) := by
  obtain ⟨c1, c2, c3, c4, c5, c6, c7, ⟨D0, c8⟩, c9, f0, c10⟩ := hc
  exact ⟨(ho _ (by omega)).trans c1, c2.on (ho.on (by omega)), c3.on (ho.on (by omega)), c4.on (ho.on (by omega)), c5.on (ho.on (by omega)), c6.on (ho.on (by omega)), c7.on (ho.on (by omega)), ⟨D0, c8.on (ho.on (by omega))⟩, c9.on (ho.on (by omega)), ⟨f, hx⟩⟩
/-- one list of the records becomes another -/
theorem recP.setL {h h' : HP} {r j : Nat} {kp : Bool} {R : RecS} {L : List Int32} (hp : recP h r kp R) (hj : j < 4) (ho : only h h' (r + 6 + 2 * j) (r + 8 + 2 * j)) (hx : rowL h' (r + 6 + 2 * j) (r + 7 + 2 * j) 12 L) : recP h' r kp (fun i => if i = j then L else R.1 i, R.2) := by
  obtain ⟨p1, ⟨q, p2, p3⟩, p4, p5, p6⟩ := hp
  refine ⟨(ho _ (by omega)).trans p1, ⟨q, (ho _ (by omega)).trans p2, p3⟩, p4.on (ho.on (by omega)), p5.on (ho _ (by omega)), fun i hi => ?_⟩
  by_cases hij : i = j
  · subst hij
    simpa using hx
  · simp only [hij, if_false]
    exact (p6 i hi).on (ho _ (by omega)) (ho _ (by omega))
theorem recP.setSt {h h' : HP} {r : Nat} {kp : Bool} {R : RecS} {f : Nat → Int32} (hp : recP h r kp R) (ho : only h h' (r + 3) (r + 4)) (hx : arrP h' (r + 3) 6 f) : recP h' r kp (R.1, f, R.2.2) := by
  obtain ⟨p1, ⟨q, p2, p3⟩, p4, p5, p6⟩ := hp
  exact ⟨(ho _ (by omega)).trans p1, ⟨q, (ho _ (by omega)).trans p2, p3⟩, ⟨(ho _ (by omega)).trans p4.1, hx, p4.2.2.on (ho _ (by omega))⟩, p5.on (ho _ (by omega)), fun i hi => (p6 i hi).on (ho _ (by omega)) (ho _ (by omega))⟩
theorem recP.setCl {h h' : HP} {r : Nat} {kp : Bool} {R : RecS} {f : Nat → Int32} (hp : recP h r kp R) (ho : only h h' (r + 4) (r + 5)) (hx : arrP h' (r + 4) 6 f) : recP h' r kp (R.1, R.2.1, f, R.2.2.2) := by
  obtain ⟨p1, ⟨q, p2, p3⟩, p4, p5, p6⟩ := hp
  exact ⟨(ho _ (by omega)).trans p1, ⟨q, (ho _ (by omega)).trans p2, p3⟩, ⟨(ho _ (by omega)).trans p4.1, p4.2.1.on (ho _ (by omega)), hx⟩, p5.on (ho _ (by omega)), fun i hi => (p6 i hi).on (ho _ (by omega)) (ho _ (by omega))⟩
theorem recP.setDt {h h' : HP} {r : Nat} {kp : Bool} {R : RecS} {f : Nat → Int32} (hp : recP h r kp R) (ho : only h h' (r + 5) (r + 6)) (hx : arrP h' (r + 5) 26 f) : recP h' r kp (R.1, R.2.1, R.2.2.1, f) := by
  obtain ⟨p1, ⟨q, p2, p3⟩, p4, p5, p6⟩ := hp
  exact ⟨(ho _ (by omega)).trans p1, ⟨q, (ho _ (by omega)).trans p2, p3⟩, p4.on (ho.on (by omega)), hx, fun i hi => (p6 i hi).on (ho _ (by omega)) (ho _ (by omega))⟩
theorem arrP_upd {h : HP} {a N j : Nat} {g f : Nat → Int32} {x : Int32} (hg : ∀ k, k < N → g k = f k) : arrP (va_up h a (some (.inl (0, N, .inl (upd g j x))))) a N (upd f j x) := by
  refine ⟨_, va_up_self _ _ _, fun k hk => ?_⟩
  by_cases hkj : k = j
  · subst hkj; rw [pk_us, pk_us]
  · rw [pk_un hkj, pk_un hkj, hg k hk]

def a_house (S : AS) (x w v : Int32) : Int32 := if rg 0 5 x then (if w = 0 ∧ rg 0 99 v = true then sSt S (ixN x) else if w = 1 ∧ (decide (v = -9) || rg 0 25 v) = true then sCl S (ixN x) else -1) else -1
def n_house (S : AS) (x w v : Int32) : AS := if rg 0 5 x then (if w = 0 ∧ rg 0 99 v = true then setN S ((sN S).1, upd (sSt S) (ixN x) v, (sN S).2.2) else if w = 1 ∧ (decide (v = -9) || rg 0 25 v) = true then setN S ((sN S).1, (sN S).2.1, upd (sCl S) (ixN x) v, (sN S).2.2.2) else S) else S
theorem k_house {E : EV} {h : HP} {c n : Nat} {S : AS} (hc : clsP h c S) (x w v : Int32) : PM E mX7_house [.ref c, .int x, .int w, .int v] h n n 0 (QC c h (some (.int (a_house S x w v))) (n_house S x w v)) := by
  obtain ⟨c1, c2, c3, ⟨r1, r2, r4, r5, r6⟩, -⟩ := id hc
  have hrec := hc.2.2.2.1
  obtain ⟨st, cl, t1, t2, t3⟩ := r4.at
  obtain ⟨t0, t00, t01, -⟩ := id t1
  have e1 : nI 1 = 1 := by decide
  have bad : rg 0 5 x = true → ¬ (w = 0 ∧ rg 0 99 v = true) → PW (KX E mX7_house n (QC c h (some (.int (a_house S x w v))) (n_house S x w v))) 36 [.ref c, .int x, .int w, .int v] [] h n 0 := by
    intro hx hno
    refine pw_iload_n (pc := 36) dX7_house_36 rfl ?_
    refine pw_iconst (pc := 37) (nI 1) dX7_house_37 (by decide) ?_
    refine pw_icmp_ne (pc := 38) 64 dX7_house_38 (by decide) (fun z => ?_) (fun z => ?_)
    · refine pw_iconst (pc := 64) (-1) dX7_house_64 (by decide) ?_
      have z' : ¬ w = 1 := by rw [← e1]; exact z
      refine pw_iret dX7_house_65 rfl ⟨?_, ?_, only.rfl⟩
      · rw [a_house, if_pos hx, if_neg hno, if_neg (fun q => z' q.1)]
      · rw [n_house, if_pos hx, if_neg hno, if_neg (fun q => z' q.1)]; exact hc
    · rw [e1] at z
      refine pw_iload_n (pc := 41) dX7_house_41 rfl ?_
      refine pw_callS_i (pc := 42) cs_X7_135 dX7_house_42 (c_isNameOrNone v) rfl rfl (Nat.le_of_ble_eq_true rfl) ⟨(Nat.le_of_ble_eq_true rfl), (Nat.le_of_ble_eq_true rfl)⟩ ?_
      refine pw_if_eq_b (pc := 45) 64 dX7_house_45 (by decide) (fun z2 => ?_) (fun z2 => ?_)
      · refine pw_iconst (pc := 64) (-1) dX7_house_64 (by decide) ?_
        refine pw_iret dX7_house_65 rfl ⟨?_, ?_, only.rfl⟩
        · rw [a_house, if_pos hx, if_neg hno, if_neg (fun q => by rw [z2] at q; cases q.2)]
        · rw [n_house, if_pos hx, if_neg hno, if_neg (fun q => by rw [z2] at q; cases q.2)]; exact hc
      · · obtain ⟨j, hj, rfl, ej⟩ := rg_ix (hi := 5) hx
          refine pw_aload_n (pc := 48) dX7_house_48 rfl ?_
          refine pw_get (pc := 49) fg_X7_26 dX7_house_49 (by first | assumption | exact va_up_self _ _ _ | exact lk1 (by first | assumption | (apply Ne.symm; assumption) | (simp; done)) (by assumption) | exact lk1 (by first | assumption | (apply Ne.symm; assumption) | (simp; done)) (va_up_self _ _ _) | exact lk1 (by first | assumption | (apply Ne.symm; assumption) | (simp; done)) (lk1 (by first | assumption | (apply Ne.symm; assumption) | (simp; done)) (by assumption)) | exact lk1 (by first | assumption | (apply Ne.symm; assumption) | (simp; done)) (lk1 (by first | assumption | (apply Ne.symm; assumption) | (simp; done)) (va_up_self _ _ _)) | exact lk1 (by first | assumption | (apply Ne.symm; assumption) | (simp; done)) (lk1 (by first | assumption | (apply Ne.symm; assumption) | (simp; done)) (lk1 (by first | assumption | (apply Ne.symm; assumption) | (simp; done)) (by assumption))) | exact lk1 (by first | assumption | (apply Ne.symm; assumption) | (simp; done)) (lk1 (by first | assumption | (apply Ne.symm; assumption) | (simp; done)) (lk1 (by first | assumption | (apply Ne.symm; assumption) | (simp; done)) (va_up_self _ _ _))) | exact lk1 (by first | assumption | (apply Ne.symm; assumption) | (simp; done)) (lk1 (by first | assumption | (apply Ne.symm; assumption) | (simp; done)) (lk1 (by first | assumption | (apply Ne.symm; assumption) | (simp; done)) (lk1 (by first | assumption | (apply Ne.symm; assumption) | (simp; done)) (by assumption)))) | exact lk1 (by first | assumption | (apply Ne.symm; assumption) | (simp; done)) (lk1 (by first | assumption | (apply Ne.symm; assumption) | (simp; done)) (lk1 (by first | assumption | (apply Ne.symm; assumption) | (simp; done)) (lk1 (by first | assumption | (apply Ne.symm; assumption) | (simp; done)) (va_up_self _ _ _))))) (by rfl) ?_
          refine pw_get (pc := 52) fg_X7_122 dX7_house_52 (by first | assumption | exact va_up_self _ _ _ | exact lk1 (by first | assumption | (apply Ne.symm; assumption) | (simp; done)) (by assumption) | exact lk1 (by first | assumption | (apply Ne.symm; assumption) | (simp; done)) (va_up_self _ _ _) | exact lk1 (by first | assumption | (apply Ne.symm; assumption) | (simp; done)) (lk1 (by first | assumption | (apply Ne.symm; assumption) | (simp; done)) (by assumption)) | exact lk1 (by first | assumption | (apply Ne.symm; assumption) | (simp; done)) (lk1 (by first | assumption | (apply Ne.symm; assumption) | (simp; done)) (va_up_self _ _ _)) | exact lk1 (by first | assumption | (apply Ne.symm; assumption) | (simp; done)) (lk1 (by first | assumption | (apply Ne.symm; assumption) | (simp; done)) (lk1 (by first | assumption | (apply Ne.symm; assumption) | (simp; done)) (by assumption))) | exact lk1 (by first | assumption | (apply Ne.symm; assumption) | (simp; done)) (lk1 (by first | assumption | (apply Ne.symm; assumption) | (simp; done)) (lk1 (by first | assumption | (apply Ne.symm; assumption) | (simp; done)) (va_up_self _ _ _))) | exact lk1 (by first | assumption | (apply Ne.symm; assumption) | (simp; done)) (lk1 (by first | assumption | (apply Ne.symm; assumption) | (simp; done)) (lk1 (by first | assumption | (apply Ne.symm; assumption) | (simp; done)) (lk1 (by first | assumption | (apply Ne.symm; assumption) | (simp; done)) (by assumption)))) | exact lk1 (by first | assumption | (apply Ne.symm; assumption) | (simp; done)) (lk1 (by first | assumption | (apply Ne.symm; assumption) | (simp; done)) (lk1 (by first | assumption | (apply Ne.symm; assumption) | (simp; done)) (lk1 (by first | assumption | (apply Ne.symm; assumption) | (simp; done)) (va_up_self _ _ _))))) (by rfl) ?_
          refine pw_get (pc := 55) fg_X7_138 dX7_house_55 (by first | assumption | exact va_up_self _ _ _ | exact lk1 (by first | assumption | (apply Ne.symm; assumption) | (simp; done)) (by assumption) | exact lk1 (by first | assumption | (apply Ne.symm; assumption) | (simp; done)) (va_up_self _ _ _) | exact lk1 (by first | assumption | (apply Ne.symm; assumption) | (simp; done)) (lk1 (by first | assumption | (apply Ne.symm; assumption) | (simp; done)) (by assumption)) | exact lk1 (by first | assumption | (apply Ne.symm; assumption) | (simp; done)) (lk1 (by first | assumption | (apply Ne.symm; assumption) | (simp; done)) (va_up_self _ _ _)) | exact lk1 (by first | assumption | (apply Ne.symm; assumption) | (simp; done)) (lk1 (by first | assumption | (apply Ne.symm; assumption) | (simp; done)) (lk1 (by first | assumption | (apply Ne.symm; assumption) | (simp; done)) (by assumption))) | exact lk1 (by first | assumption | (apply Ne.symm; assumption) | (simp; done)) (lk1 (by first | assumption | (apply Ne.symm; assumption) | (simp; done)) (lk1 (by first | assumption | (apply Ne.symm; assumption) | (simp; done)) (va_up_self _ _ _))) | exact lk1 (by first | assumption | (apply Ne.symm; assumption) | (simp; done)) (lk1 (by first | assumption | (apply Ne.symm; assumption) | (simp; done)) (lk1 (by first | assumption | (apply Ne.symm; assumption) | (simp; done)) (lk1 (by first | assumption | (apply Ne.symm; assumption) | (simp; done)) (by assumption)))) | exact lk1 (by first | assumption | (apply Ne.symm; assumption) | (simp; done)) (lk1 (by first | assumption | (apply Ne.symm; assumption) | (simp; done)) (lk1 (by first | assumption | (apply Ne.symm; assumption) | (simp; done)) (lk1 (by first | assumption | (apply Ne.symm; assumption) | (simp; done)) (va_up_self _ _ _))))) (by rfl) ?_
          refine pw_iload_n (pc := 58) dX7_house_58 rfl ?_
          refine pw_iload_n (pc := 59) dX7_house_59 rfl ?_
          refine pw_callS_i (pc := 60) cs_X7_131 dX7_house_60 (c_exchange t01 (by omega) j (by omega) v) rfl rfl (Nat.le_of_ble_eq_true rfl) ⟨(Nat.le_of_ble_eq_true rfl), (Nat.le_of_ble_eq_true rfl)⟩ ?_
          refine pw_iret dX7_house_63 rfl ⟨?_, ?_, only.up only.rfl (by omega) (by omega)⟩
          · rw [a_house, if_pos hx, if_neg hno, if_pos ⟨z, z2⟩, ej, t3 j (by omega)]
          · rw [n_house, if_pos hx, if_neg hno, if_pos ⟨z, z2⟩, ej]
            exact hc.upN (only.up only.rfl (by omega) (by omega)) (hrec.setCl (only.up only.rfl (by omega) (by omega)) (arrP_upd t3))
  refine PM.of [.ref c, .int x, .int w, .int v] rfl (Nat.le_of_ble_eq_true rfl) rfl ?_
  refine pw_iload_n (pc := 0) dX7_house_0 rfl ?_
  refine pw_callS_i (pc := 1) cs_X7_116 dX7_house_1 (c_isHouse x) rfl rfl (Nat.le_of_ble_eq_true rfl) ⟨(Nat.le_of_ble_eq_true rfl), (Nat.le_of_ble_eq_true rfl)⟩ ?_
  refine pw_if_ne_b (pc := 4) 9 dX7_house_4 (by decide) (fun z => ?_) (fun z => ?_)
  · obtain ⟨j, hj, rfl, ej⟩ := rg_ix (hi := 5) z
    refine pw_iload_n (pc := 9) dX7_house_9 rfl ?_
    refine pw_if_ne (pc := 10) 36 dX7_house_10 (by decide) (fun z1 => ?_) (fun z1 => ?_)
    · exact bad z (fun q => z1 q.1)
    · refine pw_iload_n (pc := 13) dX7_house_13 rfl ?_
      refine pw_callS_i (pc := 14) cs_X7_119 dX7_house_14 (c_isStrength v) rfl rfl (Nat.le_of_ble_eq_true rfl) ⟨(Nat.le_of_ble_eq_true rfl), (Nat.le_of_ble_eq_true rfl)⟩ ?_
      refine pw_if_eq_b (pc := 17) 36 dX7_house_17 (by decide) (fun z2 => ?_) (fun z2 => ?_)
      · exact bad z (fun q => by rw [z2] at q; cases q.2)
      · refine pw_aload_n (pc := 20) dX7_house_20 rfl ?_
        refine pw_get (pc := 21) fg_X7_26 dX7_house_21 (by first | assumption | exact va_up_self _ _ _ | exact lk1 (by first | assumption | (apply Ne.symm; assumption) | (simp; done)) (by assumption) | exact lk1 (by first | assumption | (apply Ne.symm; assumption) | (simp; done)) (va_up_self _ _ _) | exact lk1 (by first | assumption | (apply Ne.symm; assumption) | (simp; done)) (lk1 (by first | assumption | (apply Ne.symm; assumption) | (simp; done)) (by assumption)) | exact lk1 (by first | assumption | (apply Ne.symm; assumption) | (simp; done)) (lk1 (by first | assumption | (apply Ne.symm; assumption) | (simp; done)) (va_up_self _ _ _)) | exact lk1 (by first | assumption | (apply Ne.symm; assumption) | (simp; done)) (lk1 (by first | assumption | (apply Ne.symm; assumption) | (simp; done)) (lk1 (by first | assumption | (apply Ne.symm; assumption) | (simp; done)) (by assumption))) | exact lk1 (by first | assumption | (apply Ne.symm; assumption) | (simp; done)) (lk1 (by first | assumption | (apply Ne.symm; assumption) | (simp; done)) (lk1 (by first | assumption | (apply Ne.symm; assumption) | (simp; done)) (va_up_self _ _ _))) | exact lk1 (by first | assumption | (apply Ne.symm; assumption) | (simp; done)) (lk1 (by first | assumption | (apply Ne.symm; assumption) | (simp; done)) (lk1 (by first | assumption | (apply Ne.symm; assumption) | (simp; done)) (lk1 (by first | assumption | (apply Ne.symm; assumption) | (simp; done)) (by assumption)))) | exact lk1 (by first | assumption | (apply Ne.symm; assumption) | (simp; done)) (lk1 (by first | assumption | (apply Ne.symm; assumption) | (simp; done)) (lk1 (by first | assumption | (apply Ne.symm; assumption) | (simp; done)) (lk1 (by first | assumption | (apply Ne.symm; assumption) | (simp; done)) (va_up_self _ _ _))))) (by rfl) ?_
        refine pw_get (pc := 24) fg_X7_122 dX7_house_24 (by first | assumption | exact va_up_self _ _ _ | exact lk1 (by first | assumption | (apply Ne.symm; assumption) | (simp; done)) (by assumption) | exact lk1 (by first | assumption | (apply Ne.symm; assumption) | (simp; done)) (va_up_self _ _ _) | exact lk1 (by first | assumption | (apply Ne.symm; assumption) | (simp; done)) (lk1 (by first | assumption | (apply Ne.symm; assumption) | (simp; done)) (by assumption)) | exact lk1 (by first | assumption | (apply Ne.symm; assumption) | (simp; done)) (lk1 (by first | assumption | (apply Ne.symm; assumption) | (simp; done)) (va_up_self _ _ _)) | exact lk1 (by first | assumption | (apply Ne.symm; assumption) | (simp; done)) (lk1 (by first | assumption | (apply Ne.symm; assumption) | (simp; done)) (lk1 (by first | assumption | (apply Ne.symm; assumption) | (simp; done)) (by assumption))) | exact lk1 (by first | assumption | (apply Ne.symm; assumption) | (simp; done)) (lk1 (by first | assumption | (apply Ne.symm; assumption) | (simp; done)) (lk1 (by first | assumption | (apply Ne.symm; assumption) | (simp; done)) (va_up_self _ _ _))) | exact lk1 (by first | assumption | (apply Ne.symm; assumption) | (simp; done)) (lk1 (by first | assumption | (apply Ne.symm; assumption) | (simp; done)) (lk1 (by first | assumption | (apply Ne.symm; assumption) | (simp; done)) (lk1 (by first | assumption | (apply Ne.symm; assumption) | (simp; done)) (by assumption)))) | exact lk1 (by first | assumption | (apply Ne.symm; assumption) | (simp; done)) (lk1 (by first | assumption | (apply Ne.symm; assumption) | (simp; done)) (lk1 (by first | assumption | (apply Ne.symm; assumption) | (simp; done)) (lk1 (by first | assumption | (apply Ne.symm; assumption) | (simp; done)) (va_up_self _ _ _))))) (by rfl) ?_
        refine pw_get (pc := 27) fg_X7_126 dX7_house_27 (by first | assumption | exact va_up_self _ _ _ | exact lk1 (by first | assumption | (apply Ne.symm; assumption) | (simp; done)) (by assumption) | exact lk1 (by first | assumption | (apply Ne.symm; assumption) | (simp; done)) (va_up_self _ _ _) | exact lk1 (by first | assumption | (apply Ne.symm; assumption) | (simp; done)) (lk1 (by first | assumption | (apply Ne.symm; assumption) | (simp; done)) (by assumption)) | exact lk1 (by first | assumption | (apply Ne.symm; assumption) | (simp; done)) (lk1 (by first | assumption | (apply Ne.symm; assumption) | (simp; done)) (va_up_self _ _ _)) | exact lk1 (by first | assumption | (apply Ne.symm; assumption) | (simp; done)) (lk1 (by first | assumption | (apply Ne.symm; assumption) | (simp; done)) (lk1 (by first | assumption | (apply Ne.symm; assumption) | (simp; done)) (by assumption))) | exact lk1 (by first | assumption | (apply Ne.symm; assumption) | (simp; done)) (lk1 (by first | assumption | (apply Ne.symm; assumption) | (simp; done)) (lk1 (by first | assumption | (apply Ne.symm; assumption) | (simp; done)) (va_up_self _ _ _))) | exact lk1 (by first | assumption | (apply Ne.symm; assumption) | (simp; done)) (lk1 (by first | assumption | (apply Ne.symm; assumption) | (simp; done)) (lk1 (by first | assumption | (apply Ne.symm; assumption) | (simp; done)) (lk1 (by first | assumption | (apply Ne.symm; assumption) | (simp; done)) (by assumption)))) | exact lk1 (by first | assumption | (apply Ne.symm; assumption) | (simp; done)) (lk1 (by first | assumption | (apply Ne.symm; assumption) | (simp; done)) (lk1 (by first | assumption | (apply Ne.symm; assumption) | (simp; done)) (lk1 (by first | assumption | (apply Ne.symm; assumption) | (simp; done)) (va_up_self _ _ _))))) (by rfl) ?_
        refine pw_iload_n (pc := 30) dX7_house_30 rfl ?_
        refine pw_iload_n (pc := 31) dX7_house_31 rfl ?_
        refine pw_callS_i (pc := 32) cs_X7_131 dX7_house_32 (c_exchange t00 (by omega) j (by omega) v) rfl rfl (Nat.le_of_ble_eq_true rfl) ⟨(Nat.le_of_ble_eq_true rfl), (Nat.le_of_ble_eq_true rfl)⟩ ?_
        refine pw_iret dX7_house_35 rfl ⟨?_, ?_, only.up only.rfl (by omega) (by omega)⟩
        · rw [a_house, if_pos z, if_pos ⟨z1, z2⟩, ej, t2 j (by omega)]
        · rw [n_house, if_pos z, if_pos ⟨z1, z2⟩, ej]
          exact hc.upN (only.up only.rfl (by omega) (by omega)) (hrec.setSt (only.up only.rfl (by omega) (by omega)) (arrP_upd t2))
  · refine pw_iconst (pc := 7) (-1) dX7_house_7 (by decide) ?_
    refine pw_iret dX7_house_8 rfl ⟨?_, ?_, only.rfl⟩
    · rw [a_house, z]; rfl
    · rw [n_house, z]; exact hc

