/-! some lists looked at together -/
def lkF (f : Nat → Int32) (L : List Int32) : Nat → (Nat → Int32) × Int32
  | 0 => (f, nI 0)
  | k + 1 => (upd (lkF f L k).1 (ixN (L.getD k 0)) ((lkF f L k).1 (ixN (L.getD k 0)) ||| (lkF f L k).2), (lkF f L k).2 ||| bit1 (L.getD k 0))
def loF (R : RecS) (set : Int32) : Nat → (Nat → Int32) × Int32
  | 0 => (fun _ => nI 0, nI 0)
  | i + 1 => if inB set (nI i) then ((lkF (loF R set i).1 (R.1 i) (R.1 i).length).1, (loF R set i).2 ||| (lkF (loF R set i).1 (R.1 i) (R.1 i).length).2) else loF R set i
theorem lkF_congr {f f' : Nat → Int32} {L : List Int32} (hL : ∀ x, x ∈ L → rg 0 25 x = true) (h : ∀ k, k < 26 → f k = f' k) : ∀ k, k ≤ L.length → (∀ j, j < 26 → (lkF f L k).1 j = (lkF f' L k).1 j) ∧ (lkF f L k).2 = (lkF f' L k).2
  | 0, _ => ⟨h, rfl⟩
  | k + 1, hk => by
    obtain ⟨i1, i2⟩ := lkF_congr hL h k (by omega)
    obtain ⟨x, hx, ex, ex2⟩ := rg_ix (hi := 25) (hL _ (mem_getD (L := L) (k := k) (by omega)))
    refine ⟨fun j hj => ?_, ?_⟩
    · simp only [lkF, i2, ex2]
      by_cases e : j = x
      · subst e; rw [pk_us, pk_us, i1 _ hj]
      · rw [pk_un e, pk_un e]; exact i1 j hj
    · simp only [lkF, i2]
def sidB (h : HP) (s : Nat) (f : Nat → Int32) (al : Int32) : Prop := h s = some (.inr (5, [.ref (s + 1), .ref (s + 2), .ref (s + 3), .int al])) ∧ arrP h (s + 1) 26 f ∧ (∃ g, h (s + 2) = some (.inl (0, 12, .inl g))) ∧ ∃ w, h (s + 3) = some (.inl (1, 4096, .inr (.inl w)))
theorem sidB.P {h : HP} {s : Nat} {f : Nat → Int32} {al : Int32} (p : sidB h s f al) : sidP h s := by
  obtain ⟨a, ⟨f', b, -⟩, ⟨g, c⟩, w, d⟩ := p
  exact ⟨f', g, w, al, a, b, c, d⟩
def nxF (f : Nat → Int32) (al p : Int32) : Nat → Int32
  | 0 => p
  | k + 1 => if inB al (nI k) = true ∧ f k &&& (p ^^^ -1) = 0 then nxF f al p k ||| bit1 (nI k) else nxF f al p k
def hoF (f : Nat → Int32) (al : Int32) : Nat → Int32 → Bool
  | 0, p => decide (p = al)
  | r + 1, p => if p = al then true else if nxF f al p 26 = p then false else hoF f al r (nxF f al p 26)
def waF (f : Nat → Int32) (p : Int32) : Nat → Int32
  | 0 => p
  | k + 1 => if inB p (nI k) then waF f p k ||| f k else waF f p k
def aaF (f : Nat → Int32) : Nat → Int32 → Int32
  | 0, p => p
  | r + 1, p => if waF f p 26 = p then p else aaF f r (waF f p 26)
section S1
variable {E : EV} {h : HP} {n s a b : Nat} {f : Nat → Int32} {al : Int32} {L : List Int32}
theorem c_lookAt (hs : sidB h s f al) (hr : rowL h a b 12 L) (hL : ∀ x, x ∈ L → rg 0 25 x = true) (d1 : a < s ∨ s + 4 ≤ a) (d2 : b < s ∨ s + 4 ≤ b) : PM E mX5_lookAt [.ref s, .ref a] h n n 0 (fun v h' => v = none ∧ sidB h' s (lkF f L L.length).1 (al ||| (lkF f L L.length).2) ∧ ∀ q, q ≠ s → q ≠ s + 1 → h' q = h q) := by
  obtain ⟨s0, ⟨f0, s1, hf0⟩, ⟨g2, s2⟩, w3, s3⟩ := id hs
  have loop : ∀ p k f' h' w4, k + p = L.length → (∀ j, j < 26 → f' j = (lkF f L k).1 j) → h' (s + 1) = some (.inl (0, 26, .inl f')) → (∀ q, q ≠ s + 1 → h' q = h q) → PW (KX E mX5_lookAt n (fun v h' => v = none ∧ sidB h' s (lkF f L L.length).1 (al ||| (lkF f L L.length).2) ∧ ∀ q, q ≠ s → q ≠ s + 1 → h' q = h q)) 4 [.ref s, .ref a, .int (lkF f L k).2, .int (nI k), w4] [] h' n 0 := by
    intro p
    induction p with
    | zero =>
      intro k f' h' w4 hk hf' x1 xf
      have hr' : rowL h' a b 12 L := hr.on (xf _ (by omega)) (xf _ (by omega))
      obtain ⟨g, u1, hg⟩ := id hr'
      have u10 := u1.1
      have hl := u1.2.2.1
      have x0 := (xf s (by omega)).trans s0
      refine pw_iload_n (pc := 4) dX5_lookAt_4 rfl ?_
      refine pw_aload_n (pc := 5) dX5_lookAt_5 rfl ?_
      refine pw_get (pc := 6) fg_X5_46 dX5_lookAt_6 (by first | assumption | exact va_up_self _ _ _ | exact lk1 (by first | assumption | (apply Ne.symm; assumption) | (simp; done)) (by assumption) | exact lk1 (by first | assumption | (apply Ne.symm; assumption) | (simp; done)) (va_up_self _ _ _) | exact lk1 (by first | assumption | (apply Ne.symm; assumption) | (simp; done)) (lk1 (by first | assumption | (apply Ne.symm; assumption) | (simp; done)) (by assumption)) | exact lk1 (by first | assumption | (apply Ne.symm; assumption) | (simp; done)) (lk1 (by first | assumption | (apply Ne.symm; assumption) | (simp; done)) (va_up_self _ _ _)) | exact lk1 (by first | assumption | (apply Ne.symm; assumption) | (simp; done)) (lk1 (by first | assumption | (apply Ne.symm; assumption) | (simp; done)) (lk1 (by first | assumption | (apply Ne.symm; assumption) | (simp; done)) (by assumption))) | exact lk1 (by first | assumption | (apply Ne.symm; assumption) | (simp; done)) (lk1 (by first | assumption | (apply Ne.symm; assumption) | (simp; done)) (lk1 (by first | assumption | (apply Ne.symm; assumption) | (simp; done)) (va_up_self _ _ _))) | exact lk1 (by first | assumption | (apply Ne.symm; assumption) | (simp; done)) (lk1 (by first | assumption | (apply Ne.symm; assumption) | (simp; done)) (lk1 (by first | assumption | (apply Ne.symm; assumption) | (simp; done)) (lk1 (by first | assumption | (apply Ne.symm; assumption) | (simp; done)) (by assumption)))) | exact lk1 (by first | assumption | (apply Ne.symm; assumption) | (simp; done)) (lk1 (by first | assumption | (apply Ne.symm; assumption) | (simp; done)) (lk1 (by first | assumption | (apply Ne.symm; assumption) | (simp; done)) (lk1 (by first | assumption | (apply Ne.symm; assumption) | (simp; done)) (va_up_self _ _ _))))) (by first | rfl | assumption) ?_
      refine pw_icmp_ge_n (pc := 9) 51 dX5_lookAt_9 (by decide) (by omega) (by omega) (fun cb => ?_) (fun cb => ?_)
      · obtain rfl : k = L.length := by omega
        refine pw_aload_n (pc := 51) dX5_lookAt_51 rfl ?_
        refine pw_dup (pc := 52) dX5_lookAt_52 rfl ?_
        refine pw_get (pc := 53) fg_X5_22 dX5_lookAt_53 (by first | assumption | exact va_up_self _ _ _ | exact lk1 (by first | assumption | (apply Ne.symm; assumption) | (simp; done)) (by assumption) | exact lk1 (by first | assumption | (apply Ne.symm; assumption) | (simp; done)) (va_up_self _ _ _) | exact lk1 (by first | assumption | (apply Ne.symm; assumption) | (simp; done)) (lk1 (by first | assumption | (apply Ne.symm; assumption) | (simp; done)) (by assumption)) | exact lk1 (by first | assumption | (apply Ne.symm; assumption) | (simp; done)) (lk1 (by first | assumption | (apply Ne.symm; assumption) | (simp; done)) (va_up_self _ _ _)) | exact lk1 (by first | assumption | (apply Ne.symm; assumption) | (simp; done)) (lk1 (by first | assumption | (apply Ne.symm; assumption) | (simp; done)) (lk1 (by first | assumption | (apply Ne.symm; assumption) | (simp; done)) (by assumption))) | exact lk1 (by first | assumption | (apply Ne.symm; assumption) | (simp; done)) (lk1 (by first | assumption | (apply Ne.symm; assumption) | (simp; done)) (lk1 (by first | assumption | (apply Ne.symm; assumption) | (simp; done)) (va_up_self _ _ _))) | exact lk1 (by first | assumption | (apply Ne.symm; assumption) | (simp; done)) (lk1 (by first | assumption | (apply Ne.symm; assumption) | (simp; done)) (lk1 (by first | assumption | (apply Ne.symm; assumption) | (simp; done)) (lk1 (by first | assumption | (apply Ne.symm; assumption) | (simp; done)) (by assumption)))) | exact lk1 (by first | assumption | (apply Ne.symm; assumption) | (simp; done)) (lk1 (by first | assumption | (apply Ne.symm; assumption) | (simp; done)) (lk1 (by first | assumption | (apply Ne.symm; assumption) | (simp; done)) (lk1 (by first | assumption | (apply Ne.symm; assumption) | (simp; done)) (va_up_self _ _ _))))) (by first | rfl | assumption) ?_
        refine pw_iload_n (pc := 56) dX5_lookAt_56 rfl ?_
        refine pw_ior (pc := 57) dX5_lookAt_57 ?_
        refine pw_put3 (pc := 58) fp_X5_22 dX5_lookAt_58 (by first | assumption | exact va_up_self _ _ _ | exact lk1 (by first | assumption | (apply Ne.symm; assumption) | (simp; done)) (by assumption) | exact lk1 (by first | assumption | (apply Ne.symm; assumption) | (simp; done)) (va_up_self _ _ _) | exact lk1 (by first | assumption | (apply Ne.symm; assumption) | (simp; done)) (lk1 (by first | assumption | (apply Ne.symm; assumption) | (simp; done)) (by assumption)) | exact lk1 (by first | assumption | (apply Ne.symm; assumption) | (simp; done)) (lk1 (by first | assumption | (apply Ne.symm; assumption) | (simp; done)) (va_up_self _ _ _)) | exact lk1 (by first | assumption | (apply Ne.symm; assumption) | (simp; done)) (lk1 (by first | assumption | (apply Ne.symm; assumption) | (simp; done)) (lk1 (by first | assumption | (apply Ne.symm; assumption) | (simp; done)) (by assumption))) | exact lk1 (by first | assumption | (apply Ne.symm; assumption) | (simp; done)) (lk1 (by first | assumption | (apply Ne.symm; assumption) | (simp; done)) (lk1 (by first | assumption | (apply Ne.symm; assumption) | (simp; done)) (va_up_self _ _ _))) | exact lk1 (by first | assumption | (apply Ne.symm; assumption) | (simp; done)) (lk1 (by first | assumption | (apply Ne.symm; assumption) | (simp; done)) (lk1 (by first | assumption | (apply Ne.symm; assumption) | (simp; done)) (lk1 (by first | assumption | (apply Ne.symm; assumption) | (simp; done)) (by assumption)))) | exact lk1 (by first | assumption | (apply Ne.symm; assumption) | (simp; done)) (lk1 (by first | assumption | (apply Ne.symm; assumption) | (simp; done)) (lk1 (by first | assumption | (apply Ne.symm; assumption) | (simp; done)) (lk1 (by first | assumption | (apply Ne.symm; assumption) | (simp; done)) (va_up_self _ _ _))))) rfl rfl ?_
        refine pw_vret dX5_lookAt_61 rfl ⟨rfl, ⟨va_up_self _ _ _, ⟨f', lk1 (by omega) x1, hf'⟩, ⟨g2, lk1 (by omega) ((xf _ (by omega)).trans s2)⟩, w3, lk1 (by omega) ((xf _ (by omega)).trans s3)⟩, fun q q1 q2 => by rw [va_up_ne _ _ q1]; exact xf q q2⟩
      · omega
    | succ p ih =>
      intro k f' h' w4 hk hf' x1 xf
      have hr' : rowL h' a b 12 L := hr.on (xf _ (by omega)) (xf _ (by omega))
      obtain ⟨g, u1, hg⟩ := id hr'
      have u10 := u1.1
      have hl := u1.2.2.1
      have x0 := (xf s (by omega)).trans s0
      have hn := hL _ (mem_getD (L := L) (k := k) (by omega))
      obtain ⟨x, hx, ex, ex2⟩ := rg_ix (hi := 25) hn
      refine pw_iload_n (pc := 4) dX5_lookAt_4 rfl ?_
      refine pw_aload_n (pc := 5) dX5_lookAt_5 rfl ?_
      refine pw_get (pc := 6) fg_X5_46 dX5_lookAt_6 (by first | assumption | exact va_up_self _ _ _ | exact lk1 (by first | assumption | (apply Ne.symm; assumption) | (simp; done)) (by assumption) | exact lk1 (by first | assumption | (apply Ne.symm; assumption) | (simp; done)) (va_up_self _ _ _) | exact lk1 (by first | assumption | (apply Ne.symm; assumption) | (simp; done)) (lk1 (by first | assumption | (apply Ne.symm; assumption) | (simp; done)) (by assumption)) | exact lk1 (by first | assumption | (apply Ne.symm; assumption) | (simp; done)) (lk1 (by first | assumption | (apply Ne.symm; assumption) | (simp; done)) (va_up_self _ _ _)) | exact lk1 (by first | assumption | (apply Ne.symm; assumption) | (simp; done)) (lk1 (by first | assumption | (apply Ne.symm; assumption) | (simp; done)) (lk1 (by first | assumption | (apply Ne.symm; assumption) | (simp; done)) (by assumption))) | exact lk1 (by first | assumption | (apply Ne.symm; assumption) | (simp; done)) (lk1 (by first | assumption | (apply Ne.symm; assumption) | (simp; done)) (lk1 (by first | assumption | (apply Ne.symm; assumption) | (simp; done)) (va_up_self _ _ _))) | exact lk1 (by first | assumption | (apply Ne.symm; assumption) | (simp; done)) (lk1 (by first | assumption | (apply Ne.symm; assumption) | (simp; done)) (lk1 (by first | assumption | (apply Ne.symm; assumption) | (simp; done)) (lk1 (by first | assumption | (apply Ne.symm; assumption) | (simp; done)) (by assumption)))) | exact lk1 (by first | assumption | (apply Ne.symm; assumption) | (simp; done)) (lk1 (by first | assumption | (apply Ne.symm; assumption) | (simp; done)) (lk1 (by first | assumption | (apply Ne.symm; assumption) | (simp; done)) (lk1 (by first | assumption | (apply Ne.symm; assumption) | (simp; done)) (va_up_self _ _ _))))) (by first | rfl | assumption) ?_
      refine pw_icmp_ge_n (pc := 9) 51 dX5_lookAt_9 (by decide) (by omega) (by omega) (fun cb => ?_) (fun cb => ?_)
      · omega
      · refine pw_aload_n (pc := 12) dX5_lookAt_12 rfl ?_
        refine pw_iload_n (pc := 13) dX5_lookAt_13 rfl ?_
        refine pw_callV_i (pc := 14) cv_X5_51 dX5_lookAt_14 (by first | assumption | exact va_up_self _ _ _ | exact lk1 (by first | assumption | (apply Ne.symm; assumption) | (simp; done)) (by assumption) | exact lk1 (by first | assumption | (apply Ne.symm; assumption) | (simp; done)) (va_up_self _ _ _) | exact lk1 (by first | assumption | (apply Ne.symm; assumption) | (simp; done)) (lk1 (by first | assumption | (apply Ne.symm; assumption) | (simp; done)) (by assumption)) | exact lk1 (by first | assumption | (apply Ne.symm; assumption) | (simp; done)) (lk1 (by first | assumption | (apply Ne.symm; assumption) | (simp; done)) (va_up_self _ _ _)) | exact lk1 (by first | assumption | (apply Ne.symm; assumption) | (simp; done)) (lk1 (by first | assumption | (apply Ne.symm; assumption) | (simp; done)) (lk1 (by first | assumption | (apply Ne.symm; assumption) | (simp; done)) (by assumption))) | exact lk1 (by first | assumption | (apply Ne.symm; assumption) | (simp; done)) (lk1 (by first | assumption | (apply Ne.symm; assumption) | (simp; done)) (lk1 (by first | assumption | (apply Ne.symm; assumption) | (simp; done)) (va_up_self _ _ _))) | exact lk1 (by first | assumption | (apply Ne.symm; assumption) | (simp; done)) (lk1 (by first | assumption | (apply Ne.symm; assumption) | (simp; done)) (lk1 (by first | assumption | (apply Ne.symm; assumption) | (simp; done)) (lk1 (by first | assumption | (apply Ne.symm; assumption) | (simp; done)) (by assumption)))) | exact lk1 (by first | assumption | (apply Ne.symm; assumption) | (simp; done)) (lk1 (by first | assumption | (apply Ne.symm; assumption) | (simp; done)) (lk1 (by first | assumption | (apply Ne.symm; assumption) | (simp; done)) (lk1 (by first | assumption | (apply Ne.symm; assumption) | (simp; done)) (va_up_self _ _ _))))) rfl (c_Row_nameAt u1 (nI k)) rfl rfl (Nat.le_of_ble_eq_true rfl) ⟨(Nat.le_of_ble_eq_true rfl), (Nat.le_of_ble_eq_true rfl)⟩ ?_
        rw [nmA_in (by omega) (by omega), hg.at (by omega)]
        refine pw_ist4 (pc := 17) dX5_lookAt_17 (Nat.le_of_ble_eq_true rfl) rfl ?_
        refine pw_iload (pc := 19) dX5_lookAt_19 rfl ?_
        refine pw_callSN_i (pc := 21) csn_X5_55 dX5_lookAt_21 (c_isName _) rfl rfl (Nat.le_of_ble_eq_true rfl) ⟨(Nat.le_of_ble_eq_true rfl), (Nat.le_of_ble_eq_true rfl)⟩ ?_
        refine pw_if_eq_b (pc := 24) 45 dX5_lookAt_24 (by decide) (fun z => ?_) (fun z => ?_)
        · rw [hn] at z; cases z
        · rw [ex]
          refine pw_aload_n (pc := 27) dX5_lookAt_27 rfl ?_
          refine pw_get (pc := 28) fg_X5_9 dX5_lookAt_28 (by first | assumption | exact va_up_self _ _ _ | exact lk1 (by first | assumption | (apply Ne.symm; assumption) | (simp; done)) (by assumption) | exact lk1 (by first | assumption | (apply Ne.symm; assumption) | (simp; done)) (va_up_self _ _ _) | exact lk1 (by first | assumption | (apply Ne.symm; assumption) | (simp; done)) (lk1 (by first | assumption | (apply Ne.symm; assumption) | (simp; done)) (by assumption)) | exact lk1 (by first | assumption | (apply Ne.symm; assumption) | (simp; done)) (lk1 (by first | assumption | (apply Ne.symm; assumption) | (simp; done)) (va_up_self _ _ _)) | exact lk1 (by first | assumption | (apply Ne.symm; assumption) | (simp; done)) (lk1 (by first | assumption | (apply Ne.symm; assumption) | (simp; done)) (lk1 (by first | assumption | (apply Ne.symm; assumption) | (simp; done)) (by assumption))) | exact lk1 (by first | assumption | (apply Ne.symm; assumption) | (simp; done)) (lk1 (by first | assumption | (apply Ne.symm; assumption) | (simp; done)) (lk1 (by first | assumption | (apply Ne.symm; assumption) | (simp; done)) (va_up_self _ _ _))) | exact lk1 (by first | assumption | (apply Ne.symm; assumption) | (simp; done)) (lk1 (by first | assumption | (apply Ne.symm; assumption) | (simp; done)) (lk1 (by first | assumption | (apply Ne.symm; assumption) | (simp; done)) (lk1 (by first | assumption | (apply Ne.symm; assumption) | (simp; done)) (by assumption)))) | exact lk1 (by first | assumption | (apply Ne.symm; assumption) | (simp; done)) (lk1 (by first | assumption | (apply Ne.symm; assumption) | (simp; done)) (lk1 (by first | assumption | (apply Ne.symm; assumption) | (simp; done)) (lk1 (by first | assumption | (apply Ne.symm; assumption) | (simp; done)) (va_up_self _ _ _))))) (by first | rfl | assumption) ?_
          refine pw_iload (pc := 31) dX5_lookAt_31 rfl ?_
          refine pw_dup2 (pc := 33) dX5_lookAt_33 rfl rfl ?_
          refine pw_iald (pc := 34) (x) dX5_lookAt_34 (by first | assumption | exact va_up_self _ _ _ | exact lk1 (by first | assumption | (apply Ne.symm; assumption) | (simp; done)) (by assumption) | exact lk1 (by first | assumption | (apply Ne.symm; assumption) | (simp; done)) (va_up_self _ _ _) | exact lk1 (by first | assumption | (apply Ne.symm; assumption) | (simp; done)) (lk1 (by first | assumption | (apply Ne.symm; assumption) | (simp; done)) (by assumption)) | exact lk1 (by first | assumption | (apply Ne.symm; assumption) | (simp; done)) (lk1 (by first | assumption | (apply Ne.symm; assumption) | (simp; done)) (va_up_self _ _ _)) | exact lk1 (by first | assumption | (apply Ne.symm; assumption) | (simp; done)) (lk1 (by first | assumption | (apply Ne.symm; assumption) | (simp; done)) (lk1 (by first | assumption | (apply Ne.symm; assumption) | (simp; done)) (by assumption))) | exact lk1 (by first | assumption | (apply Ne.symm; assumption) | (simp; done)) (lk1 (by first | assumption | (apply Ne.symm; assumption) | (simp; done)) (lk1 (by first | assumption | (apply Ne.symm; assumption) | (simp; done)) (va_up_self _ _ _))) | exact lk1 (by first | assumption | (apply Ne.symm; assumption) | (simp; done)) (lk1 (by first | assumption | (apply Ne.symm; assumption) | (simp; done)) (lk1 (by first | assumption | (apply Ne.symm; assumption) | (simp; done)) (lk1 (by first | assumption | (apply Ne.symm; assumption) | (simp; done)) (by assumption)))) | exact lk1 (by first | assumption | (apply Ne.symm; assumption) | (simp; done)) (lk1 (by first | assumption | (apply Ne.symm; assumption) | (simp; done)) (lk1 (by first | assumption | (apply Ne.symm; assumption) | (simp; done)) (lk1 (by first | assumption | (apply Ne.symm; assumption) | (simp; done)) (va_up_self _ _ _))))) (by first | assumption | rfl | (simp only [nI_add, pk_mul, Nat.one_mul, Nat.mul_one, Nat.zero_add, Nat.add_zero, Nat.mul_zero]; done) | exact pk_sub (by omega) | (rw [pk_sub (by omega)]; first | done | (rw [nI_add]; done) | (rw [pk_sub (by omega)]; done) | (rw [pk_sub (by omega), nI_add]; done)) | (simp only [nI_add, pk_mul]; first | exact pk_sub (by omega) | (congr 1; omega)) | (congr 1; omega)) (by omega) (by omega) ?_
          refine pw_iload_n (pc := 35) dX5_lookAt_35 rfl ?_
          refine pw_ior (pc := 36) dX5_lookAt_36 ?_
          refine pw_iast (pc := 37) (x) dX5_lookAt_37 (by first | assumption | exact va_up_self _ _ _ | exact lk1 (by first | assumption | (apply Ne.symm; assumption) | (simp; done)) (by assumption) | exact lk1 (by first | assumption | (apply Ne.symm; assumption) | (simp; done)) (va_up_self _ _ _) | exact lk1 (by first | assumption | (apply Ne.symm; assumption) | (simp; done)) (lk1 (by first | assumption | (apply Ne.symm; assumption) | (simp; done)) (by assumption)) | exact lk1 (by first | assumption | (apply Ne.symm; assumption) | (simp; done)) (lk1 (by first | assumption | (apply Ne.symm; assumption) | (simp; done)) (va_up_self _ _ _)) | exact lk1 (by first | assumption | (apply Ne.symm; assumption) | (simp; done)) (lk1 (by first | assumption | (apply Ne.symm; assumption) | (simp; done)) (lk1 (by first | assumption | (apply Ne.symm; assumption) | (simp; done)) (by assumption))) | exact lk1 (by first | assumption | (apply Ne.symm; assumption) | (simp; done)) (lk1 (by first | assumption | (apply Ne.symm; assumption) | (simp; done)) (lk1 (by first | assumption | (apply Ne.symm; assumption) | (simp; done)) (va_up_self _ _ _))) | exact lk1 (by first | assumption | (apply Ne.symm; assumption) | (simp; done)) (lk1 (by first | assumption | (apply Ne.symm; assumption) | (simp; done)) (lk1 (by first | assumption | (apply Ne.symm; assumption) | (simp; done)) (lk1 (by first | assumption | (apply Ne.symm; assumption) | (simp; done)) (by assumption)))) | exact lk1 (by first | assumption | (apply Ne.symm; assumption) | (simp; done)) (lk1 (by first | assumption | (apply Ne.symm; assumption) | (simp; done)) (lk1 (by first | assumption | (apply Ne.symm; assumption) | (simp; done)) (lk1 (by first | assumption | (apply Ne.symm; assumption) | (simp; done)) (va_up_self _ _ _))))) (by first | assumption | rfl | (simp only [nI_add, pk_mul, Nat.one_mul, Nat.mul_one, Nat.zero_add, Nat.add_zero, Nat.mul_zero]; done) | exact pk_sub (by omega) | (rw [pk_sub (by omega)]; first | done | (rw [nI_add]; done) | (rw [pk_sub (by omega)]; done) | (rw [pk_sub (by omega), nI_add]; done)) | (simp only [nI_add, pk_mul]; first | exact pk_sub (by omega) | (congr 1; omega)) | (congr 1; omega)) (by omega) (by omega) ?_
          refine pw_iload_n (pc := 38) dX5_lookAt_38 rfl ?_
          refine pw_iconst (pc := 39) (nI 1) dX5_lookAt_39 (by decide) ?_
          refine pw_iload (pc := 40) dX5_lookAt_40 rfl ?_
          refine pw_ishl (pc := 42) dX5_lookAt_42 ?_
          refine pw_ior (pc := 43) dX5_lookAt_43 ?_
          refine pw_ist2 (pc := 44) dX5_lookAt_44 (Nat.le_of_ble_eq_true rfl) rfl ?_
          refine pw_iinc3 (pc := 45) (nI (k + 1)) dX5_lookAt_45 (Nat.le_of_ble_eq_true rfl) rfl (ni_inc _) ?_
          refine pw_goto (pc := 48) 4 dX5_lookAt_48 (by decide) ?_
          have e1 : (lkF f L (k + 1)).2 = (lkF f L k).2 ||| (nI 1 <<< (nI x &&& 31)) := by simp only [lkF]; rw [ex]; rfl
          rw [← e1]
          refine ih (k + 1) _ _ _ (by omega) (fun j hj => ?_) (va_up_self _ _ _) (fun q hq => by rw [va_up_ne _ _ hq]; exact xf q hq)
          simp only [lkF, ex2]
          by_cases e : j = x
          · subst e; rw [pk_us, pk_us, hf' _ hj]
          · rw [pk_un e, pk_un e]; exact hf' j hj
  refine PM.of [.ref s, .ref a, .null, .null, .null] rfl (Nat.le_of_ble_eq_true rfl) rfl ?_
  refine pw_iconst (pc := 0) (nI 0) dX5_lookAt_0 (by decide) ?_
  refine pw_ist2 (pc := 1) dX5_lookAt_1 (Nat.le_of_ble_eq_true rfl) rfl ?_
  refine pw_iconst (pc := 2) (nI 0) dX5_lookAt_2 (by decide) ?_
  refine pw_ist3 (pc := 3) dX5_lookAt_3 (Nat.le_of_ble_eq_true rfl) rfl ?_
  exact loop L.length 0 f0 h _ (by omega) hf0 s1 (fun _ _ => rfl)
theorem c_look {R : RecS} {r : Nat} {kp : Bool} (hs : sidP h s) (hr : recP h r kp R) (hw : wfR R) (d : r + 14 ≤ s ∨ s + 4 ≤ r) (set : Int32) : PM E mX5_look [.ref s, .ref r, .int set] h n n 0 (fun v h' => v = none ∧ sidB h' s (loF R set 4).1 (loF R set 4).2 ∧ only h h' s (s + 4)) := by
  obtain ⟨f0, g2, w3, al0, s0, s1, s2, s3⟩ := id hs
  have loop : ∀ p i h', i + p = 4 → sidB h' s (loF R set i).1 (loF R set i).2 → only h h' s (s + 4) → PW (KX E mX5_look n (fun v h' => v = none ∧ sidB h' s (loF R set 4).1 (loF R set 4).2 ∧ only h h' s (s + 4))) 15 [.ref s, .ref r, .int set, .int (nI i)] [] h' n 0 := by
    intro p
    induction p with
    | zero =>
      intro i h' hi y1 y2
      refine pw_iload_n (pc := 15) dX5_look_15 rfl ?_
      refine pw_iconst (pc := 16) (nI 4) dX5_look_16 (by decide) ?_
      refine pw_icmp_ge_n (pc := 17) 44 dX5_look_17 (by decide) (by omega) (by omega) (fun cb => ?_) (fun cb => ?_)
      · obtain rfl : i = 4 := by omega
        exact pw_vret dX5_look_44 rfl ⟨rfl, y1, y2⟩
      · omega
    | succ p ih =>
      intro i h' hi y1 y2
      have y0 := y1.1
      have hr' : recP h' r kp R := hr.on (y2.on (by omega))
      obtain ⟨r1, ⟨q, r2, r3⟩, r4, r5, r6⟩ := id hr'
      have hq := r3 i (by omega)
      refine pw_iload_n (pc := 15) dX5_look_15 rfl ?_
      refine pw_iconst (pc := 16) (nI 4) dX5_look_16 (by decide) ?_
      refine pw_icmp_ge_n (pc := 17) 44 dX5_look_17 (by decide) (by omega) (by omega) (fun cb => ?_) (fun cb => ?_)
      · omega
      · refine pw_iload_n (pc := 20) dX5_look_20 rfl ?_
        refine pw_iload_n (pc := 21) dX5_look_21 rfl ?_
        refine pw_callSN_i (pc := 22) csn_X5_32 dX5_look_22 (c_isIn set (nI i)) rfl rfl (Nat.le_of_ble_eq_true rfl) ⟨(Nat.le_of_ble_eq_true rfl), (Nat.le_of_ble_eq_true rfl)⟩ ?_
        refine pw_if_eq_b (pc := 25) 38 dX5_look_25 (by decide) (fun z => ?_) (fun z => ?_)
        · refine pw_iinc3 (pc := 38) (nI (i + 1)) dX5_look_38 (Nat.le_of_ble_eq_true rfl) rfl (ni_inc _) ?_
          refine pw_goto (pc := 41) 15 dX5_look_41 (by decide) ?_
          refine ih (i + 1) h' (by omega) ?_ y2
          rw [loF, z]; exact y1
        · refine pw_aload_n (pc := 28) dX5_look_28 rfl ?_
          refine pw_aload_n (pc := 29) dX5_look_29 rfl ?_
          refine pw_get (pc := 30) fg_X5_36 dX5_look_30 (by first | assumption | exact va_up_self _ _ _ | exact lk1 (by first | assumption | (apply Ne.symm; assumption) | (simp; done)) (by assumption) | exact lk1 (by first | assumption | (apply Ne.symm; assumption) | (simp; done)) (va_up_self _ _ _) | exact lk1 (by first | assumption | (apply Ne.symm; assumption) | (simp; done)) (lk1 (by first | assumption | (apply Ne.symm; assumption) | (simp; done)) (by assumption)) | exact lk1 (by first | assumption | (apply Ne.symm; assumption) | (simp; done)) (lk1 (by first | assumption | (apply Ne.symm; assumption) | (simp; done)) (va_up_self _ _ _)) | exact lk1 (by first | assumption | (apply Ne.symm; assumption) | (simp; done)) (lk1 (by first | assumption | (apply Ne.symm; assumption) | (simp; done)) (lk1 (by first | assumption | (apply Ne.symm; assumption) | (simp; done)) (by assumption))) | exact lk1 (by first | assumption | (apply Ne.symm; assumption) | (simp; done)) (lk1 (by first | assumption | (apply Ne.symm; assumption) | (simp; done)) (lk1 (by first | assumption | (apply Ne.symm; assumption) | (simp; done)) (va_up_self _ _ _))) | exact lk1 (by first | assumption | (apply Ne.symm; assumption) | (simp; done)) (lk1 (by first | assumption | (apply Ne.symm; assumption) | (simp; done)) (lk1 (by first | assumption | (apply Ne.symm; assumption) | (simp; done)) (lk1 (by first | assumption | (apply Ne.symm; assumption) | (simp; done)) (by assumption)))) | exact lk1 (by first | assumption | (apply Ne.symm; assumption) | (simp; done)) (lk1 (by first | assumption | (apply Ne.symm; assumption) | (simp; done)) (lk1 (by first | assumption | (apply Ne.symm; assumption) | (simp; done)) (lk1 (by first | assumption | (apply Ne.symm; assumption) | (simp; done)) (va_up_self _ _ _))))) (by first | rfl | assumption) ?_
          refine pw_iload_n (pc := 33) dX5_look_33 rfl ?_
          refine pw_aald (pc := 34) (i) dX5_look_34 (by first | assumption | exact va_up_self _ _ _ | exact lk1 (by first | assumption | (apply Ne.symm; assumption) | (simp; done)) (by assumption) | exact lk1 (by first | assumption | (apply Ne.symm; assumption) | (simp; done)) (va_up_self _ _ _) | exact lk1 (by first | assumption | (apply Ne.symm; assumption) | (simp; done)) (lk1 (by first | assumption | (apply Ne.symm; assumption) | (simp; done)) (by assumption)) | exact lk1 (by first | assumption | (apply Ne.symm; assumption) | (simp; done)) (lk1 (by first | assumption | (apply Ne.symm; assumption) | (simp; done)) (va_up_self _ _ _)) | exact lk1 (by first | assumption | (apply Ne.symm; assumption) | (simp; done)) (lk1 (by first | assumption | (apply Ne.symm; assumption) | (simp; done)) (lk1 (by first | assumption | (apply Ne.symm; assumption) | (simp; done)) (by assumption))) | exact lk1 (by first | assumption | (apply Ne.symm; assumption) | (simp; done)) (lk1 (by first | assumption | (apply Ne.symm; assumption) | (simp; done)) (lk1 (by first | assumption | (apply Ne.symm; assumption) | (simp; done)) (va_up_self _ _ _))) | exact lk1 (by first | assumption | (apply Ne.symm; assumption) | (simp; done)) (lk1 (by first | assumption | (apply Ne.symm; assumption) | (simp; done)) (lk1 (by first | assumption | (apply Ne.symm; assumption) | (simp; done)) (lk1 (by first | assumption | (apply Ne.symm; assumption) | (simp; done)) (by assumption)))) | exact lk1 (by first | assumption | (apply Ne.symm; assumption) | (simp; done)) (lk1 (by first | assumption | (apply Ne.symm; assumption) | (simp; done)) (lk1 (by first | assumption | (apply Ne.symm; assumption) | (simp; done)) (lk1 (by first | assumption | (apply Ne.symm; assumption) | (simp; done)) (va_up_self _ _ _))))) (by first | assumption | rfl | (simp only [nI_add, pk_mul, Nat.one_mul, Nat.mul_one, Nat.zero_add, Nat.add_zero, Nat.mul_zero]; done) | exact pk_sub (by omega) | (rw [pk_sub (by omega)]; first | done | (rw [nI_add]; done) | (rw [pk_sub (by omega)]; done) | (rw [pk_sub (by omega), nI_add]; done)) | (simp only [nI_add, pk_mul]; first | exact pk_sub (by omega) | (congr 1; omega)) | (congr 1; omega)) (by omega) (by omega) (by first | assumption | exact va_up_self _ _ _ | exact lk1 (by first | assumption | (apply Ne.symm; assumption) | (simp; done)) (by assumption) | exact lk1 (by first | assumption | (apply Ne.symm; assumption) | (simp; done)) (va_up_self _ _ _) | exact lk1 (by first | assumption | (apply Ne.symm; assumption) | (simp; done)) (lk1 (by first | assumption | (apply Ne.symm; assumption) | (simp; done)) (by assumption)) | exact lk1 (by first | assumption | (apply Ne.symm; assumption) | (simp; done)) (lk1 (by first | assumption | (apply Ne.symm; assumption) | (simp; done)) (va_up_self _ _ _)) | exact lk1 (by first | assumption | (apply Ne.symm; assumption) | (simp; done)) (lk1 (by first | assumption | (apply Ne.symm; assumption) | (simp; done)) (lk1 (by first | assumption | (apply Ne.symm; assumption) | (simp; done)) (by assumption))) | exact lk1 (by first | assumption | (apply Ne.symm; assumption) | (simp; done)) (lk1 (by first | assumption | (apply Ne.symm; assumption) | (simp; done)) (lk1 (by first | assumption | (apply Ne.symm; assumption) | (simp; done)) (va_up_self _ _ _))) | exact lk1 (by first | assumption | (apply Ne.symm; assumption) | (simp; done)) (lk1 (by first | assumption | (apply Ne.symm; assumption) | (simp; done)) (lk1 (by first | assumption | (apply Ne.symm; assumption) | (simp; done)) (lk1 (by first | assumption | (apply Ne.symm; assumption) | (simp; done)) (by assumption)))) | exact lk1 (by first | assumption | (apply Ne.symm; assumption) | (simp; done)) (lk1 (by first | assumption | (apply Ne.symm; assumption) | (simp; done)) (lk1 (by first | assumption | (apply Ne.symm; assumption) | (simp; done)) (lk1 (by first | assumption | (apply Ne.symm; assumption) | (simp; done)) (va_up_self _ _ _))))) ?_
          refine pw_callV (pc := 35) cv_X5_42 dX5_look_35 (by first | assumption | exact va_up_self _ _ _ | exact lk1 (by first | assumption | (apply Ne.symm; assumption) | (simp; done)) (by assumption) | exact lk1 (by first | assumption | (apply Ne.symm; assumption) | (simp; done)) (va_up_self _ _ _) | exact lk1 (by first | assumption | (apply Ne.symm; assumption) | (simp; done)) (lk1 (by first | assumption | (apply Ne.symm; assumption) | (simp; done)) (by assumption)) | exact lk1 (by first | assumption | (apply Ne.symm; assumption) | (simp; done)) (lk1 (by first | assumption | (apply Ne.symm; assumption) | (simp; done)) (va_up_self _ _ _)) | exact lk1 (by first | assumption | (apply Ne.symm; assumption) | (simp; done)) (lk1 (by first | assumption | (apply Ne.symm; assumption) | (simp; done)) (lk1 (by first | assumption | (apply Ne.symm; assumption) | (simp; done)) (by assumption))) | exact lk1 (by first | assumption | (apply Ne.symm; assumption) | (simp; done)) (lk1 (by first | assumption | (apply Ne.symm; assumption) | (simp; done)) (lk1 (by first | assumption | (apply Ne.symm; assumption) | (simp; done)) (va_up_self _ _ _))) | exact lk1 (by first | assumption | (apply Ne.symm; assumption) | (simp; done)) (lk1 (by first | assumption | (apply Ne.symm; assumption) | (simp; done)) (lk1 (by first | assumption | (apply Ne.symm; assumption) | (simp; done)) (lk1 (by first | assumption | (apply Ne.symm; assumption) | (simp; done)) (by assumption)))) | exact lk1 (by first | assumption | (apply Ne.symm; assumption) | (simp; done)) (lk1 (by first | assumption | (apply Ne.symm; assumption) | (simp; done)) (lk1 (by first | assumption | (apply Ne.symm; assumption) | (simp; done)) (lk1 (by first | assumption | (apply Ne.symm; assumption) | (simp; done)) (va_up_self _ _ _))))) rfl (c_lookAt y1 (r6 i (by omega)) (hw.1 i (by omega)).2.2 (by omega) (by omega)) rfl rfl (Nat.le_of_ble_eq_true rfl) ⟨(Nat.le_of_ble_eq_true rfl), (Nat.le_of_ble_eq_true rfl)⟩ (Nat.le_refl _) (Nat.le_refl _) (Nat.zero_le _) (fun v h' q => ?_)
          obtain ⟨rfl, y3, y4⟩ := q
          refine pw_iinc3 (pc := 38) (nI (i + 1)) dX5_look_38 (Nat.le_of_ble_eq_true rfl) rfl (ni_inc _) ?_
          refine pw_goto (pc := 41) 15 dX5_look_41 (by decide) ?_
          refine ih (i + 1) h' (by omega) ?_ (fun q hq => (y4 q (by omega) (by omega)).trans (y2 q hq))
          rw [loF, z]; exact y3
  refine PM.of [.ref s, .ref r, .int set, .null] rfl (Nat.le_of_ble_eq_true rfl) rfl ?_
  refine pw_aload_n (pc := 0) dX5_look_0 rfl ?_
  refine pw_get (pc := 1) fg_X5_9 dX5_look_1 (by first | assumption | exact va_up_self _ _ _ | exact lk1 (by first | assumption | (apply Ne.symm; assumption) | (simp; done)) (by assumption) | exact lk1 (by first | assumption | (apply Ne.symm; assumption) | (simp; done)) (va_up_self _ _ _) | exact lk1 (by first | assumption | (apply Ne.symm; assumption) | (simp; done)) (lk1 (by first | assumption | (apply Ne.symm; assumption) | (simp; done)) (by assumption)) | exact lk1 (by first | assumption | (apply Ne.symm; assumption) | (simp; done)) (lk1 (by first | assumption | (apply Ne.symm; assumption) | (simp; done)) (va_up_self _ _ _)) | exact lk1 (by first | assumption | (apply Ne.symm; assumption) | (simp; done)) (lk1 (by first | assumption | (apply Ne.symm; assumption) | (simp; done)) (lk1 (by first | assumption | (apply Ne.symm; assumption) | (simp; done)) (by assumption))) | exact lk1 (by first | assumption | (apply Ne.symm; assumption) | (simp; done)) (lk1 (by first | assumption | (apply Ne.symm; assumption) | (simp; done)) (lk1 (by first | assumption | (apply Ne.symm; assumption) | (simp; done)) (va_up_self _ _ _))) | exact lk1 (by first | assumption | (apply Ne.symm; assumption) | (simp; done)) (lk1 (by first | assumption | (apply Ne.symm; assumption) | (simp; done)) (lk1 (by first | assumption | (apply Ne.symm; assumption) | (simp; done)) (lk1 (by first | assumption | (apply Ne.symm; assumption) | (simp; done)) (by assumption)))) | exact lk1 (by first | assumption | (apply Ne.symm; assumption) | (simp; done)) (lk1 (by first | assumption | (apply Ne.symm; assumption) | (simp; done)) (lk1 (by first | assumption | (apply Ne.symm; assumption) | (simp; done)) (lk1 (by first | assumption | (apply Ne.symm; assumption) | (simp; done)) (va_up_self _ _ _))))) (by first | rfl | assumption) ?_
  refine pw_iconst (pc := 4) (nI 0) dX5_look_4 (by decide) ?_
  refine pw_callS_v (pc := 5) cs_X5_26 dX5_look_5 (c_fill s1 (by omega) (nI 0)) rfl rfl (Nat.le_of_ble_eq_true rfl) ⟨(Nat.le_of_ble_eq_true rfl), (Nat.le_of_ble_eq_true rfl)⟩ ?_
  have s0' := lk1 (v := some (.inl (0, 26, .inl (fun k => if k < 26 then nI 0 else f0 k)))) (k := s + 1) (by omega) s0
  refine pw_aload_n (pc := 8) dX5_look_8 rfl ?_
  refine pw_iconst (pc := 9) (nI 0) dX5_look_9 (by decide) ?_
  refine pw_put3 (pc := 10) fp_X5_22 dX5_look_10 (by first | assumption | exact va_up_self _ _ _ | exact lk1 (by first | assumption | (apply Ne.symm; assumption) | (simp; done)) (by assumption) | exact lk1 (by first | assumption | (apply Ne.symm; assumption) | (simp; done)) (va_up_self _ _ _) | exact lk1 (by first | assumption | (apply Ne.symm; assumption) | (simp; done)) (lk1 (by first | assumption | (apply Ne.symm; assumption) | (simp; done)) (by assumption)) | exact lk1 (by first | assumption | (apply Ne.symm; assumption) | (simp; done)) (lk1 (by first | assumption | (apply Ne.symm; assumption) | (simp; done)) (va_up_self _ _ _)) | exact lk1 (by first | assumption | (apply Ne.symm; assumption) | (simp; done)) (lk1 (by first | assumption | (apply Ne.symm; assumption) | (simp; done)) (lk1 (by first | assumption | (apply Ne.symm; assumption) | (simp; done)) (by assumption))) | exact lk1 (by first | assumption | (apply Ne.symm; assumption) | (simp; done)) (lk1 (by first | assumption | (apply Ne.symm; assumption) | (simp; done)) (lk1 (by first | assumption | (apply Ne.symm; assumption) | (simp; done)) (va_up_self _ _ _))) | exact lk1 (by first | assumption | (apply Ne.symm; assumption) | (simp; done)) (lk1 (by first | assumption | (apply Ne.symm; assumption) | (simp; done)) (lk1 (by first | assumption | (apply Ne.symm; assumption) | (simp; done)) (lk1 (by first | assumption | (apply Ne.symm; assumption) | (simp; done)) (by assumption)))) | exact lk1 (by first | assumption | (apply Ne.symm; assumption) | (simp; done)) (lk1 (by first | assumption | (apply Ne.symm; assumption) | (simp; done)) (lk1 (by first | assumption | (apply Ne.symm; assumption) | (simp; done)) (lk1 (by first | assumption | (apply Ne.symm; assumption) | (simp; done)) (va_up_self _ _ _))))) rfl rfl ?_
  refine pw_iconst (pc := 13) (nI 0) dX5_look_13 (by decide) ?_
  refine pw_ist3 (pc := 14) dX5_look_14 (Nat.le_of_ble_eq_true rfl) rfl ?_
  refine loop 4 0 _ (by omega) ⟨va_up_self _ _ _, ⟨_, lk1 (by omega) (va_up_self _ _ _), fun k hk => by rw [if_pos hk]; rfl⟩, ⟨g2, lk1 (by omega) (lk1 (by omega) s2)⟩, w3, lk1 (by omega) (lk1 (by omega) s3)⟩ ((only.up only.rfl (by omega) (by omega)).up (by omega) (by omega))
theorem c_areTooMany (hs : sidB h s f al) (ha : al.toBitVec.toNat < 2 ^ 26) : PM E mX5_areTooMany [.ref s] h n n 0 (QE (some (.int (bI (decide (12 < popN al.toBitVec.toNat 26))))) h) := by
  obtain ⟨s0, -⟩ := id hs
  have hp := popN_le al.toBitVec.toNat 26
  refine PM.of [.ref s] rfl (Nat.le_of_ble_eq_true rfl) rfl ?_
  refine pw_aload_n (pc := 0) dX5_areTooMany_0 rfl ?_
  refine pw_get (pc := 1) fg_X5_22 dX5_areTooMany_1 (by first | assumption | exact va_up_self _ _ _ | exact lk1 (by first | assumption | (apply Ne.symm; assumption) | (simp; done)) (by assumption) | exact lk1 (by first | assumption | (apply Ne.symm; assumption) | (simp; done)) (va_up_self _ _ _) | exact lk1 (by first | assumption | (apply Ne.symm; assumption) | (simp; done)) (lk1 (by first | assumption | (apply Ne.symm; assumption) | (simp; done)) (by assumption)) | exact lk1 (by first | assumption | (apply Ne.symm; assumption) | (simp; done)) (lk1 (by first | assumption | (apply Ne.symm; assumption) | (simp; done)) (va_up_self _ _ _)) | exact lk1 (by first | assumption | (apply Ne.symm; assumption) | (simp; done)) (lk1 (by first | assumption | (apply Ne.symm; assumption) | (simp; done)) (lk1 (by first | assumption | (apply Ne.symm; assumption) | (simp; done)) (by assumption))) | exact lk1 (by first | assumption | (apply Ne.symm; assumption) | (simp; done)) (lk1 (by first | assumption | (apply Ne.symm; assumption) | (simp; done)) (lk1 (by first | assumption | (apply Ne.symm; assumption) | (simp; done)) (va_up_self _ _ _))) | exact lk1 (by first | assumption | (apply Ne.symm; assumption) | (simp; done)) (lk1 (by first | assumption | (apply Ne.symm; assumption) | (simp; done)) (lk1 (by first | assumption | (apply Ne.symm; assumption) | (simp; done)) (lk1 (by first | assumption | (apply Ne.symm; assumption) | (simp; done)) (by assumption)))) | exact lk1 (by first | assumption | (apply Ne.symm; assumption) | (simp; done)) (lk1 (by first | assumption | (apply Ne.symm; assumption) | (simp; done)) (lk1 (by first | assumption | (apply Ne.symm; assumption) | (simp; done)) (lk1 (by first | assumption | (apply Ne.symm; assumption) | (simp; done)) (va_up_self _ _ _))))) (by first | rfl | assumption) ?_
  refine pw_callS_i (pc := 4) cs_X5_59 dX5_areTooMany_4 (c_bitCount al) rfl rfl (Nat.le_of_ble_eq_true rfl) ⟨(Nat.le_of_ble_eq_true rfl), (Nat.le_of_ble_eq_true rfl)⟩ ?_
  rw [bcI_pop ha, onesF_pop al 26 (by omega)]
  refine pw_bipush (pc := 7) (nI 12) dX5_areTooMany_7 (by decide) ?_
  refine pw_icmp_le_n (pc := 9) 16 dX5_areTooMany_9 (by decide) (by omega) (by omega) (fun cb => ?_) (fun cb => ?_)
  · refine pw_iconst (pc := 16) (nI 0) dX5_areTooMany_16 (by decide) ?_
    exact pw_zret dX5_areTooMany_17 rfl (by decide) ⟨bI_e0 (decide_eq_false (by omega)) (by decide), rfl⟩
  · refine pw_iconst (pc := 12) (nI 1) dX5_areTooMany_12 (by decide) ?_
    refine pw_goto (pc := 13) 17 dX5_areTooMany_13 (by decide) ?_
    exact pw_zret dX5_areTooMany_17 rfl (by decide) ⟨bI_e (decide_eq_true (by omega)) (by decide), rfl⟩
theorem c_nx (hs : sidB h s f al) (p : Int32) : PM E mX5_withAllThatCanBeNext [.ref s, .int p] h n n 0 (QE (some (.int (nxF f al p 26))) h) := by
  obtain ⟨s0, ⟨f0, s1, hf0⟩, -⟩ := id hs
  have loop : ∀ j k, k + j = 26 → PW (KX E mX5_withAllThatCanBeNext n (QE (some (.int (nxF f al p 26))) h)) 4 [.ref s, .int p, .int (nxF f al p k), .int (nI k)] [] h n 0 := by
    intro j
    induction j with
    | zero =>
      intro k hk
      refine pw_iload_n (pc := 4) dX5_withAllThatCanBeNext_4 rfl ?_
      refine pw_bipush (pc := 5) (nI 26) dX5_withAllThatCanBeNext_5 (by decide) ?_
      refine pw_icmp_ge_n (pc := 7) 46 dX5_withAllThatCanBeNext_7 (by decide) (by omega) (by omega) (fun cb => ?_) (fun cb => ?_)
      · obtain rfl : k = 26 := by omega
        refine pw_iload_n (pc := 46) dX5_withAllThatCanBeNext_46 rfl ?_
        exact pw_iret dX5_withAllThatCanBeNext_47 rfl ⟨rfl, rfl⟩
      · omega
    | succ j ih =>
      intro k hk
      have skip : ¬ (inB al (nI k) = true ∧ f k &&& (p ^^^ -1) = 0) → PW (KX E mX5_withAllThatCanBeNext n (QE (some (.int (nxF f al p 26))) h)) 40 [.ref s, .int p, .int (nxF f al p k), .int (nI k)] [] h n 0 := by
        intro hno
        refine pw_iinc3 (pc := 40) (nI (k + 1)) dX5_withAllThatCanBeNext_40 (Nat.le_of_ble_eq_true rfl) rfl (ni_inc _) ?_
        refine pw_goto (pc := 43) 4 dX5_withAllThatCanBeNext_43 (by decide) ?_
        have := ih (k + 1) (by omega)
        rw [show nxF f al p (k + 1) = nxF f al p k from if_neg hno] at this
        exact this
      refine pw_iload_n (pc := 4) dX5_withAllThatCanBeNext_4 rfl ?_
      refine pw_bipush (pc := 5) (nI 26) dX5_withAllThatCanBeNext_5 (by decide) ?_
      refine pw_icmp_ge_n (pc := 7) 46 dX5_withAllThatCanBeNext_7 (by decide) (by omega) (by omega) (fun cb => ?_) (fun cb => ?_)
      · omega
      · refine pw_aload_n (pc := 10) dX5_withAllThatCanBeNext_10 rfl ?_
        refine pw_get (pc := 11) fg_X5_22 dX5_withAllThatCanBeNext_11 (by first | assumption | exact va_up_self _ _ _ | exact lk1 (by first | assumption | (apply Ne.symm; assumption) | (simp; done)) (by assumption) | exact lk1 (by first | assumption | (apply Ne.symm; assumption) | (simp; done)) (va_up_self _ _ _) | exact lk1 (by first | assumption | (apply Ne.symm; assumption) | (simp; done)) (lk1 (by first | assumption | (apply Ne.symm; assumption) | (simp; done)) (by assumption)) | exact lk1 (by first | assumption | (apply Ne.symm; assumption) | (simp; done)) (lk1 (by first | assumption | (apply Ne.symm; assumption) | (simp; done)) (va_up_self _ _ _)) | exact lk1 (by first | assumption | (apply Ne.symm; assumption) | (simp; done)) (lk1 (by first | assumption | (apply Ne.symm; assumption) | (simp; done)) (lk1 (by first | assumption | (apply Ne.symm; assumption) | (simp; done)) (by assumption))) | exact lk1 (by first | assumption | (apply Ne.symm; assumption) | (simp; done)) (lk1 (by first | assumption | (apply Ne.symm; assumption) | (simp; done)) (lk1 (by first | assumption | (apply Ne.symm; assumption) | (simp; done)) (va_up_self _ _ _))) | exact lk1 (by first | assumption | (apply Ne.symm; assumption) | (simp; done)) (lk1 (by first | assumption | (apply Ne.symm; assumption) | (simp; done)) (lk1 (by first | assumption | (apply Ne.symm; assumption) | (simp; done)) (lk1 (by first | assumption | (apply Ne.symm; assumption) | (simp; done)) (by assumption)))) | exact lk1 (by first | assumption | (apply Ne.symm; assumption) | (simp; done)) (lk1 (by first | assumption | (apply Ne.symm; assumption) | (simp; done)) (lk1 (by first | assumption | (apply Ne.symm; assumption) | (simp; done)) (lk1 (by first | assumption | (apply Ne.symm; assumption) | (simp; done)) (va_up_self _ _ _))))) (by first | rfl | assumption) ?_
        refine pw_iload_n (pc := 14) dX5_withAllThatCanBeNext_14 rfl ?_
        refine pw_callSN_i (pc := 15) csn_X5_32 dX5_withAllThatCanBeNext_15 (c_isIn al (nI k)) rfl rfl (Nat.le_of_ble_eq_true rfl) ⟨(Nat.le_of_ble_eq_true rfl), (Nat.le_of_ble_eq_true rfl)⟩ ?_
        refine pw_if_eq_b (pc := 18) 40 dX5_withAllThatCanBeNext_18 (by decide) (fun z => ?_) (fun z => ?_)
        · exact skip (fun q => by rw [z] at q; cases q.1)
        · refine pw_aload_n (pc := 21) dX5_withAllThatCanBeNext_21 rfl ?_
          refine pw_get (pc := 22) fg_X5_9 dX5_withAllThatCanBeNext_22 (by first | assumption | exact va_up_self _ _ _ | exact lk1 (by first | assumption | (apply Ne.symm; assumption) | (simp; done)) (by assumption) | exact lk1 (by first | assumption | (apply Ne.symm; assumption) | (simp; done)) (va_up_self _ _ _) | exact lk1 (by first | assumption | (apply Ne.symm; assumption) | (simp; done)) (lk1 (by first | assumption | (apply Ne.symm; assumption) | (simp; done)) (by assumption)) | exact lk1 (by first | assumption | (apply Ne.symm; assumption) | (simp; done)) (lk1 (by first | assumption | (apply Ne.symm; assumption) | (simp; done)) (va_up_self _ _ _)) | exact lk1 (by first | assumption | (apply Ne.symm; assumption) | (simp; done)) (lk1 (by first | assumption | (apply Ne.symm; assumption) | (simp; done)) (lk1 (by first | assumption | (apply Ne.symm; assumption) | (simp; done)) (by assumption))) | exact lk1 (by first | assumption | (apply Ne.symm; assumption) | (simp; done)) (lk1 (by first | assumption | (apply Ne.symm; assumption) | (simp; done)) (lk1 (by first | assumption | (apply Ne.symm; assumption) | (simp; done)) (va_up_self _ _ _))) | exact lk1 (by first | assumption | (apply Ne.symm; assumption) | (simp; done)) (lk1 (by first | assumption | (apply Ne.symm; assumption) | (simp; done)) (lk1 (by first | assumption | (apply Ne.symm; assumption) | (simp; done)) (lk1 (by first | assumption | (apply Ne.symm; assumption) | (simp; done)) (by assumption)))) | exact lk1 (by first | assumption | (apply Ne.symm; assumption) | (simp; done)) (lk1 (by first | assumption | (apply Ne.symm; assumption) | (simp; done)) (lk1 (by first | assumption | (apply Ne.symm; assumption) | (simp; done)) (lk1 (by first | assumption | (apply Ne.symm; assumption) | (simp; done)) (va_up_self _ _ _))))) (by first | rfl | assumption) ?_
          refine pw_iload_n (pc := 25) dX5_withAllThatCanBeNext_25 rfl ?_
          refine pw_iald (pc := 26) (k) dX5_withAllThatCanBeNext_26 (by first | assumption | exact va_up_self _ _ _ | exact lk1 (by first | assumption | (apply Ne.symm; assumption) | (simp; done)) (by assumption) | exact lk1 (by first | assumption | (apply Ne.symm; assumption) | (simp; done)) (va_up_self _ _ _) | exact lk1 (by first | assumption | (apply Ne.symm; assumption) | (simp; done)) (lk1 (by first | assumption | (apply Ne.symm; assumption) | (simp; done)) (by assumption)) | exact lk1 (by first | assumption | (apply Ne.symm; assumption) | (simp; done)) (lk1 (by first | assumption | (apply Ne.symm; assumption) | (simp; done)) (va_up_self _ _ _)) | exact lk1 (by first | assumption | (apply Ne.symm; assumption) | (simp; done)) (lk1 (by first | assumption | (apply Ne.symm; assumption) | (simp; done)) (lk1 (by first | assumption | (apply Ne.symm; assumption) | (simp; done)) (by assumption))) | exact lk1 (by first | assumption | (apply Ne.symm; assumption) | (simp; done)) (lk1 (by first | assumption | (apply Ne.symm; assumption) | (simp; done)) (lk1 (by first | assumption | (apply Ne.symm; assumption) | (simp; done)) (va_up_self _ _ _))) | exact lk1 (by first | assumption | (apply Ne.symm; assumption) | (simp; done)) (lk1 (by first | assumption | (apply Ne.symm; assumption) | (simp; done)) (lk1 (by first | assumption | (apply Ne.symm; assumption) | (simp; done)) (lk1 (by first | assumption | (apply Ne.symm; assumption) | (simp; done)) (by assumption)))) | exact lk1 (by first | assumption | (apply Ne.symm; assumption) | (simp; done)) (lk1 (by first | assumption | (apply Ne.symm; assumption) | (simp; done)) (lk1 (by first | assumption | (apply Ne.symm; assumption) | (simp; done)) (lk1 (by first | assumption | (apply Ne.symm; assumption) | (simp; done)) (va_up_self _ _ _))))) (by first | assumption | rfl | (simp only [nI_add, pk_mul, Nat.one_mul, Nat.mul_one, Nat.zero_add, Nat.add_zero, Nat.mul_zero]; done) | exact pk_sub (by omega) | (rw [pk_sub (by omega)]; first | done | (rw [nI_add]; done) | (rw [pk_sub (by omega)]; done) | (rw [pk_sub (by omega), nI_add]; done)) | (simp only [nI_add, pk_mul]; first | exact pk_sub (by omega) | (congr 1; omega)) | (congr 1; omega)) (by omega) (by omega) ?_
          refine pw_iload_n (pc := 27) dX5_withAllThatCanBeNext_27 rfl ?_
          refine pw_iconst (pc := 28) (-1) dX5_withAllThatCanBeNext_28 (by decide) ?_
          refine pw_ixor (pc := 29) dX5_withAllThatCanBeNext_29 ?_
          refine pw_iand (pc := 30) dX5_withAllThatCanBeNext_30 ?_
          rw [hf0 k (by omega)]
          refine pw_if_ne (pc := 31) 40 dX5_withAllThatCanBeNext_31 (by decide) (fun y => ?_) (fun y => ?_)
          · exact skip (fun q => y q.2)
          · refine pw_iload_n (pc := 34) dX5_withAllThatCanBeNext_34 rfl ?_
            refine pw_iconst (pc := 35) (nI 1) dX5_withAllThatCanBeNext_35 (by decide) ?_
            refine pw_iload_n (pc := 36) dX5_withAllThatCanBeNext_36 rfl ?_
            refine pw_ishl (pc := 37) dX5_withAllThatCanBeNext_37 ?_
            refine pw_ior (pc := 38) dX5_withAllThatCanBeNext_38 ?_
            refine pw_ist2 (pc := 39) dX5_withAllThatCanBeNext_39 (Nat.le_of_ble_eq_true rfl) rfl ?_
            refine pw_iinc3 (pc := 40) (nI (k + 1)) dX5_withAllThatCanBeNext_40 (Nat.le_of_ble_eq_true rfl) rfl (ni_inc _) ?_
            refine pw_goto (pc := 43) 4 dX5_withAllThatCanBeNext_43 (by decide) ?_
            have := ih (k + 1) (by omega)
            rw [show nxF f al p (k + 1) = nxF f al p k ||| bit1 (nI k) from if_pos ⟨z, y⟩] at this
            exact this
  refine PM.of [.ref s, .int p, .null, .null] rfl (Nat.le_of_ble_eq_true rfl) rfl ?_
  refine pw_iload_n (pc := 0) dX5_withAllThatCanBeNext_0 rfl ?_
  refine pw_ist2 (pc := 1) dX5_withAllThatCanBeNext_1 (Nat.le_of_ble_eq_true rfl) rfl ?_
  refine pw_iconst (pc := 2) (nI 0) dX5_withAllThatCanBeNext_2 (by decide) ?_
  refine pw_ist3 (pc := 3) dX5_withAllThatCanBeNext_3 (Nat.le_of_ble_eq_true rfl) rfl ?_
  exact loop 26 0 (by omega)
theorem c_haveOrder (hs : sidB h s f al) : PM E mX5_haveOrder [.ref s] h n n 0 (QE (some (.int (bI (hoF f al 26 (nI 0))))) h) := by
  obtain ⟨s0, -⟩ := id hs
  have fin : ∀ p w2 w3, decide (p = al) = hoF f al 26 (nI 0) → PW (KX E mX5_haveOrder n (QE (some (.int (bI (hoF f al 26 (nI 0))))) h)) 39 [.ref s, .int p, w2, w3] [] h n 0 := by
    intro p w2 w3 e
    refine pw_iload_n (pc := 39) dX5_haveOrder_39 rfl ?_
    refine pw_aload_n (pc := 40) dX5_haveOrder_40 rfl ?_
    refine pw_get (pc := 41) fg_X5_22 dX5_haveOrder_41 (by first | assumption | exact va_up_self _ _ _ | exact lk1 (by first | assumption | (apply Ne.symm; assumption) | (simp; done)) (by assumption) | exact lk1 (by first | assumption | (apply Ne.symm; assumption) | (simp; done)) (va_up_self _ _ _) | exact lk1 (by first | assumption | (apply Ne.symm; assumption) | (simp; done)) (lk1 (by first | assumption | (apply Ne.symm; assumption) | (simp; done)) (by assumption)) | exact lk1 (by first | assumption | (apply Ne.symm; assumption) | (simp; done)) (lk1 (by first | assumption | (apply Ne.symm; assumption) | (simp; done)) (va_up_self _ _ _)) | exact lk1 (by first | assumption | (apply Ne.symm; assumption) | (simp; done)) (lk1 (by first | assumption | (apply Ne.symm; assumption) | (simp; done)) (lk1 (by first | assumption | (apply Ne.symm; assumption) | (simp; done)) (by assumption))) | exact lk1 (by first | assumption | (apply Ne.symm; assumption) | (simp; done)) (lk1 (by first | assumption | (apply Ne.symm; assumption) | (simp; done)) (lk1 (by first | assumption | (apply Ne.symm; assumption) | (simp; done)) (va_up_self _ _ _))) | exact lk1 (by first | assumption | (apply Ne.symm; assumption) | (simp; done)) (lk1 (by first | assumption | (apply Ne.symm; assumption) | (simp; done)) (lk1 (by first | assumption | (apply Ne.symm; assumption) | (simp; done)) (lk1 (by first | assumption | (apply Ne.symm; assumption) | (simp; done)) (by assumption)))) | exact lk1 (by first | assumption | (apply Ne.symm; assumption) | (simp; done)) (lk1 (by first | assumption | (apply Ne.symm; assumption) | (simp; done)) (lk1 (by first | assumption | (apply Ne.symm; assumption) | (simp; done)) (lk1 (by first | assumption | (apply Ne.symm; assumption) | (simp; done)) (va_up_self _ _ _))))) (by first | rfl | assumption) ?_
    refine pw_icmp_ne (pc := 44) 51 dX5_haveOrder_44 (by decide) (fun y => ?_) (fun y => ?_)
    · refine pw_iconst (pc := 51) (nI 0) dX5_haveOrder_51 (by decide) ?_
      exact pw_zret dX5_haveOrder_52 rfl (by decide) ⟨by rw [← e, decide_eq_false y]; rfl, rfl⟩
    · refine pw_iconst (pc := 47) (nI 1) dX5_haveOrder_47 (by decide) ?_
      refine pw_goto (pc := 48) 52 dX5_haveOrder_48 (by decide) ?_
      exact pw_zret dX5_haveOrder_52 rfl (by decide) ⟨by rw [← e, decide_eq_true y]; rfl, rfl⟩
  have loop : ∀ j k p w3, k + j = 26 → hoF f al j p = hoF f al 26 (nI 0) → PW (KX E mX5_haveOrder n (QE (some (.int (bI (hoF f al 26 (nI 0))))) h)) 4 [.ref s, .int p, .int (nI k), w3] [] h n 0 := by
    intro j
    induction j with
    | zero =>
      intro k p w3 hk e
      refine pw_iload_n (pc := 4) dX5_haveOrder_4 rfl ?_
      refine pw_bipush (pc := 5) (nI 26) dX5_haveOrder_5 (by decide) ?_
      refine pw_icmp_ge_n (pc := 7) 39 dX5_haveOrder_7 (by decide) (by omega) (by omega) (fun cb => ?_) (fun cb => ?_)
      · exact fin p _ _ e
      · omega
    | succ j ih =>
      intro k p w3 hk e
      rw [hoF] at e
      refine pw_iload_n (pc := 4) dX5_haveOrder_4 rfl ?_
      refine pw_bipush (pc := 5) (nI 26) dX5_haveOrder_5 (by decide) ?_
      refine pw_icmp_ge_n (pc := 7) 39 dX5_haveOrder_7 (by decide) (by omega) (by omega) (fun cb => ?_) (fun cb => ?_)
      · omega
      · refine pw_iload_n (pc := 10) dX5_haveOrder_10 rfl ?_
        refine pw_aload_n (pc := 11) dX5_haveOrder_11 rfl ?_
        refine pw_get (pc := 12) fg_X5_22 dX5_haveOrder_12 (by first | assumption | exact va_up_self _ _ _ | exact lk1 (by first | assumption | (apply Ne.symm; assumption) | (simp; done)) (by assumption) | exact lk1 (by first | assumption | (apply Ne.symm; assumption) | (simp; done)) (va_up_self _ _ _) | exact lk1 (by first | assumption | (apply Ne.symm; assumption) | (simp; done)) (lk1 (by first | assumption | (apply Ne.symm; assumption) | (simp; done)) (by assumption)) | exact lk1 (by first | assumption | (apply Ne.symm; assumption) | (simp; done)) (lk1 (by first | assumption | (apply Ne.symm; assumption) | (simp; done)) (va_up_self _ _ _)) | exact lk1 (by first | assumption | (apply Ne.symm; assumption) | (simp; done)) (lk1 (by first | assumption | (apply Ne.symm; assumption) | (simp; done)) (lk1 (by first | assumption | (apply Ne.symm; assumption) | (simp; done)) (by assumption))) | exact lk1 (by first | assumption | (apply Ne.symm; assumption) | (simp; done)) (lk1 (by first | assumption | (apply Ne.symm; assumption) | (simp; done)) (lk1 (by first | assumption | (apply Ne.symm; assumption) | (simp; done)) (va_up_self _ _ _))) | exact lk1 (by first | assumption | (apply Ne.symm; assumption) | (simp; done)) (lk1 (by first | assumption | (apply Ne.symm; assumption) | (simp; done)) (lk1 (by first | assumption | (apply Ne.symm; assumption) | (simp; done)) (lk1 (by first | assumption | (apply Ne.symm; assumption) | (simp; done)) (by assumption)))) | exact lk1 (by first | assumption | (apply Ne.symm; assumption) | (simp; done)) (lk1 (by first | assumption | (apply Ne.symm; assumption) | (simp; done)) (lk1 (by first | assumption | (apply Ne.symm; assumption) | (simp; done)) (lk1 (by first | assumption | (apply Ne.symm; assumption) | (simp; done)) (va_up_self _ _ _))))) (by first | rfl | assumption) ?_
        refine pw_icmp_eq (pc := 15) 39 dX5_haveOrder_15 (by decide) (fun y => ?_) (fun y => ?_)
        · exact fin p _ _ (by rw [← e, if_pos y]; exact decide_eq_true y)
        · rw [if_neg y] at e
          refine pw_aload_n (pc := 18) dX5_haveOrder_18 rfl ?_
          refine pw_iload_n (pc := 19) dX5_haveOrder_19 rfl ?_
          refine pw_callV_i (pc := 20) cv_X5_64 dX5_haveOrder_20 (by first | assumption | exact va_up_self _ _ _ | exact lk1 (by first | assumption | (apply Ne.symm; assumption) | (simp; done)) (by assumption) | exact lk1 (by first | assumption | (apply Ne.symm; assumption) | (simp; done)) (va_up_self _ _ _) | exact lk1 (by first | assumption | (apply Ne.symm; assumption) | (simp; done)) (lk1 (by first | assumption | (apply Ne.symm; assumption) | (simp; done)) (by assumption)) | exact lk1 (by first | assumption | (apply Ne.symm; assumption) | (simp; done)) (lk1 (by first | assumption | (apply Ne.symm; assumption) | (simp; done)) (va_up_self _ _ _)) | exact lk1 (by first | assumption | (apply Ne.symm; assumption) | (simp; done)) (lk1 (by first | assumption | (apply Ne.symm; assumption) | (simp; done)) (lk1 (by first | assumption | (apply Ne.symm; assumption) | (simp; done)) (by assumption))) | exact lk1 (by first | assumption | (apply Ne.symm; assumption) | (simp; done)) (lk1 (by first | assumption | (apply Ne.symm; assumption) | (simp; done)) (lk1 (by first | assumption | (apply Ne.symm; assumption) | (simp; done)) (va_up_self _ _ _))) | exact lk1 (by first | assumption | (apply Ne.symm; assumption) | (simp; done)) (lk1 (by first | assumption | (apply Ne.symm; assumption) | (simp; done)) (lk1 (by first | assumption | (apply Ne.symm; assumption) | (simp; done)) (lk1 (by first | assumption | (apply Ne.symm; assumption) | (simp; done)) (by assumption)))) | exact lk1 (by first | assumption | (apply Ne.symm; assumption) | (simp; done)) (lk1 (by first | assumption | (apply Ne.symm; assumption) | (simp; done)) (lk1 (by first | assumption | (apply Ne.symm; assumption) | (simp; done)) (lk1 (by first | assumption | (apply Ne.symm; assumption) | (simp; done)) (va_up_self _ _ _))))) rfl (c_nx hs p) rfl rfl (Nat.le_of_ble_eq_true rfl) ⟨(Nat.le_of_ble_eq_true rfl), (Nat.le_of_ble_eq_true rfl)⟩ ?_
          refine pw_ist3 (pc := 23) dX5_haveOrder_23 (Nat.le_of_ble_eq_true rfl) rfl ?_
          refine pw_iload_n (pc := 24) dX5_haveOrder_24 rfl ?_
          refine pw_iload_n (pc := 25) dX5_haveOrder_25 rfl ?_
          refine pw_icmp_ne (pc := 26) 31 dX5_haveOrder_26 (by decide) (fun y2 => ?_) (fun y2 => ?_)
          · rw [if_neg y2] at e
            refine pw_iload_n (pc := 31) dX5_haveOrder_31 rfl ?_
            refine pw_ist1 (pc := 32) dX5_haveOrder_32 (Nat.le_of_ble_eq_true rfl) rfl ?_
            refine pw_iinc2 (pc := 33) (nI (k + 1)) dX5_haveOrder_33 (Nat.le_of_ble_eq_true rfl) rfl (ni_inc _) ?_
            refine pw_goto (pc := 36) 4 dX5_haveOrder_36 (by decide) ?_
            exact ih (k + 1) _ _ (by omega) e
          · rw [if_pos y2] at e
            refine pw_iconst (pc := 29) (nI 0) dX5_haveOrder_29 (by decide) ?_
            exact pw_zret dX5_haveOrder_30 rfl (by decide) ⟨by rw [← e]; rfl, rfl⟩
  refine PM.of [.ref s, .null, .null, .null] rfl (Nat.le_of_ble_eq_true rfl) rfl ?_
  refine pw_iconst (pc := 0) (nI 0) dX5_haveOrder_0 (by decide) ?_
  refine pw_ist1 (pc := 1) dX5_haveOrder_1 (Nat.le_of_ble_eq_true rfl) rfl ?_
  refine pw_iconst (pc := 2) (nI 0) dX5_haveOrder_2 (by decide) ?_
  refine pw_ist2 (pc := 3) dX5_haveOrder_3 (Nat.le_of_ble_eq_true rfl) rfl ?_
  exact loop 26 0 (nI 0) _ (by omega) rfl
theorem c_wa (hs : sidB h s f al) (p : Int32) : PM E mX5_withAllAhead [.ref s, .int p] h n n 0 (QE (some (.int (waF f p 26))) h) := by
  obtain ⟨s0, ⟨f0, s1, hf0⟩, -⟩ := id hs
  have loop : ∀ j k, k + j = 26 → PW (KX E mX5_withAllAhead n (QE (some (.int (waF f p 26))) h)) 4 [.ref s, .int p, .int (waF f p k), .int (nI k)] [] h n 0 := by
    intro j
    induction j with
    | zero =>
      intro k hk
      refine pw_iload_n (pc := 4) dX5_withAllAhead_4 rfl ?_
      refine pw_bipush (pc := 5) (nI 26) dX5_withAllAhead_5 (by decide) ?_
      refine pw_icmp_ge_n (pc := 7) 33 dX5_withAllAhead_7 (by decide) (by omega) (by omega) (fun cb => ?_) (fun cb => ?_)
      · obtain rfl : k = 26 := by omega
        refine pw_iload_n (pc := 33) dX5_withAllAhead_33 rfl ?_
        exact pw_iret dX5_withAllAhead_34 rfl ⟨rfl, rfl⟩
      · omega
    | succ j ih =>
      intro k hk
      refine pw_iload_n (pc := 4) dX5_withAllAhead_4 rfl ?_
      refine pw_bipush (pc := 5) (nI 26) dX5_withAllAhead_5 (by decide) ?_
      refine pw_icmp_ge_n (pc := 7) 33 dX5_withAllAhead_7 (by decide) (by omega) (by omega) (fun cb => ?_) (fun cb => ?_)
      · omega
      · refine pw_iload_n (pc := 10) dX5_withAllAhead_10 rfl ?_
        refine pw_iload_n (pc := 11) dX5_withAllAhead_11 rfl ?_
        refine pw_callSN_i (pc := 12) csn_X5_32 dX5_withAllAhead_12 (c_isIn p (nI k)) rfl rfl (Nat.le_of_ble_eq_true rfl) ⟨(Nat.le_of_ble_eq_true rfl), (Nat.le_of_ble_eq_true rfl)⟩ ?_
        have := ih (k + 1) (by omega)
        refine pw_if_eq_b (pc := 15) 27 dX5_withAllAhead_15 (by decide) (fun z => ?_) (fun z => ?_)
        · rw [show waF f p (k + 1) = waF f p k from if_neg (by rw [z]; simp)] at this
          refine pw_iinc3 (pc := 27) (nI (k + 1)) dX5_withAllAhead_27 (Nat.le_of_ble_eq_true rfl) rfl (ni_inc _) ?_
          refine pw_goto (pc := 30) 4 dX5_withAllAhead_30 (by decide) ?_
          exact this
        · rw [show waF f p (k + 1) = waF f p k ||| f k from if_pos z] at this
          refine pw_iload_n (pc := 18) dX5_withAllAhead_18 rfl ?_
          refine pw_aload_n (pc := 19) dX5_withAllAhead_19 rfl ?_
          refine pw_get (pc := 20) fg_X5_9 dX5_withAllAhead_20 (by first | assumption | exact va_up_self _ _ _ | exact lk1 (by first | assumption | (apply Ne.symm; assumption) | (simp; done)) (by assumption) | exact lk1 (by first | assumption | (apply Ne.symm; assumption) | (simp; done)) (va_up_self _ _ _) | exact lk1 (by first | assumption | (apply Ne.symm; assumption) | (simp; done)) (lk1 (by first | assumption | (apply Ne.symm; assumption) | (simp; done)) (by assumption)) | exact lk1 (by first | assumption | (apply Ne.symm; assumption) | (simp; done)) (lk1 (by first | assumption | (apply Ne.symm; assumption) | (simp; done)) (va_up_self _ _ _)) | exact lk1 (by first | assumption | (apply Ne.symm; assumption) | (simp; done)) (lk1 (by first | assumption | (apply Ne.symm; assumption) | (simp; done)) (lk1 (by first | assumption | (apply Ne.symm; assumption) | (simp; done)) (by assumption))) | exact lk1 (by first | assumption | (apply Ne.symm; assumption) | (simp; done)) (lk1 (by first | assumption | (apply Ne.symm; assumption) | (simp; done)) (lk1 (by first | assumption | (apply Ne.symm; assumption) | (simp; done)) (va_up_self _ _ _))) | exact lk1 (by first | assumption | (apply Ne.symm; assumption) | (simp; done)) (lk1 (by first | assumption | (apply Ne.symm; assumption) | (simp; done)) (lk1 (by first | assumption | (apply Ne.symm; assumption) | (simp; done)) (lk1 (by first | assumption | (apply Ne.symm; assumption) | (simp; done)) (by assumption)))) | exact lk1 (by first | assumption | (apply Ne.symm; assumption) | (simp; done)) (lk1 (by first | assumption | (apply Ne.symm; assumption) | (simp; done)) (lk1 (by first | assumption | (apply Ne.symm; assumption) | (simp; done)) (lk1 (by first | assumption | (apply Ne.symm; assumption) | (simp; done)) (va_up_self _ _ _))))) (by first | rfl | assumption) ?_
          refine pw_iload_n (pc := 23) dX5_withAllAhead_23 rfl ?_
          refine pw_iald (pc := 24) (k) dX5_withAllAhead_24 (by first | assumption | exact va_up_self _ _ _ | exact lk1 (by first | assumption | (apply Ne.symm; assumption) | (simp; done)) (by assumption) | exact lk1 (by first | assumption | (apply Ne.symm; assumption) | (simp; done)) (va_up_self _ _ _) | exact lk1 (by first | assumption | (apply Ne.symm; assumption) | (simp; done)) (lk1 (by first | assumption | (apply Ne.symm; assumption) | (simp; done)) (by assumption)) | exact lk1 (by first | assumption | (apply Ne.symm; assumption) | (simp; done)) (lk1 (by first | assumption | (apply Ne.symm; assumption) | (simp; done)) (va_up_self _ _ _)) | exact lk1 (by first | assumption | (apply Ne.symm; assumption) | (simp; done)) (lk1 (by first | assumption | (apply Ne.symm; assumption) | (simp; done)) (lk1 (by first | assumption | (apply Ne.symm; assumption) | (simp; done)) (by assumption))) | exact lk1 (by first | assumption | (apply Ne.symm; assumption) | (simp; done)) (lk1 (by first | assumption | (apply Ne.symm; assumption) | (simp; done)) (lk1 (by first | assumption | (apply Ne.symm; assumption) | (simp; done)) (va_up_self _ _ _))) | exact lk1 (by first | assumption | (apply Ne.symm; assumption) | (simp; done)) (lk1 (by first | assumption | (apply Ne.symm; assumption) | (simp; done)) (lk1 (by first | assumption | (apply Ne.symm; assumption) | (simp; done)) (lk1 (by first | assumption | (apply Ne.symm; assumption) | (simp; done)) (by assumption)))) | exact lk1 (by first | assumption | (apply Ne.symm; assumption) | (simp; done)) (lk1 (by first | assumption | (apply Ne.symm; assumption) | (simp; done)) (lk1 (by first | assumption | (apply Ne.symm; assumption) | (simp; done)) (lk1 (by first | assumption | (apply Ne.symm; assumption) | (simp; done)) (va_up_self _ _ _))))) (by first | assumption | rfl | (simp only [nI_add, pk_mul, Nat.one_mul, Nat.mul_one, Nat.zero_add, Nat.add_zero, Nat.mul_zero]; done) | exact pk_sub (by omega) | (rw [pk_sub (by omega)]; first | done | (rw [nI_add]; done) | (rw [pk_sub (by omega)]; done) | (rw [pk_sub (by omega), nI_add]; done)) | (simp only [nI_add, pk_mul]; first | exact pk_sub (by omega) | (congr 1; omega)) | (congr 1; omega)) (by omega) (by omega) ?_
          rw [hf0 k (by omega)]
          refine pw_ior (pc := 25) dX5_withAllAhead_25 ?_
          refine pw_ist2 (pc := 26) dX5_withAllAhead_26 (Nat.le_of_ble_eq_true rfl) rfl ?_
          refine pw_iinc3 (pc := 27) (nI (k + 1)) dX5_withAllAhead_27 (Nat.le_of_ble_eq_true rfl) rfl (ni_inc _) ?_
          refine pw_goto (pc := 30) 4 dX5_withAllAhead_30 (by decide) ?_
          exact this
  refine PM.of [.ref s, .int p, .null, .null] rfl (Nat.le_of_ble_eq_true rfl) rfl ?_
  refine pw_iload_n (pc := 0) dX5_withAllAhead_0 rfl ?_
  refine pw_ist2 (pc := 1) dX5_withAllAhead_1 (Nat.le_of_ble_eq_true rfl) rfl ?_
  refine pw_iconst (pc := 2) (nI 0) dX5_withAllAhead_2 (by decide) ?_
  refine pw_ist3 (pc := 3) dX5_withAllAhead_3 (Nat.le_of_ble_eq_true rfl) rfl ?_
  exact loop 26 0 (by omega)
theorem c_allAheadOf (hs : sidB h s f al) (x : Nat) (hx : x < 26) : PM E mX5_allAheadOf [.ref s, .int (nI x)] h n n 0 (QE (some (.int (aaF f 26 (f x)))) h) := by
  obtain ⟨s0, ⟨f0, s1, hf0⟩, -⟩ := id hs
  have loop : ∀ j k p w4, k + j = 26 → aaF f j p = aaF f 26 (f x) → PW (KX E mX5_allAheadOf n (QE (some (.int (aaF f 26 (f x)))) h)) 20 [.ref s, .int (nI x), .int p, .int (nI k), w4] [] h n 0 := by
    intro j
    induction j with
    | zero =>
      intro k p w4 hk e
      refine pw_iload_n (pc := 20) dX5_allAheadOf_20 rfl ?_
      refine pw_bipush (pc := 21) (nI 26) dX5_allAheadOf_21 (by decide) ?_
      refine pw_icmp_ge_n (pc := 23) 50 dX5_allAheadOf_23 (by decide) (by omega) (by omega) (fun cb => ?_) (fun cb => ?_)
      · refine pw_iload_n (pc := 50) dX5_allAheadOf_50 rfl ?_
        exact pw_iret dX5_allAheadOf_51 rfl ⟨by rw [← e]; rfl, rfl⟩
      · omega
    | succ j ih =>
      intro k p w4 hk e
      rw [aaF] at e
      refine pw_iload_n (pc := 20) dX5_allAheadOf_20 rfl ?_
      refine pw_bipush (pc := 21) (nI 26) dX5_allAheadOf_21 (by decide) ?_
      refine pw_icmp_ge_n (pc := 23) 50 dX5_allAheadOf_23 (by decide) (by omega) (by omega) (fun cb => ?_) (fun cb => ?_)
      · omega
      · refine pw_aload_n (pc := 26) dX5_allAheadOf_26 rfl ?_
        refine pw_iload_n (pc := 27) dX5_allAheadOf_27 rfl ?_
        refine pw_callV_i (pc := 28) cv_X5_67 dX5_allAheadOf_28 (by first | assumption | exact va_up_self _ _ _ | exact lk1 (by first | assumption | (apply Ne.symm; assumption) | (simp; done)) (by assumption) | exact lk1 (by first | assumption | (apply Ne.symm; assumption) | (simp; done)) (va_up_self _ _ _) | exact lk1 (by first | assumption | (apply Ne.symm; assumption) | (simp; done)) (lk1 (by first | assumption | (apply Ne.symm; assumption) | (simp; done)) (by assumption)) | exact lk1 (by first | assumption | (apply Ne.symm; assumption) | (simp; done)) (lk1 (by first | assumption | (apply Ne.symm; assumption) | (simp; done)) (va_up_self _ _ _)) | exact lk1 (by first | assumption | (apply Ne.symm; assumption) | (simp; done)) (lk1 (by first | assumption | (apply Ne.symm; assumption) | (simp; done)) (lk1 (by first | assumption | (apply Ne.symm; assumption) | (simp; done)) (by assumption))) | exact lk1 (by first | assumption | (apply Ne.symm; assumption) | (simp; done)) (lk1 (by first | assumption | (apply Ne.symm; assumption) | (simp; done)) (lk1 (by first | assumption | (apply Ne.symm; assumption) | (simp; done)) (va_up_self _ _ _))) | exact lk1 (by first | assumption | (apply Ne.symm; assumption) | (simp; done)) (lk1 (by first | assumption | (apply Ne.symm; assumption) | (simp; done)) (lk1 (by first | assumption | (apply Ne.symm; assumption) | (simp; done)) (lk1 (by first | assumption | (apply Ne.symm; assumption) | (simp; done)) (by assumption)))) | exact lk1 (by first | assumption | (apply Ne.symm; assumption) | (simp; done)) (lk1 (by first | assumption | (apply Ne.symm; assumption) | (simp; done)) (lk1 (by first | assumption | (apply Ne.symm; assumption) | (simp; done)) (lk1 (by first | assumption | (apply Ne.symm; assumption) | (simp; done)) (va_up_self _ _ _))))) rfl (c_wa hs p) rfl rfl (Nat.le_of_ble_eq_true rfl) ⟨(Nat.le_of_ble_eq_true rfl), (Nat.le_of_ble_eq_true rfl)⟩ ?_
        refine pw_ist4 (pc := 31) dX5_allAheadOf_31 (Nat.le_of_ble_eq_true rfl) rfl ?_
        refine pw_iload (pc := 33) dX5_allAheadOf_33 rfl ?_
        refine pw_iload_n (pc := 35) dX5_allAheadOf_35 rfl ?_
        refine pw_icmp_ne (pc := 36) 41 dX5_allAheadOf_36 (by decide) (fun y2 => ?_) (fun y2 => ?_)
        · rw [if_neg y2] at e
          refine pw_iload (pc := 41) dX5_allAheadOf_41 rfl ?_
          refine pw_ist2 (pc := 43) dX5_allAheadOf_43 (Nat.le_of_ble_eq_true rfl) rfl ?_
          refine pw_iinc3 (pc := 44) (nI (k + 1)) dX5_allAheadOf_44 (Nat.le_of_ble_eq_true rfl) rfl (ni_inc _) ?_
          refine pw_goto (pc := 47) 20 dX5_allAheadOf_47 (by decide) ?_
          exact ih (k + 1) _ _ (by omega) e
        · rw [if_pos y2] at e
          refine pw_iload_n (pc := 39) dX5_allAheadOf_39 rfl ?_
          exact pw_iret dX5_allAheadOf_40 rfl ⟨by rw [← e], rfl⟩
  refine PM.of [.ref s, .int (nI x), .null, .null, .null] rfl (Nat.le_of_ble_eq_true rfl) rfl ?_
  have hn : rg 0 25 (nI x) = true := rg_yes (by rw [nI_toInt (by omega)]; omega) (by rw [nI_toInt (by omega)]; omega)
  refine pw_iload_n (pc := 0) dX5_allAheadOf_0 rfl ?_
  refine pw_callSN_i (pc := 1) csn_X5_55 dX5_allAheadOf_1 (c_isName (nI x)) rfl rfl (Nat.le_of_ble_eq_true rfl) ⟨(Nat.le_of_ble_eq_true rfl), (Nat.le_of_ble_eq_true rfl)⟩ ?_
  refine pw_if_eq_b (pc := 4) 16 dX5_allAheadOf_4 (by decide) (fun z => ?_) (fun z => ?_)
  · rw [hn] at z; cases z
  · refine pw_aload_n (pc := 7) dX5_allAheadOf_7 rfl ?_
    refine pw_get (pc := 8) fg_X5_9 dX5_allAheadOf_8 (by first | assumption | exact va_up_self _ _ _ | exact lk1 (by first | assumption | (apply Ne.symm; assumption) | (simp; done)) (by assumption) | exact lk1 (by first | assumption | (apply Ne.symm; assumption) | (simp; done)) (va_up_self _ _ _) | exact lk1 (by first | assumption | (apply Ne.symm; assumption) | (simp; done)) (lk1 (by first | assumption | (apply Ne.symm; assumption) | (simp; done)) (by assumption)) | exact lk1 (by first | assumption | (apply Ne.symm; assumption) | (simp; done)) (lk1 (by first | assumption | (apply Ne.symm; assumption) | (simp; done)) (va_up_self _ _ _)) | exact lk1 (by first | assumption | (apply Ne.symm; assumption) | (simp; done)) (lk1 (by first | assumption | (apply Ne.symm; assumption) | (simp; done)) (lk1 (by first | assumption | (apply Ne.symm; assumption) | (simp; done)) (by assumption))) | exact lk1 (by first | assumption | (apply Ne.symm; assumption) | (simp; done)) (lk1 (by first | assumption | (apply Ne.symm; assumption) | (simp; done)) (lk1 (by first | assumption | (apply Ne.symm; assumption) | (simp; done)) (va_up_self _ _ _))) | exact lk1 (by first | assumption | (apply Ne.symm; assumption) | (simp; done)) (lk1 (by first | assumption | (apply Ne.symm; assumption) | (simp; done)) (lk1 (by first | assumption | (apply Ne.symm; assumption) | (simp; done)) (lk1 (by first | assumption | (apply Ne.symm; assumption) | (simp; done)) (by assumption)))) | exact lk1 (by first | assumption | (apply Ne.symm; assumption) | (simp; done)) (lk1 (by first | assumption | (apply Ne.symm; assumption) | (simp; done)) (lk1 (by first | assumption | (apply Ne.symm; assumption) | (simp; done)) (lk1 (by first | assumption | (apply Ne.symm; assumption) | (simp; done)) (va_up_self _ _ _))))) (by first | rfl | assumption) ?_
    refine pw_iload_n (pc := 11) dX5_allAheadOf_11 rfl ?_
    refine pw_iald (pc := 12) (x) dX5_allAheadOf_12 (by first | assumption | exact va_up_self _ _ _ | exact lk1 (by first | assumption | (apply Ne.symm; assumption) | (simp; done)) (by assumption) | exact lk1 (by first | assumption | (apply Ne.symm; assumption) | (simp; done)) (va_up_self _ _ _) | exact lk1 (by first | assumption | (apply Ne.symm; assumption) | (simp; done)) (lk1 (by first | assumption | (apply Ne.symm; assumption) | (simp; done)) (by assumption)) | exact lk1 (by first | assumption | (apply Ne.symm; assumption) | (simp; done)) (lk1 (by first | assumption | (apply Ne.symm; assumption) | (simp; done)) (va_up_self _ _ _)) | exact lk1 (by first | assumption | (apply Ne.symm; assumption) | (simp; done)) (lk1 (by first | assumption | (apply Ne.symm; assumption) | (simp; done)) (lk1 (by first | assumption | (apply Ne.symm; assumption) | (simp; done)) (by assumption))) | exact lk1 (by first | assumption | (apply Ne.symm; assumption) | (simp; done)) (lk1 (by first | assumption | (apply Ne.symm; assumption) | (simp; done)) (lk1 (by first | assumption | (apply Ne.symm; assumption) | (simp; done)) (va_up_self _ _ _))) | exact lk1 (by first | assumption | (apply Ne.symm; assumption) | (simp; done)) (lk1 (by first | assumption | (apply Ne.symm; assumption) | (simp; done)) (lk1 (by first | assumption | (apply Ne.symm; assumption) | (simp; done)) (lk1 (by first | assumption | (apply Ne.symm; assumption) | (simp; done)) (by assumption)))) | exact lk1 (by first | assumption | (apply Ne.symm; assumption) | (simp; done)) (lk1 (by first | assumption | (apply Ne.symm; assumption) | (simp; done)) (lk1 (by first | assumption | (apply Ne.symm; assumption) | (simp; done)) (lk1 (by first | assumption | (apply Ne.symm; assumption) | (simp; done)) (va_up_self _ _ _))))) (by first | assumption | rfl | (simp only [nI_add, pk_mul, Nat.one_mul, Nat.mul_one, Nat.zero_add, Nat.add_zero, Nat.mul_zero]; done) | exact pk_sub (by omega) | (rw [pk_sub (by omega)]; first | done | (rw [nI_add]; done) | (rw [pk_sub (by omega)]; done) | (rw [pk_sub (by omega), nI_add]; done)) | (simp only [nI_add, pk_mul]; first | exact pk_sub (by omega) | (congr 1; omega)) | (congr 1; omega)) (by omega) (by omega) ?_
    rw [hf0 x hx]
    refine pw_goto (pc := 13) 17 dX5_allAheadOf_13 (by decide) ?_
    refine pw_ist2 (pc := 17) dX5_allAheadOf_17 (Nat.le_of_ble_eq_true rfl) rfl ?_
    refine pw_iconst (pc := 18) (nI 0) dX5_allAheadOf_18 (by decide) ?_
    refine pw_ist3 (pc := 19) dX5_allAheadOf_19 (Nat.le_of_ble_eq_true rfl) rfl ?_
    exact loop 26 0 (f x) _ (by omega) rfl
end S1
