theorem lk1 {h : HP} {j k : Nat} {v : Option PE} {e : PE} (h1 : j ≠ k) (h2 : h j = some e) : va_up h k v j = some e := (va_up_ne _ _ h1).trans h2
theorem pw_mmin {K : MX} {pc : Nat} {ls st : List Value} {h : HP} {n ms : Nat} {idx : Nat} {x y : Int32} (cl : Cond.methodLink (mY K.2.1).cls idx ⟨"java/lang/Math", "min", "(II)I"⟩ ∈ tbl) (d : decode (mC K.2.1) pc = .ok (.invokestatic idx, 3)) (hfr : 1 ≤ mFr K.2.1) (hlo : (st.map fun v => v.category).sum + 13 ≤ mLo K.2.1) (kk : PW K (pc + 3) ls (.int (if y < x then y else x) :: st) h n ms) : PW K pc ls (.int y :: .int x :: st) h n ms := by
  intro p e s m args below meth c X Y R r1 r2 H locs lsA cells slots hS hR hL hn
  have htt := X.2.2.2.2.2.2.2.1
  refine va_mmin X.1 X.2.1 (X.2.2.2.1.trans hL.1.symm) X.2.2.2.2.1 (htt _ cl) (htt _ (tb 433 (by decide +kernel) rfl)) (htt _ (tb 8 (by decide +kernel) rfl)) (htt _ (tb 434 (by decide +kernel) rfl)) (by rw [r1]; exact hfr) (by rw [r2]; exact hlo) (by omega) (by omega) d ?_
  exact kk p e s m args below meth c X Y R r1 r2 H locs lsA cells slots hS hR hL hn
theorem pw_mmax {K : MX} {pc : Nat} {ls st : List Value} {h : HP} {n ms : Nat} {idx : Nat} {x y : Int32} (cl : Cond.methodLink (mY K.2.1).cls idx ⟨"java/lang/Math", "max", "(II)I"⟩ ∈ tbl) (d : decode (mC K.2.1) pc = .ok (.invokestatic idx, 3)) (hfr : 1 ≤ mFr K.2.1) (hlo : (st.map fun v => v.category).sum + 13 ≤ mLo K.2.1) (kk : PW K (pc + 3) ls (.int (if x < y then y else x) :: st) h n ms) : PW K pc ls (.int y :: .int x :: st) h n ms := by
  intro p e s m args below meth c X Y R r1 r2 H locs lsA cells slots hS hR hL hn
  have htt := X.2.2.2.2.2.2.2.1
  refine va_mmax X.1 X.2.1 (X.2.2.2.1.trans hL.1.symm) X.2.2.2.2.1 (htt _ cl) (htt _ (tb 101 (by decide +kernel) rfl)) (htt _ (tb 8 (by decide +kernel) rfl)) (htt _ (tb 102 (by decide +kernel) rfl)) (by rw [r1]; exact hfr) (by rw [r2]; exact hlo) (by omega) (by omega) d ?_
  exact kk p e s m args below meth c X Y R r1 r2 H locs lsA cells slots hS hR hL hn
theorem c_compare {E : EV} {h : HP} {n : Nat} (x y : Int32) : PM E mJ6_compare_7cf53 [.int x, .int y] h n n 0 (QE (some (.int (if x < y then -1 else if x = y then 0 else 1))) h) := by
  refine PM.of [.int x, .int y] rfl (Nat.le_of_ble_eq_true rfl) rfl ?_
  refine pw_iload_n (pc := 0) dJ6_compare_7cf53_0 rfl ?_
  refine pw_iload_n (pc := 1) dJ6_compare_7cf53_1 rfl ?_
  refine pw_icmp_ge (pc := 2) 9 dJ6_compare_7cf53_2 (by decide) (fun c => ?_) (fun c => ?_)
  · have c0 : ¬ x < y := by rw [i32_lt]; rw [i32_le] at c; omega
    refine pw_iload_n (pc := 9) dJ6_compare_7cf53_9 rfl ?_
    refine pw_iload_n (pc := 10) dJ6_compare_7cf53_10 rfl ?_
    refine pw_icmp_ne (pc := 11) 18 dJ6_compare_7cf53_11 (by decide) (fun c => ?_) (fun c => ?_)
    · refine pw_iconst (pc := 18) (nI 1) dJ6_compare_7cf53_18 (by decide) ?_
      refine pw_iret dJ6_compare_7cf53_19 rfl ⟨?_, rfl⟩
      rw [if_neg c0, if_neg c]; rfl
    · refine pw_iconst (pc := 14) (nI 0) dJ6_compare_7cf53_14 (by decide) ?_
      refine pw_goto (pc := 15) 19 dJ6_compare_7cf53_15 (by decide) ?_
      refine pw_iret dJ6_compare_7cf53_19 rfl ⟨?_, rfl⟩
      rw [if_neg c0, if_pos c]; rfl
  · have c0 : x < y := by rw [i32_lt]; rw [i32_le] at c; omega
    refine pw_iconst (pc := 5) (-1) dJ6_compare_7cf53_5 (by decide) ?_
    refine pw_goto (pc := 6) 19 dJ6_compare_7cf53_6 (by decide) ?_
    refine pw_iret dJ6_compare_7cf53_19 rfl ⟨?_, rfl⟩
    rw [if_pos c0]
theorem c_fill {E : EV} {h : HP} {a N n : Nat} {f : Nat → Int32} (ha : h a = some (.inl (0, N, .inl f))) (hN : N < 1000) (x : Int32) : PM E mJ7_fill_53178 [.ref a, .int x] h n n 0 (QE none (va_up h a (some (.inl (0, N, .inl (fun k => if k < N then x else f k)))))) := by
  have loop : ∀ m k, k + m = N → PW (KX E mJ7_fill_53178 n (QE none (va_up h a (some (.inl (0, N, .inl (fun k => if k < N then x else f k))))))) 5 [.ref a, .int x, .int (nI k), .int (nI N)] [] (va_up h a (some (.inl (0, N, .inl (fun j => if j < k then x else f j))))) n 0 := by
    intro m
    induction m with
    | zero =>
      intro k hk
      refine pw_iload_n (pc := 5) dJ7_fill_53178_5 rfl ?_
      refine pw_iload_n (pc := 6) dJ7_fill_53178_6 rfl ?_
      refine pw_icmp_ge_n (pc := 7) 20 dJ7_fill_53178_7 (by decide) (by omega) (by omega) (fun c => ?_) (fun c => ?_)
      · obtain rfl : k = N := by omega
        exact pw_vret dJ7_fill_53178_20 rfl ⟨rfl, rfl⟩
      · omega
    | succ m ih =>
      intro k hk
      refine pw_iload_n (pc := 5) dJ7_fill_53178_5 rfl ?_
      refine pw_iload_n (pc := 6) dJ7_fill_53178_6 rfl ?_
      refine pw_icmp_ge_n (pc := 7) 20 dJ7_fill_53178_7 (by decide) (by omega) (by omega) (fun c => ?_) (fun c => ?_)
      · omega
      · refine pw_aload_n (pc := 10) dJ7_fill_53178_10 rfl ?_
        refine pw_iload_n (pc := 11) dJ7_fill_53178_11 rfl ?_
        refine pw_iload_n (pc := 12) dJ7_fill_53178_12 rfl ?_
        refine pw_iast (pc := 13) (k) dJ7_fill_53178_13 (by first | assumption | exact va_up_self _ _ _ | exact lk1 (by first | assumption | (apply Ne.symm; assumption) | omega) (by assumption) | exact lk1 (by first | assumption | (apply Ne.symm; assumption) | omega) (va_up_self _ _ _) | exact lk1 (by first | assumption | (apply Ne.symm; assumption) | omega) (lk1 (by first | assumption | (apply Ne.symm; assumption) | omega) (by assumption)) | exact lk1 (by first | assumption | (apply Ne.symm; assumption) | omega) (lk1 (by first | assumption | (apply Ne.symm; assumption) | omega) (va_up_self _ _ _)) | exact lk1 (by first | assumption | (apply Ne.symm; assumption) | omega) (lk1 (by first | assumption | (apply Ne.symm; assumption) | omega) (lk1 (by first | assumption | (apply Ne.symm; assumption) | omega) (by assumption))) | exact lk1 (by first | assumption | (apply Ne.symm; assumption) | omega) (lk1 (by first | assumption | (apply Ne.symm; assumption) | omega) (lk1 (by first | assumption | (apply Ne.symm; assumption) | omega) (va_up_self _ _ _))) | exact lk1 (by first | assumption | (apply Ne.symm; assumption) | omega) (lk1 (by first | assumption | (apply Ne.symm; assumption) | omega) (lk1 (by first | assumption | (apply Ne.symm; assumption) | omega) (lk1 (by first | assumption | (apply Ne.symm; assumption) | omega) (by assumption)))) | exact lk1 (by first | assumption | (apply Ne.symm; assumption) | omega) (lk1 (by first | assumption | (apply Ne.symm; assumption) | omega) (lk1 (by first | assumption | (apply Ne.symm; assumption) | omega) (lk1 (by first | assumption | (apply Ne.symm; assumption) | omega) (va_up_self _ _ _))))) (by first | rfl | (simp only [nI_add, pk_mul, Nat.one_mul, Nat.mul_one, Nat.zero_add, Nat.add_zero, Nat.mul_zero]; done) | exact pk_sub (by omega) | (rw [pk_sub (by omega)]; first | done | (rw [nI_add]; done) | (rw [pk_sub (by omega)]; done) | (rw [pk_sub (by omega), nI_add]; done)) | (simp only [nI_add, pk_mul]; first | exact pk_sub (by omega) | (congr 1; omega)) | (congr 1; omega)) (by omega) (by omega) ?_
        refine pw_iinc2 (pc := 14) (nI (k + 1)) dJ7_fill_53178_14 (Nat.le_of_ble_eq_true rfl) rfl (ni_inc _) ?_
        refine pw_goto (pc := 17) 5 dJ7_fill_53178_17 (by decide) ?_
        refine pw_heap ?_ (ih (k + 1) (by omega))
        rw [bx_uu]
        congr 6
        funext j
        by_cases hj : j = k
        · subst hj; simp [upd]
        · have : (j < k + 1) = (j < k) := by simp; omega
          simp [upd, hj, this]
  refine PM.of [.ref a, .int x, .null, .null] rfl (Nat.le_of_ble_eq_true rfl) rfl ?_
  refine pw_iconst (pc := 0) (nI 0) dJ7_fill_53178_0 (by decide) ?_
  refine pw_ist2 (pc := 1) dJ7_fill_53178_1 (Nat.le_of_ble_eq_true rfl) rfl ?_
  refine pw_aload_n (pc := 2) dJ7_fill_53178_2 rfl ?_
  refine pw_alen (pc := 3) _ dJ7_fill_53178_3 (by first | assumption | exact va_up_self _ _ _ | exact lk1 (by first | assumption | (apply Ne.symm; assumption) | omega) (by assumption) | exact lk1 (by first | assumption | (apply Ne.symm; assumption) | omega) (va_up_self _ _ _) | exact lk1 (by first | assumption | (apply Ne.symm; assumption) | omega) (lk1 (by first | assumption | (apply Ne.symm; assumption) | omega) (by assumption)) | exact lk1 (by first | assumption | (apply Ne.symm; assumption) | omega) (lk1 (by first | assumption | (apply Ne.symm; assumption) | omega) (va_up_self _ _ _)) | exact lk1 (by first | assumption | (apply Ne.symm; assumption) | omega) (lk1 (by first | assumption | (apply Ne.symm; assumption) | omega) (lk1 (by first | assumption | (apply Ne.symm; assumption) | omega) (by assumption))) | exact lk1 (by first | assumption | (apply Ne.symm; assumption) | omega) (lk1 (by first | assumption | (apply Ne.symm; assumption) | omega) (lk1 (by first | assumption | (apply Ne.symm; assumption) | omega) (va_up_self _ _ _))) | exact lk1 (by first | assumption | (apply Ne.symm; assumption) | omega) (lk1 (by first | assumption | (apply Ne.symm; assumption) | omega) (lk1 (by first | assumption | (apply Ne.symm; assumption) | omega) (lk1 (by first | assumption | (apply Ne.symm; assumption) | omega) (by assumption)))) | exact lk1 (by first | assumption | (apply Ne.symm; assumption) | omega) (lk1 (by first | assumption | (apply Ne.symm; assumption) | omega) (lk1 (by first | assumption | (apply Ne.symm; assumption) | omega) (lk1 (by first | assumption | (apply Ne.symm; assumption) | omega) (va_up_self _ _ _))))) (by decide) rfl ?_
  refine pw_ist3 (pc := 4) dJ7_fill_53178_4 (Nat.le_of_ble_eq_true rfl) rfl ?_
  refine pw_heap ?_ (loop N 0 (by omega))
  funext q
  by_cases hq : q = a
  · subst hq; simp [va_up, ha]
  · simp [va_up, hq]
