/-! orders of names: sets of names as predicates on 0 .. 25 -/
def minS (A : Nat → Bool) (x : Nat) : Nat → Bool := fun z => A z && decide (z ≠ x)
def okB (pr : Nat → Nat → Prop) (A : Nat → Bool) (x : Nat) : Prop := A x = true ∧ ∀ z, z < 26 → pr z x → A z = true ∧ z ≠ x
noncomputable def VV (pr : Nat → Nat → Prop) : Nat → (Nat → Bool) → Nat
  | 0, _ => 1
  | n + 1, A => sumN (fun x => @ite Nat (okB pr A x) (Classical.propDecidable _) (VV pr n (minS A x)) 0) 26
def cdS (A : Nat → Bool) : Nat → Nat
  | 0 => 0
  | k + 1 => cdS A k + (A k).toNat
theorem cdS_congr {A B : Nat → Bool} : ∀ N, (∀ k, k < N → A k = B k) → cdS A N = cdS B N
  | 0, _ => rfl
  | N + 1, h => by rw [cdS, cdS, cdS_congr N (fun k hk => h k (by omega)), h N (by omega)]
theorem cdS_min {A : Nat → Bool} {x : Nat} (hx : A x = true) : ∀ N, cdS A N = cdS (minS A x) N + if x < N then 1 else 0
  | 0 => rfl
  | N + 1 => by
    rw [cdS, cdS, cdS_min hx N]
    by_cases e : N = x
    · subst e; simp [minS, hx]
    · have : (minS A x) N = A N := by simp [minS, e]
      rw [this]
      by_cases h2 : x < N
      · rw [if_pos h2, if_pos (by omega)]; omega
      · rw [if_neg h2, if_neg (by omega)]; omega
theorem cdS_0 {A : Nat → Bool} : ∀ N, cdS A N = 0 → ∀ k, k < N → A k = false
  | 0, _, k, hk => absurd hk (Nat.not_lt_zero k)
  | N + 1, h, k, hk => by
    rw [cdS] at h
    by_cases e : k = N
    · subst e
      cases q : A k with
      | false => rfl
      | true => rw [q] at h; simp at h
    · exact cdS_0 N (by omega) k (by omega)
theorem sumN_pos {f : Nat → Nat} : ∀ N, sumN f N ≠ 0 → ∃ k, k < N ∧ f k ≠ 0
  | 0, h => absurd rfl h
  | N + 1, h => by
    rw [sumN] at h
    by_cases e : f N = 0
    · rw [e] at h
      obtain ⟨k, hk, q⟩ := sumN_pos N (fun z => h (by rw [z]))
      exact ⟨k, by omega, q⟩
    · exact ⟨N, by omega, e⟩
theorem sumN_ge {f : Nat → Nat} {k : Nat} : ∀ N, k < N → f k ≤ sumN f N
  | 0, h => absurd h (Nat.not_lt_zero k)
  | N + 1, h => by
    rw [sumN]
    by_cases e : k = N
    · subst e; omega
    · have := sumN_ge (f := f) N (by omega : k < N)
      omega
theorem sumN_le {f : Nat → Nat} {c : Nat} : ∀ N, (∀ k, k < N → f k ≤ c) → sumN f N ≤ N * c
  | 0, _ => by simp [sumN]
  | N + 1, h => by
    rw [sumN, Nat.succ_mul]
    have := sumN_le N (fun k hk => h k (by omega))
    have := h N (by omega)
    omega
theorem VV_le (pr : Nat → Nat → Prop) : ∀ n A, VV pr n A ≤ 26 ^ n
  | 0, _ => Nat.le_refl _
  | n + 1, A => by
    rw [VV, Nat.pow_succ, Nat.mul_comm]
    refine sumN_le 26 (fun k _ => ?_)
    split
    · exact VV_le pr n _
    · exact Nat.zero_le _
theorem oL_0 {a : Nat} (h : a < 2 ^ 63) : oL a = 0 ↔ a = 0 := by
  constructor
  · intro e
    have := congrArg (fun z : Int64 => z.toBitVec.toNat) e
    have h2 : (oL a).toBitVec.toNat = a := by
      show (BitVec.ofNat 64 a).toNat = a
      rw [BitVec.toNat_ofNat, Nat.mod_eq_of_lt (by omega)]
    simp only [h2] at this
    exact this
  · intro e; rw [e]; rfl
/-- a set that can be gone through in order is closed -/
theorem VV_closed {pr : Nat → Nat → Prop} : ∀ n A, cdS A 26 = n → VV pr n A ≠ 0 → ∀ y, y < 26 → A y = true → ∀ z, z < 26 → pr z y → A z = true
  | 0, A, hc, _, y, hy, hA, _, _, _ => by rw [cdS_0 26 hc y hy] at hA; cases hA
  | n + 1, A, hc, hv, y, hy, hA, z, hz, hp => by
    rw [VV] at hv
    obtain ⟨x, hx, q⟩ := sumN_pos 26 hv
    by_cases hok : okB pr A x
    · rw [if_pos hok] at q
      by_cases e : y = x
      · subst e; exact (hok.2 z hz hp).1
      · have hc2 := cdS_min hok.1 26
        rw [if_pos hx] at hc2
        have := VV_closed n (minS A x) (by omega) q y hy (by simp [minS, hA, e]) z hz hp
        simp [minS] at this
        exact this.1
    · rw [if_neg hok] at q; exact absurd rfl q
/-- what nothing can leave holds it -/
theorem VV_in {pr : Nat → Nat → Prop} {al D : Nat → Bool} (hD : ∀ x, x < 26 → al x = true → (∀ z, z < 26 → pr z x → D z = true) → D x = true) : ∀ n A, cdS A 26 = n → VV pr n A ≠ 0 → (∀ x, x < 26 → A x = true → al x = true) → ∀ x, x < 26 → A x = true → D x = true
  | 0, A, hc, _, _, y, hy, hA => by rw [cdS_0 26 hc y hy] at hA; cases hA
  | n + 1, A, hc, hv, hsub, y, hy, hA => by
    rw [VV] at hv
    obtain ⟨x, hx, q⟩ := sumN_pos 26 hv
    by_cases hok : okB pr A x
    · rw [if_pos hok] at q
      have hc2 := cdS_min hok.1 26
      rw [if_pos hx] at hc2
      have ih := VV_in hD n (minS A x) (by omega) q (fun w hw h => hsub w hw (by simp [minS] at h; exact h.1))
      by_cases e : y = x
      · subst e
        refine hD y hy (hsub y hy hA) (fun z hz hp => ih z hz ?_)
        have := hok.2 z hz hp
        simp [minS, this.1, this.2]
      · exact ih y hy (by simp [minS, hA, e])
    · rw [if_neg hok] at q; exact absurd rfl q
/-- one more -/
theorem VV_add {pr : Nat → Nat → Prop} {A B : Nat → Bool} {x : Nat} (hx : x < 26) (hA : A x = false) (hB : ∀ z, z < 26 → B z = (A z || decide (z = x))) (hp : ∀ z, z < 26 → pr z x → A z = true) (hv : VV pr (cdS A 26) A ≠ 0) (hcong : ∀ n (A' A'' : Nat → Bool), (∀ z, z < 26 → A' z = A'' z) → VV pr n A' = VV pr n A'') : VV pr (cdS B 26) B ≠ 0 := by
  have hBx : B x = true := by rw [hB x hx]; simp
  have hm : ∀ z, z < 26 → minS B x z = A z := by
    intro z hz
    rw [minS, hB z hz]
    by_cases e : z = x
    · subst e; simp [hA]
    · simp [e]
  have hc := cdS_min hBx 26
  rw [if_pos hx, cdS_congr 26 hm] at hc
  rw [hc, VV]
  have hok : okB pr B x := ⟨hBx, fun z hz hpz => by
    have h1 := hp z hz hpz
    refine ⟨by rw [hB z hz, h1]; rfl, fun e => ?_⟩
    subst e; rw [hA] at h1; cases h1⟩
  have := sumN_ge (f := fun x => @ite Nat (okB pr B x) (Classical.propDecidable _) (VV pr (cdS A 26) (minS B x)) 0) 26 hx
  simp only [if_pos hok, hcong _ _ _ hm] at this
  omega
theorem VV_congr {pr : Nat → Nat → Prop} : ∀ n (A B : Nat → Bool), (∀ z, z < 26 → A z = B z) → VV pr n A = VV pr n B
  | 0, _, _, _ => rfl
  | n + 1, A, B, h => by
    rw [VV, VV]
    refine sumN_congr 26 (fun x hx => ?_)
    have e1 : okB pr A x ↔ okB pr B x := by
      unfold okB
      rw [h x hx]
      constructor
      · rintro ⟨a, b⟩; exact ⟨a, fun z hz hp => by rw [← h z hz]; exact b z hz hp⟩
      · rintro ⟨a, b⟩; exact ⟨a, fun z hz hp => by rw [h z hz]; exact b z hz hp⟩
    have e2 := VV_congr (pr := pr) n (minS A x) (minS B x) (fun z hz => by rw [minS, minS, h z hz])
    by_cases hok : okB pr A x
    · rw [if_pos hok, if_pos (e1.mp hok), e2]
    · rw [if_neg hok, if_neg (fun q => hok (e1.mpr q))]
/-- two ways to say what comes before: the ways are as many, where the one follows from the other by steps -/
theorem VV_eq {p1 p2 : Nat → Nat → Prop} (h12 : ∀ x y, p2 x y → p1 x y) (hcl : ∀ (B : Nat → Bool), (∀ y, y < 26 → B y = true → ∀ z, z < 26 → p2 z y → B z = true) → ∀ x, x < 26 → (∀ z, z < 26 → p2 z x → B z = true) → ∀ z, z < 26 → p1 z x → B z = true) : ∀ n A, cdS A 26 = n → VV p1 n A = VV p2 n A
  | 0, _, _ => rfl
  | n + 1, A, hc => by
    rw [VV, VV]
    refine sumN_congr 26 (fun x hx => ?_)
    by_cases hA : A x = true
    · have hc2 := cdS_min hA 26
      rw [if_pos hx] at hc2
      have ih := VV_eq h12 hcl n (minS A x) (by omega)
      by_cases ok1 : okB p1 A x
      · rw [if_pos ok1, if_pos ⟨ok1.1, fun z hz hp => ok1.2 z hz (h12 _ _ hp)⟩, ih]
      · rw [if_neg ok1]
        by_cases ok2 : okB p2 A x
        · rw [if_pos ok2]
          rcases Nat.eq_zero_or_pos (VV p2 n (minS A x)) with q | q
          · exact q.symm
          · exfalso
            refine ok1 ⟨hA, fun z hz hp => ?_⟩
            have := hcl (minS A x) (VV_closed n (minS A x) (by omega) (by omega)) x hx (fun w hw hpw => by
              have := ok2.2 w hw hpw
              simp [minS, this.1, this.2]) z hz hp
            simpa [minS] using this
        · rw [if_neg ok2]
    · rw [if_neg (fun q => hA q.1), if_neg (fun q => hA q.1)]
theorem sumN_split (F : Nat → Nat) (x : Nat) : ∀ M, sumN F M = sumN (fun z => if z = x then 0 else F z) M + if x < M then F x else 0
  | 0 => rfl
  | M + 1 => by
    rw [sumN, sumN, sumN_split F x M]
    by_cases e : M = x
    · subst e; simp
    · rw [if_neg e]
      by_cases h2 : x < M
      · rw [if_pos h2, if_pos (by omega)]; omega
      · rw [if_neg h2, if_neg (by omega)]; omega
theorem reindex {M : Nat} : ∀ (l : Nat) (q : List Nat) (F : Nat → Nat), q.length = l → q.Nodup → (∀ x, x ∈ q → x < M) → (∀ x, x < M → x ∉ q → F x = 0) → sumN F M = sumN (fun k => F (q.getD k 0)) q.length := by
  intro l
  induction l with
  | zero =>
    intro q F hl _ _ h0
    have : q = [] := List.eq_nil_of_length_eq_zero hl
    subst this
    exact sumN_0 M (fun k hk => h0 k hk (by simp))
  | succ l ih =>
    intro q F hl hn hM h0
    have hne : q ≠ [] := fun e => by subst e; cases hl
    obtain ⟨ms, x, rfl⟩ : ∃ ms x, q = ms ++ [x] := ⟨q.dropLast, q.getLast hne, (List.dropLast_concat_getLast hne).symm⟩
    rw [List.length_append, List.length_singleton] at hl ⊢
    have hxm : x ∉ ms := fun w => (List.nodup_append.mp hn).2.2 x w x (List.mem_singleton.mpr rfl) rfl
    have hxM := hM x (List.mem_append_right _ (List.mem_singleton.mpr rfl))
    rw [sumN_split F x M, if_pos hxM, ih ms (fun z => if z = x then 0 else F z) (by omega) (List.nodup_append.mp hn).1 (fun z hz => hM z (List.mem_append_left _ hz)) (fun z hz hzm => ?_), sumN]
    · congr 1
      · refine sumN_congr _ (fun k hk => ?_)
        have e1 : (ms ++ [x]).getD k 0 = ms.getD k 0 := by rw [List.getD_eq_getElem?_getD, List.getD_eq_getElem?_getD, List.getElem?_append_left hk]
        have e2 : ms.getD k 0 ∈ ms := by rw [List.getD_eq_getElem?_getD, List.getElem?_eq_getElem hk]; exact List.getElem_mem _
        rw [e1, if_neg (fun e => hxm (by rw [← e]; exact e2))]
      · congr 1
        simp [List.getD_eq_getElem?_getD]
    · by_cases e : z = x
      · rw [if_pos e]
      · rw [if_neg e]
        exact h0 z hz (fun w => by rcases List.mem_append.mp w with w | w; exact hzm w; exact e (List.mem_singleton.mp w))
theorem ndN_inj : ∀ {L : List Nat}, L.Nodup → ∀ {i j : Nat}, i < L.length → j < L.length → L.getD i 0 = L.getD j 0 → i = j
  | [], _, _, _, h, _, _ => absurd h (Nat.not_lt_zero _)
  | x :: L, h, 0, 0, _, _, _ => rfl
  | x :: L, h, 0, j + 1, _, hj, e => by
    exfalso
    have hj' : j < L.length := by simpa using hj
    have e' : x = L.getD j 0 := by simpa using e
    refine (List.nodup_cons.mp h).1 ?_
    rw [e', List.getD_eq_getElem?_getD, List.getElem?_eq_getElem hj']
    exact List.getElem_mem _
  | x :: L, h, i + 1, 0, hi, _, e => by
    exfalso
    have hi' : i < L.length := by simpa using hi
    have e' : L.getD i 0 = x := by simpa using e
    refine (List.nodup_cons.mp h).1 ?_
    rw [← e', List.getD_eq_getElem?_getD, List.getElem?_eq_getElem hi']
    exact List.getElem_mem _
  | x :: L, h, i + 1, j + 1, hi, hj, e => by
    have := ndN_inj (L := L) (List.nodup_cons.mp h).2 (i := i) (j := j) (by simpa using hi) (by simpa using hj) (by simpa using e)
    omega
noncomputable def AofS (q : List Nat) (s : Nat) : Nat → Bool := fun x => @decide (∃ j, j < q.length ∧ q.getD j 0 = x ∧ s.testBit j = true) (Classical.propDecidable _)
theorem AofS_t {q : List Nat} {s x : Nat} : AofS q s x = true ↔ ∃ j, j < q.length ∧ q.getD j 0 = x ∧ s.testBit j = true := by
  unfold AofS; exact @decide_eq_true_iff _ (Classical.propDecidable _)
theorem UV {pr : Nat → Nat → Prop} {q : List Nat} {nd : Nat → Nat} (hn : q.Nodup) (h26 : ∀ x, x ∈ q → x < 26) (hnd : ∀ k, k < q.length → ∀ j, (nd k).testBit j = true ↔ j < q.length ∧ pr (q.getD j 0) (q.getD k 0)) (hin : ∀ k, k < q.length → ∀ z, z < 26 → pr z (q.getD k 0) → ∃ j, j < q.length ∧ q.getD j 0 = z) : ∀ n s, popN s q.length = n → UU nd q.length n s = VV pr n (AofS q s)
  | 0, _, _ => rfl
  | n + 1, s, hs => by
    rw [UU, VV]
    have gm : ∀ k, k < q.length → q.getD k 0 ∈ q := fun k hk => by rw [List.getD_eq_getElem?_getD, List.getElem?_eq_getElem hk]; exact List.getElem_mem _
    rw [reindex q.length q (fun x => @ite Nat (okB pr (AofS q s) x) (Classical.propDecidable _) (VV pr n (minS (AofS q s) x)) 0) rfl hn h26 (fun x _ hx => ?_)]
    · refine sumN_congr _ (fun k hk => ?_)
      have iff1 : (s.testBit k = true ∧ subN (nd k) (rmB s k) = true) ↔ okB pr (AofS q s) (q.getD k 0) := by
        constructor
        · rintro ⟨h1, h2⟩
          rw [sub_bits] at h2
          refine ⟨AofS_t.mpr ⟨k, hk, rfl, h1⟩, fun z hz hp => ?_⟩
          obtain ⟨j, hj, ej⟩ := hin k hk z hz hp
          have h3 := h2 j ((hnd k hk j).mpr ⟨hj, by rw [ej]; exact hp⟩)
          rw [rm_bit h1] at h3
          simp at h3
          refine ⟨AofS_t.mpr ⟨j, hj, ej, h3.1⟩, fun e => h3.2 ?_⟩
          rw [← ej] at e
          exact ndN_inj hn hj hk e
        · rintro ⟨h1, h2⟩
          obtain ⟨k', hk', ek, hb⟩ := AofS_t.mp h1
          have : k' = k := ndN_inj hn hk' hk ek
          subst this
          refine ⟨hb, sub_bits.mpr (fun j hj => ?_)⟩
          obtain ⟨hj1, hj2⟩ := (hnd k' hk j).mp hj
          obtain ⟨h3, h4⟩ := h2 _ (h26 _ (gm j hj1)) hj2
          obtain ⟨j', hj', ej, hb'⟩ := AofS_t.mp h3
          have : j' = j := ndN_inj hn hj' hj1 ej
          subst this
          rw [rm_bit hb, hb']
          have : j' ≠ k' := fun e => h4 (by rw [e])
          simp [this]
      by_cases hc : s.testBit k = true ∧ subN (nd k) (rmB s k) = true
      · have hp := pop_rm hc.1 q.length hk
        rw [if_pos hc, if_pos (iff1.mp hc), UV hn h26 hnd hin n (rmB s k) (by omega)]
        refine VV_congr n _ _ (fun z _ => ?_)
        rw [Bool.eq_iff_iff, AofS_t]
        constructor
        · rintro ⟨j, hj, ej, hb⟩
          rw [rm_bit hc.1] at hb
          simp at hb
          have : AofS q s z = true := AofS_t.mpr ⟨j, hj, ej, hb.1⟩
          have hz : z ≠ q.getD k 0 := fun e => hb.2 (ndN_inj hn hj hk (ej.trans e))
          simp only [minS, this, Bool.true_and, decide_eq_true_iff]
          exact hz
        · intro h
          simp only [minS, Bool.and_eq_true, decide_eq_true_iff] at h
          obtain ⟨j, hj, ej, hb⟩ := AofS_t.mp h.1
          refine ⟨j, hj, ej, ?_⟩
          rw [rm_bit hc.1, hb]
          have : j ≠ k := fun e => h.2 (by rw [← ej, e])
          simp [this]
      · rw [if_neg hc, if_neg (fun w => hc (iff1.mpr w))]
    · refine if_neg (fun w => hx ?_)
      obtain ⟨j, hj, ej, -⟩ := AofS_t.mp w.1
      rw [← ej]; exact gm j hj
