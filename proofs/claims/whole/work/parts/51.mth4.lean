/-! there is an order: the class's rounds and the count agree -/
theorem nx_bit (f : Nat → Int32) (al p : Int32) {x : Nat} (hx : x < 32) : ∀ k, k ≤ 26 → (bt (nxF f al p k) x = true ↔ bt p x = true ∨ (x < k ∧ bt al x = true ∧ f x &&& (p ^^^ -1) = 0))
  | 0, _ => by
    rw [nxF]
    exact ⟨Or.inl, fun q => q.elim id (fun q => by omega)⟩
  | k + 1, hk => by
    have ih := nx_bit f al p hx k (by omega)
    rw [nxF, inB_bt _ (by omega)]
    split
    · rename_i hc
      rw [bt_or, Bool.or_eq_true, ih, bt_bit1 (by omega) hx, decide_eq_true_iff]
      constructor
      · rintro ((q | q) | rfl)
        · exact Or.inl q
        · exact Or.inr ⟨by omega, q.2⟩
        · exact Or.inr ⟨by omega, hc⟩
      · rintro (q | q)
        · exact Or.inl (Or.inl q)
        · by_cases e : x = k
          · exact Or.inr e
          · exact Or.inl (Or.inr ⟨by omega, q.2⟩)
    · rename_i hc
      rw [ih]
      constructor
      · rintro (q | q)
        · exact Or.inl q
        · exact Or.inr ⟨by omega, q.2⟩
      · rintro (q | q)
        · exact Or.inl q
        · by_cases e : x = k
          · subst e; exact absurd q.2 hc
          · exact Or.inr ⟨by omega, q.2⟩
abbrev bS (p : Int32) : Nat → Bool := fun z => bt p z
theorem nx_VV {pr : Nat → Nat → Prop} {f : Nat → Int32} {al p : Int32} (hf : ∀ x, x < 26 → (f x &&& (p ^^^ -1) = 0 ↔ ∀ z, z < 26 → pr z x → bt p z = true)) (hv : VV pr (cdS (bS p) 26) (bS p) ≠ 0) : ∀ k, k ≤ 26 → VV pr (cdS (bS (nxF f al p k)) 26) (bS (nxF f al p k)) ≠ 0
  | 0, _ => hv
  | k + 1, hk => by
    have ih := nx_VV (al := al) hf hv k (by omega)
    have e0 : nxF f al p (k + 1) = if inB al (nI k) = true ∧ f k &&& (p ^^^ -1) = 0 then nxF f al p k ||| bit1 (nI k) else nxF f al p k := rfl
    by_cases hc : inB al (nI k) = true ∧ f k &&& (p ^^^ -1) = 0
    · rw [e0, if_pos hc]
      have hB : ∀ z, z < 26 → bS (nxF f al p k ||| bit1 (nI k)) z = (bS (nxF f al p k) z || decide (z = k)) := fun z hz => by
        show bt _ z = (bt _ z || _)
        rw [bt_or, bt_bit1 (by omega) (by omega)]
      by_cases hk2 : bS (nxF f al p k) k = true
      · have e : ∀ z, z < 26 → bS (nxF f al p k ||| bit1 (nI k)) z = bS (nxF f al p k) z := fun z hz => by
          rw [hB z hz]
          by_cases ez : z = k
          · subst ez; rw [hk2]; rfl
          · simp [ez]
        rw [cdS_congr 26 e, VV_congr _ _ _ e]; exact ih
      · refine VV_add (x := k) (by omega) (by simpa using hk2) hB (fun z hz hp => ?_) ih (fun n A B h => VV_congr n A B h)
        exact (nx_bit f al p (by omega) k (by omega)).mpr (Or.inl ((hf k (by omega)).mp hc.2 z hz hp))
    · rw [e0, if_neg hc]; exact ih
theorem cdS_le {A B : Nat → Bool} : ∀ N, (∀ k, k < N → A k = true → B k = true) → cdS A N ≤ cdS B N
  | 0, _ => Nat.le_refl _
  | N + 1, h => by
    have ih := cdS_le N (fun k hk => h k (by omega))
    have h2 := h N (by omega)
    rw [cdS, cdS]
    cases e : A N with
    | false => simp; omega
    | true => rw [h2 e]; omega
theorem cdS_lt {A B : Nat → Bool} {x : Nat} : ∀ N, x < N → (∀ k, k < N → A k = true → B k = true) → A x = false → B x = true → cdS A N < cdS B N
  | 0, h, _, _, _ => absurd h (Nat.not_lt_zero _)
  | N + 1, hx, h, h1, h2 => by
    rw [cdS, cdS]
    by_cases e : x = N
    · subst e
      have := cdS_le x (fun k hk => h k (by omega))
      rw [h1, h2]
      simp; omega
    · have ih := cdS_lt N (by omega) (fun k hk => h k (by omega)) h1 h2
      have h3 := h N (by omega)
      cases e2 : A N with
      | false => simp; omega
      | true => rw [h3 e2]; omega
theorem cdS_full {A : Nat → Bool} : ∀ N, N ≤ cdS A N → ∀ k, k < N → A k = true
  | 0, _, k, hk => absurd hk (Nat.not_lt_zero k)
  | N + 1, h, k, hk => by
    rw [cdS] at h
    have h1 : cdS A N ≤ N := by
      have := cdS_le (A := A) (B := fun _ => true) N (fun _ _ _ => rfl)
      have e : ∀ M, cdS (fun _ => true) M = M := by
        intro M
        induction M with
        | zero => rfl
        | succ M ih => rw [cdS, ih]; rfl
      rw [e] at this; exact this
    cases e : A N with
    | false => rw [e] at h; simp at h; omega
    | true =>
      by_cases ek : k = N
      · subst ek; exact e
      · rw [e] at h
        simp at h
        exact cdS_full N (by omega) k (by omega)
theorem ho_iff {pr : Nat → Nat → Prop} {f : Nat → Int32} {al : Int32} (hal : ∀ k, 26 ≤ k → k < 32 → bt al k = false) (hf : ∀ p x, x < 26 → (f x &&& (p ^^^ -1) = 0 ↔ ∀ z, z < 26 → pr z x → bt p z = true)) : ∀ r p, (∀ x, x < 32 → bt p x = true → bt al x = true) → VV pr (cdS (bS p) 26) (bS p) ≠ 0 → 26 ≤ cdS (bS p) 26 + r → (hoF f al r p = true ↔ VV pr (cdS (bS al) 26) (bS al) ≠ 0)
  | 0, p, hs, hv, hr => by
    have hfull := cdS_full (A := bS p) 26 (by omega)
    have e : p = al := by
      apply bt_ext
      intro k hk
      by_cases h26 : k < 26
      · have h1 : bt p k = true := hfull k h26
        rw [h1, hs k hk h1]
      · cases e : bt p k with
        | true => exact (hs k hk e).symm
        | false => exact (hal k (by omega) hk).symm
    subst e
    rw [hoF]
    simp [hv]
  | r + 1, p, hs, hv, hr => by
    rw [hoF]
    by_cases e : p = al
    · subst e
      rw [if_pos rfl]
      simp [hv]
    · rw [if_neg e]
      by_cases e2 : nxF f al p 26 = p
      · rw [if_pos e2]
        constructor
        · intro q; cases q
        · intro q
          exfalso
          apply e
          have hin := VV_in (pr := pr) (al := bS al) (D := bS p) (fun x hx ha hz => by
            have := (nx_bit f al p (x := x) (by omega) 26 (by omega)).mpr (Or.inr ⟨hx, ha, (hf p x hx).mpr hz⟩)
            rw [e2] at this; exact this) _ (bS al) rfl q (fun x _ h => h)
          apply bt_ext
          intro k hk
          cases e3 : bt al k with
          | true =>
            by_cases h26 : k < 26
            · exact hin k h26 e3
            · rw [hal k (by omega) hk] at e3; cases e3
          | false =>
            cases e4 : bt p k with
            | false => rfl
            | true => rw [hs k hk e4] at e3; cases e3
      · rw [if_neg e2]
        refine ho_iff hal hf r _ (fun x hx h => ?_) (nx_VV (fun x hx => hf p x hx) hv 26 (Nat.le_refl _)) ?_
        · rcases (nx_bit f al p hx 26 (Nat.le_refl _)).mp h with q | q
          · exact hs x hx q
          · exact q.2.1
        · obtain ⟨x, hx, h1, h2⟩ : ∃ x, x < 26 ∧ bt p x = false ∧ bt (nxF f al p 26) x = true := by
            refine Classical.byContradiction (fun hno => e2 ?_)
            apply bt_ext
            intro k hk
            cases e3 : bt p k with
            | true => exact (nx_bit f al p hk 26 (Nat.le_refl _)).mpr (Or.inl e3)
            | false =>
              cases e4 : bt (nxF f al p 26) k with
              | false => rfl
              | true =>
                rcases (nx_bit f al p hk 26 (Nat.le_refl _)).mp e4 with q | q
                · rw [q] at e3; cases e3
                · exact absurd ⟨k, q.1, e3, e4⟩ hno
          have := cdS_lt (A := bS p) (B := bS (nxF f al p 26)) 26 hx (fun k hk h => (nx_bit f al p (by omega) 26 (Nat.le_refl _)).mpr (Or.inl h)) h1 h2
          omega
theorem lo_sub {R : RecS} {set p : Int32} (hw : wfR R) {x : Nat} (hx : x < 26) : (loB R set x &&& (p ^^^ -1) = 0) ↔ ∀ z, z < 26 → befR R set z x → bt p z = true := by
  rw [and_not0]
  constructor
  · intro h z hz hb
    exact h z (by omega) ((lo_bef hw (by omega) hx).mpr hb)
  · intro h z hz hb
    have hb' := (lo_bef hw hz hx).mp hb
    refine h z ?_ hb'
    obtain ⟨i, hc, hm⟩ := (bef_mem hb').1
    obtain ⟨c, hc2, ec, -⟩ := rg_ix (hi := 25) ((hw.1 i hc.1).2.2 _ hm)
    have := (nI_eq (by omega) (by omega)).mp ec
    omega
theorem ord_iff {R : RecS} {set : Int32} (hw : wfR R) : ordB R set = true ↔ VV (befR R set) (popN (loA R set).toBitVec.toNat 26) (alS R set) ≠ 0 := by
  rw [← cdS_al]
  refine ho_iff (pr := befR R set) (fun k h1 h2 => lo_small hw 4 (Nat.le_refl _) k h1 h2) (fun p x hx => lo_sub hw hx) 26 (nI 0) (fun x _ h => ?_) ?_ (by omega)
  · rw [show nI 0 = 0 from rfl, bt_0] at h; cases h
  · have e : ∀ z, z < 26 → bS (nI 0) z = (fun _ => false) z := fun z _ => by show bt 0 z = false; exact bt_0 z
    have e0 : ∀ N, cdS (fun _ => false) N = 0 := by
      intro N
      induction N with
      | zero => rfl
      | succ N ih => rw [cdS, ih]; rfl
    rw [cdS_congr 26 e, e0, VV]; decide
abbrev cnM (R : RecS) (set : Int32) : Nat := WW (ndM (gaA R set 4)) (gaA R set 4).1.length (2 ^ (gaA R set 4).1.length - 1)
theorem cn_iff {R : RecS} {set : Int32} (hw : wfR R) (h12 : (gaA R set 4).1.length ≤ 12) : oL (cnM R set) = 0 ↔ ordB R set = false := by
  have e1 : cnM R set = VV (befR R set) (popN (loA R set).toBitVec.toNat 26) (alS R set) := by
    rw [VV_bn hw _ _ (cdS_al _ 26)]; exact ord_M hw
  have hle := VV_le (befR R set) (popN (loA R set).toBitVec.toNat 26) (alS R set)
  rw [ga_len hw] at h12
  have h3 : (26 : Nat) ^ popN (loA R set).toBitVec.toNat 26 ≤ 26 ^ 12 := Nat.pow_le_pow_right (by omega) h12
  have h4 : (26 : Nat) ^ 12 < 2 ^ 63 := by decide
  rw [e1, oL_0 (by omega)]
  have := ord_iff (set := set) hw
  cases e : ordB R set with
  | true => rw [e] at this; exact ⟨fun q => absurd q (this.mp rfl), fun q => (by cases q)⟩
  | false =>
    rw [e] at this
    refine ⟨fun _ => rfl, fun _ => ?_⟩
    exact Classical.byContradiction (fun q => by cases this.mpr q)
/-! one list alone has an order -/
theorem one_ok {R : RecS} (hw : wfR R) {set : Int32} {i : Nat} (hi : i < 4) (hset : ∀ j, chs set j ↔ j = i) : ordB R set = true := by
  rw [ord_iff hw]
  obtain ⟨hlen, hnd, hL⟩ := hw.1 i hi
  have hb : ∀ z x, befR R set z x ↔ ∃ j k, j < k ∧ k < (R.1 i).length ∧ (R.1 i).getD j 0 = nI z ∧ (R.1 i).getD k 0 = nI x := by
    intro z x
    constructor
    · rintro ⟨i', hc, q⟩
      have := (hset i').mp hc
      subst this; exact q
    · intro q; exact ⟨i, (hset i).mpr rfl, q⟩
  have key : ∀ k, k ≤ (R.1 i).length → VV (befR R set) (cdS (bS (bitsF (fun j => (R.1 i).getD j 0) k)) 26) (bS (bitsF (fun j => (R.1 i).getD j 0) k)) ≠ 0 := by
    intro k
    induction k with
    | zero =>
      intro _
      have e : ∀ z, z < 26 → bS (bitsF (fun j => (R.1 i).getD j 0) 0) z = (fun _ => false) z := fun z _ => by show bt 0 z = false; exact bt_0 z
      have e0 : ∀ N, cdS (fun _ => false) N = 0 := by
        intro N
        induction N with
        | zero => rfl
        | succ N ih => rw [cdS, ih]; rfl
      rw [cdS_congr 26 e, e0, VV]; decide
    | succ k ih =>
      intro hk
      obtain ⟨c, hc, ec, -⟩ := rg_ix (hi := 25) (hL _ (mem_getD (L := R.1 i) (k := k) (by omega)))
      have hno : bS (bitsF (fun j => (R.1 i).getD j 0) k) c = false := by
        cases e : bt (bitsF (fun j => (R.1 i).getD j 0) k) c with
        | false => exact e
        | true =>
          obtain ⟨j, hj, ej⟩ := (bt_bitsFk hL (by omega) k (by omega)).mp e
          have := nd_inj hnd (show j < (R.1 i).length by omega) (show k < (R.1 i).length by omega) (ej.trans ec.symm)
          omega
      refine VV_add (A := bS (bitsF (fun j => (R.1 i).getD j 0) k)) (x := c) (by omega) hno (fun z hz => ?_) (fun z hz hp => ?_) (ih (by omega)) (fun n A B h => VV_congr n A B h)
      · show bt (bitsF (fun j => (R.1 i).getD j 0) k ||| bit1 ((R.1 i).getD k 0)) z = _
        rw [bt_or, ec, bt_bit1 (by omega) (by omega)]
      · obtain ⟨j, k', h1, h2, h3, h4⟩ := (hb z c).mp hp
        have := nd_inj hnd h2 (show k < (R.1 i).length by omega) (h4.trans ec.symm)
        subst this
        exact (bt_bitsFk hL (by omega) k' (by omega)).mpr ⟨j, h1, h3⟩
  have hkey := key _ (Nat.le_refl _)
  have e : ∀ z, z < 26 → bS (bitsF (fun j => (R.1 i).getD j 0) (R.1 i).length) z = alS R set z := by
    intro z hz
    show bt _ z = bt _ z
    rw [Bool.eq_iff_iff, lo_mem hw (by omega)]
    have := bt_bitsL hL (show z < 32 by omega)
    rw [bitsL] at this
    rw [this]
    constructor
    · intro q; exact ⟨i, (hset i).mpr rfl, q⟩
    · rintro ⟨i', hc, q⟩
      have := (hset i').mp hc
      subst this; exact q
  rw [cdS_congr 26 e, VV_congr _ _ _ e, cdS_al] at hkey
  exact hkey
theorem lo_mono {R : RecS} {s1 s2 : Int32} (hw : wfR R) (h : ∀ i, chs s1 i → chs s2 i) : popN (loA R s1).toBitVec.toNat 26 ≤ popN (loA R s2).toBitVec.toNat 26 := by
  rw [← cdS_al, ← cdS_al]
  refine cdS_le 26 (fun k hk hq => ?_)
  obtain ⟨i, hc, hm⟩ := (lo_mem hw (by omega)).mp hq
  exact (lo_mem hw (by omega)).mpr ⟨i, h i hc, hm⟩
/-! the fewest lists that quarrel -/
def bsF (bad : Nat → Bool) (o : Nat) : Nat → Nat → Nat → Nat
  | 0, _, b => b
  | q + 1, p, b => bsF bad o q (p + 1) (if subN p o = true ∧ (b = 0 ∨ popN p 26 < popN b 26) ∧ bad p = true then p else b)
def bsOk (bad : Nat → Bool) (o m b : Nat) : Prop := (b = 0 ∧ ∀ p, 1 ≤ p → p < m → ¬ (subN p o = true ∧ bad p = true)) ∨ (1 ≤ b ∧ b < m ∧ (subN b o = true ∧ bad b = true) ∧ ∀ p, 1 ≤ p → p < m → (subN p o = true ∧ bad p = true) → popN b 26 < popN p 26 ∨ (popN b 26 = popN p 26 ∧ b ≤ p))
theorem bs_ok {bad : Nat → Bool} {o : Nat} : ∀ q p b, 1 ≤ p → bsOk bad o p b → bsOk bad o (p + q) (bsF bad o q p b)
  | 0, p, b, _, h => h
  | q + 1, p, b, hp, h => by
    rw [bsF, show p + (q + 1) = (p + 1) + q by omega]
    refine bs_ok q (p + 1) _ (by omega) ?_
    split
    · rename_i hc
      refine Or.inr ⟨hp, by omega, ⟨hc.1, hc.2.2⟩, fun p' h1 h2 h3 => ?_⟩
      by_cases e : p' = p
      · subst e; right; omega
      · rcases h with ⟨hb, h⟩ | ⟨hb1, hb2, hb3, h⟩
        · exact absurd h3 (h p' h1 (by omega))
        · have := h p' h1 (by omega) h3
          rcases hc.2.1 with q | q
          · omega
          · left; omega
    · rename_i hc
      rcases h with ⟨hb, h⟩ | ⟨hb1, hb2, hb3, h⟩
      · refine Or.inl ⟨hb, fun p' h1 h2 h3 => ?_⟩
        by_cases e : p' = p
        · subst e; exact hc ⟨h3.1, Or.inl hb, h3.2⟩
        · exact h p' h1 (by omega) h3
      · refine Or.inr ⟨hb1, by omega, hb3, fun p' h1 h2 h3 => ?_⟩
        by_cases e : p' = p
        · subst e
          rcases Nat.lt_or_ge (popN p' 26) (popN b 26) with q | q
          · exact absurd ⟨h3.1, Or.inr q, h3.2⟩ hc
          · omega
        · exact h p' h1 (by omega) h3
theorem bs_uni {bad : Nat → Bool} {o m b b' : Nat} (h : bsOk bad o m b) (h' : bsOk bad o m b') : b = b' := by
  rcases h with ⟨hb, h⟩ | ⟨hb1, hb2, hb3, h⟩
  · rcases h' with ⟨hb', h'⟩ | ⟨hb1', hb2', hb3', h'⟩
    · omega
    · exact absurd hb3' (h b' hb1' hb2')
  · rcases h' with ⟨hb', h'⟩ | ⟨hb1', hb2', hb3', h'⟩
    · exact absurd hb3 (h' b hb1 hb2)
    · have q1 := h b' hb1' hb2' hb3'
      have q2 := h' b hb1 hb2 hb3
      omega
abbrev badB (R : RecS) (p : Nat) : Bool := !ordB R (nI p)
theorem fwP_spec {R : RecS} {o l : Nat} (ho : o ≤ 15) (hl : l ≤ 5) : ∀ q p, p + q = o + 1 → (∀ x, fwP R o l q p = some x → p ≤ x ∧ x ≤ o ∧ (subN x o = true ∧ badB R x = true) ∧ popN x 26 = l ∧ ∀ y, p ≤ y → y < x → ¬ ((subN y o = true ∧ badB R y = true) ∧ popN y 26 = l)) ∧ (fwP R o l q p = none → ∀ y, p ≤ y → y ≤ o → ¬ ((subN y o = true ∧ badB R y = true) ∧ popN y 26 = l))
  | 0, p, hp => ⟨fun x h => (by cases h), fun _ y h1 h2 => by omega⟩
  | q + 1, p, hp => by
    obtain ⟨i1, i2⟩ := fwP_spec (R := R) ho hl q (p + 1) (by omega)
    have hle := popN_le p 26
    have e1 : bcI (nI p) = nI (popN p 26) := by
      have hbv : (nI p).toBitVec.toNat = p := nI_bv (by omega)
      rw [bcI_pop (by rw [hbv]; omega), onesF_pop _ _ (by omega), hbv]
    have iff1 : (nI p &&& (nI o ^^^ -1) = 0 ∧ bcI (nI p) = nI l ∧ ordB R (nI p) = false) ↔ ((subN p o = true ∧ badB R p = true) ∧ popN p 26 = l) := by
      rw [and_notN (by omega) (by omega), e1, nI_eq (by omega) (by omega)]
      unfold badB
      cases ordB R (nI p) <;> simp
    rw [fwP]
    by_cases hc : nI p &&& (nI o ^^^ -1) = 0 ∧ bcI (nI p) = nI l ∧ ordB R (nI p) = false
    · rw [if_pos hc]
      have hc2 := iff1.mp hc
      refine ⟨fun x h => ?_, fun h => (by cases h)⟩
      cases h
      exact ⟨Nat.le_refl _, by omega, hc2.1, hc2.2, fun y h1 h2 => by omega⟩
    · rw [if_neg hc]
      refine ⟨fun x h => ?_, fun h y h1 h2 => ?_⟩
      · obtain ⟨j1, j2, j3, j4, j5⟩ := i1 x h
        refine ⟨by omega, j2, j3, j4, fun y h1 h2 => ?_⟩
        by_cases e : y = p
        · subst e; exact fun q => hc (iff1.mpr q)
        · exact j5 y (by omega) h2
      · by_cases e : y = p
        · subst e; exact fun q => hc (iff1.mpr q)
        · exact i2 h y (by omega) h2
theorem sub_le {a b : Nat} (h : subN a b = true) : a ≤ b := by
  have e := of_decide_eq_true h
  rw [← e]; exact Nat.and_le_right
theorem sing_ok {R : RecS} (hw : wfR R) {p : Nat} (h1 : 1 ≤ p) (h15 : p ≤ 15) (hp : popN p 26 = 1) : badB R p = false := by
  have h : ∃ i, i < 4 ∧ ∀ j, j < 4 → (inB (nI p) (nI j) = true ↔ j = i) := by
    have hall : ∀ p : Fin 16, popN p.1 26 = 1 → ∃ i : Fin 4, ∀ j : Fin 4, (inB (nI p.1) (nI j.1) = true ↔ j.1 = i.1) := by decide +kernel
    obtain ⟨i, hi⟩ := hall ⟨p, by omega⟩ hp
    exact ⟨i.1, i.2, fun j hj => hi ⟨j, hj⟩⟩
  obtain ⟨i, hi, hh⟩ := h
  have := one_ok hw (set := nI p) hi (fun j => ⟨fun q => (hh j q.1).mp q.2, fun q => by subst q; exact ⟨hi, (hh j hi).mpr rfl⟩⟩)
  show (!ordB R (nI p)) = false
  rw [this]; rfl
theorem pop_4 {p : Nat} (h1 : 1 ≤ p) (h15 : p ≤ 15) : 1 ≤ popN p 26 ∧ popN p 26 ≤ 4 := by
  have hall : ∀ p : Fin 16, 1 ≤ p.1 → 1 ≤ popN p.1 26 ∧ popN p.1 26 ≤ 4 := by decide +kernel
  exact hall ⟨p, by omega⟩ h1
theorem fwO_ok {R : RecS} (hw : wfR R) {o : Nat} (ho : o ≤ 15) : ∃ b, fwO R o 3 2 = nI b ∧ bsOk (badB R) o 16 b := by
  have rng : ∀ p, 1 ≤ p → p < 16 → (subN p o = true ∧ badB R p = true) → p ≤ o ∧ 2 ≤ popN p 26 ∧ popN p 26 ≤ 4 := by
    intro p h1 h2 h3
    have h4 := pop_4 h1 (by omega)
    refine ⟨sub_le h3.1, ?_, h4.2⟩
    rcases Nat.lt_or_ge (popN p 26) 2 with q | q
    · have := sing_ok hw h1 (by omega) (by omega)
      rw [this] at h3; cases h3.2
    · exact q
  have fin : ∀ l, l ≤ 4 → (∀ p, 1 ≤ p → p < 16 → (subN p o = true ∧ badB R p = true) → l ≤ popN p 26) → ∀ x, fwP R o l o 1 = some x → bsOk (badB R) o 16 x := by
    intro l hl hmin x hx
    obtain ⟨j1, j2, j3, j4, j5⟩ := (fwP_spec (R := R) (l := l) ho (by omega) o 1 (by omega)).1 x hx
    refine Or.inr ⟨j1, by omega, j3, fun p h1 h2 h3 => ?_⟩
    have h4 := hmin p h1 h2 h3
    have h5 := rng p h1 h2 h3
    rcases Nat.lt_or_ge l (popN p 26) with q | q
    · left; omega
    · right
      refine ⟨by omega, ?_⟩
      rcases Nat.lt_or_ge p x with q2 | q2
      · exact absurd ⟨h3, by omega⟩ (j5 p h1 q2)
      · exact q2
  have non : ∀ l, l ≤ 4 → fwP R o l o 1 = none → ∀ p, 1 ≤ p → p < 16 → (subN p o = true ∧ badB R p = true) → popN p 26 ≠ l := by
    intro l hl hn p h1 h2 h3 e
    exact (fwP_spec (R := R) (l := l) ho (by omega) o 1 (by omega)).2 hn p h1 (rng p h1 h2 h3).1 ⟨h3, e⟩
  cases e2 : fwP R o 2 o 1 with
  | some x => exact ⟨x, by simp only [fwO, e2], fin 2 (by omega) (fun p h1 h2 h3 => (rng p h1 h2 h3).2.1) x e2⟩
  | none =>
    have n2 := non 2 (by omega) e2
    cases e3 : fwP R o 3 o 1 with
    | some x =>
      refine ⟨x, by simp only [fwO, e2, e3], fin 3 (by omega) (fun p h1 h2 h3 => ?_) x e3⟩
      have := n2 p h1 h2 h3
      have := rng p h1 h2 h3
      omega
    | none =>
      have n3 := non 3 (by omega) e3
      cases e4 : fwP R o 4 o 1 with
      | some x =>
        refine ⟨x, by simp only [fwO, e2, e3, e4], fin 4 (by omega) (fun p h1 h2 h3 => ?_) x e4⟩
        have := n2 p h1 h2 h3
        have := n3 p h1 h2 h3
        have := rng p h1 h2 h3
        omega
      | none =>
        have n4 := non 4 (by omega) e4
        refine ⟨0, by simp only [fwO, e2, e3, e4], Or.inl ⟨rfl, fun p h1 h2 h3 => ?_⟩⟩
        have := n2 p h1 h2 h3
        have := n3 p h1 h2 h3
        have := n4 p h1 h2 h3
        have := rng p h1 h2 h3
        omega
theorem fwO_bs {R : RecS} (hw : wfR R) {o : Nat} (ho : o ≤ 15) : fwO R o 3 2 = nI (bsF (badB R) o 15 1 0) := by
  obtain ⟨b, e, hb⟩ := fwO_ok hw ho
  have h0 : bsOk (badB R) o 1 0 := Or.inl ⟨rfl, fun p h1 h2 => by omega⟩
  rw [e, bs_uni hb (bs_ok 15 1 0 (Nat.le_refl _) h0)]
theorem bsF_lt {bad : Nat → Bool} {o : Nat} : bsF bad o 15 1 0 < 16 := by
  have h0 : bsOk bad o 1 0 := Or.inl ⟨rfl, fun p h1 h2 => by omega⟩
  rcases bs_ok 15 1 0 (Nat.le_refl _) h0 with ⟨h, -⟩ | ⟨-, h, -⟩ <;> omega
