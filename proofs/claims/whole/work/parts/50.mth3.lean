theorem nm_at {R : RecS} {i k : Nat} (hw : wfR R) (hi : i < 4) (hk : k < (R.1 i).length) : ∃ c, c < 26 ∧ (R.1 i).getD k 0 = nI c := by
  obtain ⟨c, hc, ec, -⟩ := rg_ix (hi := 25) ((hw.1 i hi).2.2 _ (mem_getD hk))
  exact ⟨c, by omega, ec⟩
theorem nxt_bef {R : RecS} {set : Int32} {x y : Nat} (h : nxtR R set x y) : befR R set x y := by
  obtain ⟨i, hc, k, h1, h2, h3⟩ := h
  exact ⟨i, hc, k, k + 1, by omega, h1, h2, h3⟩
theorem bef_cl {R : RecS} {set : Int32} (hw : wfR R) (B : Nat → Bool) (hB : ∀ y, y < 26 → B y = true → ∀ z, z < 26 → nxtR R set z y → B z = true) (x : Nat) (hx : x < 26) (h0 : ∀ z, z < 26 → nxtR R set z x → B z = true) : ∀ z, z < 26 → befR R set z x → B z = true := by
  rintro z hz ⟨i, hc, j, k, hjk, hk, e1, e2⟩
  have key : ∀ t, j + t + 1 ≤ k → ∀ c, c < 26 → (R.1 i).getD (k - (t + 1)) 0 = nI c → B c = true := by
    intro t
    induction t with
    | zero =>
      intro ht c hcc e
      exact h0 c hcc ⟨i, hc, k - 1, by omega, e, by rw [show k - 1 + 1 = k by omega]; exact e2⟩
    | succ t ih =>
      intro ht c hcc e
      obtain ⟨d, hd, ed⟩ := nm_at hw hc.1 (show k - (t + 1) < (R.1 i).length by omega)
      exact hB d hd (ih (by omega) d hd ed) c hcc ⟨i, hc, k - (t + 1 + 1), by omega, e, by rw [show k - (t + 1 + 1) + 1 = k - (t + 1) by omega]; exact ed⟩
  exact key (k - j - 1) (by omega) z hz (by rw [show k - (k - j - 1 + 1) = j by omega]; exact e1)
abbrev alS (R : RecS) (set : Int32) : Nat → Bool := fun x => bt (loA R set) x
theorem cdS_al (x : Int32) : ∀ k, cdS (fun z => bt x z) k = popN x.toBitVec.toNat k
  | 0 => rfl
  | k + 1 => by rw [cdS, popN_s, cdS_al x k, bt_nat]
theorem VV_bn {R : RecS} {set : Int32} (hw : wfR R) (n : Nat) (A : Nat → Bool) (hc : cdS A 26 = n) : VV (befR R set) n A = VV (nxtR R set) n A := VV_eq (fun _ _ h => nxt_bef h) (fun B hB x hx h0 => bef_cl hw B hB x hx h0) n A hc
theorem nmL_mem {al : Int32} {x : Nat} : ∀ k, x ∈ nmL al k ↔ x < k ∧ bt al x = true
  | 0 => by simp [nmL]
  | k + 1 => by
    rw [nmL]
    by_cases e : bt al k = true
    · rw [if_pos e, List.mem_append, nmL_mem k, List.mem_singleton]
      constructor
      · rintro (q | rfl)
        · exact ⟨by omega, q.2⟩
        · exact ⟨by omega, e⟩
      · rintro ⟨h1, h2⟩
        by_cases ex : x = k
        · exact Or.inr ex
        · exact Or.inl ⟨by omega, h2⟩
    · rw [if_neg e, nmL_mem k]
      constructor
      · rintro ⟨h1, h2⟩; exact ⟨by omega, h2⟩
      · rintro ⟨h1, h2⟩
        refine ⟨?_, h2⟩
        by_cases ex : x = k
        · subst ex; exact absurd h2 e
        · omega
theorem nmL_nd (al : Int32) : ∀ k, (nmL al k).Nodup
  | 0 => List.nodup_nil
  | k + 1 => by
    rw [nmL]
    split
    · refine List.nodup_append.mpr ⟨nmL_nd al k, by simp, fun a ha b hb e => ?_⟩
      rw [List.mem_singleton] at hb
      have := ((nmL_mem k).mp ha).1
      omega
    · exact nmL_nd al k
theorem pk_bit (al bits : Int32) (j : Nat) : ∀ k, (pkF al bits k).testBit j = true ↔ j < (nmL al k).length ∧ bt bits ((nmL al k).getD j 0) = true
  | 0 => by simp [pkF, nmL]
  | k + 1 => by
    have ih := pk_bit al bits j k
    have hlt := pkF_lt al bits k
    rw [pkF, nmL]
    by_cases e : bt al k = true
    · rw [if_pos e, if_pos e, List.length_append, List.length_singleton]
      have gl : j < (nmL al k).length → (nmL al k ++ [k]).getD j 0 = (nmL al k).getD j 0 := fun h => by rw [List.getD_eq_getElem?_getD, List.getD_eq_getElem?_getD, List.getElem?_append_left h]
      have ge : (nmL al k ++ [k]).getD (nmL al k).length 0 = k := by simp [List.getD_eq_getElem?_getD]
      by_cases eb : bt bits k = true
      · rw [if_pos eb]
        have tb := Nat.testBit_two_pow_mul_add 1 hlt j
        rw [Nat.mul_one] at tb
        rw [tb]
        by_cases hj : j < (nmL al k).length
        · rw [if_pos hj, ih, gl hj]
          exact ⟨fun q => ⟨by omega, q.2⟩, fun q => ⟨hj, q.2⟩⟩
        · rw [if_neg hj]
          by_cases ej : j = (nmL al k).length
          · subst ej
            rw [ge]
            simp [eb]
          · constructor
            · intro q
              exfalso
              have : (1 : Nat).testBit (j - (nmL al k).length) = false := by
                cases e2 : j - (nmL al k).length with
                | zero => omega
                | succ d => simp [Nat.testBit_succ]
              rw [this] at q; cases q
            · rintro ⟨q, -⟩; omega
      · rw [if_neg eb, ih]
        constructor
        · rintro ⟨q1, q2⟩; exact ⟨by omega, by rw [gl q1]; exact q2⟩
        · rintro ⟨q1, q2⟩
          by_cases ej : j = (nmL al k).length
          · subst ej; rw [ge] at q2; exact absurd q2 eb
          · exact ⟨by omega, by rw [gl (by omega)] at q2; exact q2⟩
    · rw [if_neg e, if_neg e, ih]
theorem pop_full : ∀ N M, M ≤ N → popN (2 ^ N - 1) M = M
  | N, 0, _ => rfl
  | N, M + 1, h => by rw [popN_s, pop_full N M (by omega), Nat.testBit_two_pow_sub_one, decide_eq_true (by omega)]; rfl
theorem getD_memN {q : List Nat} {k : Nat} (hk : k < q.length) : q.getD k 0 ∈ q := by rw [List.getD_eq_getElem?_getD, List.getElem?_eq_getElem hk]; exact List.getElem_mem _
theorem mem_getDN {q : List Nat} {x : Nat} (h : x ∈ q) : ∃ j, j < q.length ∧ q.getD j 0 = x := by
  obtain ⟨j, hj, e⟩ := List.getElem_of_mem h
  exact ⟨j, hj, by rw [List.getD_eq_getElem?_getD, List.getElem?_eq_getElem hj]; exact e⟩
theorem bef_mem {R : RecS} {set : Int32} {x y : Nat} (h : befR R set x y) : memR R set x ∧ memR R set y := by
  obtain ⟨i, hc, j, k, h1, h2, h3, h4⟩ := h
  exact ⟨⟨i, hc, by rw [← h3]; exact mem_getD (by omega)⟩, ⟨i, hc, by rw [← h4]; exact mem_getD h2⟩⟩
/-- a full numbering counts the orders -/
theorem WW_VV {pr : Nat → Nat → Prop} {q : List Nat} {nd : Nat → Nat} {A : Nat → Bool} (hn : q.Nodup) (h26 : ∀ x, x ∈ q → x < 26) (hnd : ∀ k, k < q.length → ∀ j, (nd k).testBit j = true ↔ j < q.length ∧ pr (q.getD j 0) (q.getD k 0)) (hin : ∀ k, k < q.length → ∀ z, z < 26 → pr z (q.getD k 0) → z ∈ q) (hA : ∀ x, x < 26 → (A x = true ↔ x ∈ q)) : WW nd q.length (2 ^ q.length - 1) = VV pr q.length A := by
  rw [WW, pop_full _ _ (Nat.le_refl _), UV hn h26 hnd (fun k hk z hz hp => mem_getDN (hin k hk z hz hp)) _ _ (pop_full _ _ (Nat.le_refl _))]
  refine VV_congr _ _ _ (fun z hz => ?_)
  rw [Bool.eq_iff_iff, AofS_t, hA z hz]
  constructor
  · rintro ⟨j, hj, e, -⟩; rw [← e]; exact getD_memN hj
  · intro h
    obtain ⟨j, hj, e⟩ := mem_getDN h
    exact ⟨j, hj, e, by rw [Nat.testBit_two_pow_sub_one, decide_eq_true hj]⟩
theorem ord_C {R : RecS} {set : Int32} (hw : wfR R) : WW (ndC (loB R set) (loA R set)) (nmS R set).length (2 ^ (nmS R set).length - 1) = VV (befR R set) (popN (loA R set).toBitVec.toNat 26) (alS R set) := by
  rw [← nmL_len]
  refine WW_VV (nmL_nd _ 26) (fun x hx => ((nmL_mem 26).mp hx).1) (fun k hk j => ?_) (fun k hk z hz hp => ?_) (fun x hx => ?_)
  · have hk26 := ((nmL_mem 26).mp (getD_memN hk)).1
    rw [ndC, pk_bit]
    constructor
    · rintro ⟨h1, h2⟩
      have hj26 := ((nmL_mem 26).mp (getD_memN h1)).1
      exact ⟨h1, (lo_bef hw (Nat.lt_trans hj26 (by decide)) hk26).mp h2⟩
    · rintro ⟨h1, h2⟩
      have hj26 := ((nmL_mem 26).mp (getD_memN h1)).1
      exact ⟨h1, (lo_bef hw (Nat.lt_trans hj26 (by decide)) hk26).mpr h2⟩
  · exact (nmL_mem 26).mpr ⟨hz, (lo_mem hw (by omega)).mpr (bef_mem hp).1⟩
  · rw [nmL_mem]
    exact ⟨fun h => ⟨hx, h⟩, fun h => h.2⟩
abbrev ndM (s : NB) (k : Nat) : Nat := (s.2 k).toBitVec.toNat
theorem ix_nI {x : Nat} (hx : x < 26) : ixN (nI x) = x := by rw [ixN, nI_toInt (by omega)]; omega
theorem ga_al {R : RecS} {set : Int32} (hw : wfR R) : bitsL (gaA R set 4).1 = loA R set := by
  obtain ⟨g1, g2⟩ := gaA_GI (set := set) hw 4 (Nat.le_refl _)
  apply bt_ext
  intro k hk
  rw [Bool.eq_iff_iff, bt_bitsL g1.1.2 hk, g2, lo_mem hw hk]
  exact ⟨fun ⟨i, h1, h2, h3⟩ => ⟨i, ⟨h1, h2⟩, h3⟩, fun ⟨i, ⟨h1, h2⟩, h3⟩ => ⟨i, h1, h2, h3⟩⟩
theorem ga_len {R : RecS} {set : Int32} (hw : wfR R) : (gaA R set 4).1.length = popN (loA R set).toBitVec.toNat 26 := by
  rw [← ga_al hw, pop_bits _ _ rfl (gaA_ndR hw 4 (Nat.le_refl _))]
theorem ga_at {R : RecS} {set : Int32} (hw : wfR R) {k : Nat} (hk : k < (gaA R set 4).1.length) : ∃ c, c < 26 ∧ (gaA R set 4).1.getD k 0 = nI c ∧ ((gaA R set 4).1.map ixN).getD k 0 = c := by
  have nd := gaA_ndR (set := set) hw 4 (Nat.le_refl _)
  obtain ⟨c, hc, ec, ec2⟩ := rg_ix (hi := 25) (nd.2 _ (mem_getD hk))
  refine ⟨c, by omega, ec, ?_⟩
  rw [List.getD_eq_getElem?_getD, List.getElem?_map, List.getElem?_eq_getElem hk]
  rw [List.getD_eq_getElem?_getD, List.getElem?_eq_getElem hk] at ec2
  exact ec2
theorem ga_nxt {R : RecS} {set : Int32} (hw : wfR R) {k j c d : Nat} (hk : k < (gaA R set 4).1.length) (hj : j < 32) (ec : (gaA R set 4).1.getD k 0 = nI c) (ed : j < (gaA R set 4).1.length → (gaA R set 4).1.getD j 0 = nI d) : bt ((gaA R set 4).2 k) j = true ↔ j < (gaA R set 4).1.length ∧ nxtR R set d c := by
  obtain ⟨g1, g2⟩ := gaA_GI (set := set) hw 4 (Nat.le_refl _)
  rw [g1.2.1 k hk j hj]
  constructor
  · rintro ⟨h1, i, h2, h3, t, h4, h5, h6⟩
    rw [ed h1] at h5
    rw [ec] at h6
    exact ⟨h1, i, ⟨h2, h3⟩, t, h4, h5, h6⟩
  · rintro ⟨h1, i, ⟨h2, h3⟩, t, h4, h5, h6⟩
    rw [ed h1, ec]
    exact ⟨h1, i, h2, h3, t, h4, h5, h6⟩
theorem ga_memN {R : RecS} {set : Int32} (hw : wfR R) {x : Nat} (hx : x < 26) : x ∈ (gaA R set 4).1.map ixN ↔ memR R set x := by
  obtain ⟨g1, g2⟩ := gaA_GI (set := set) hw 4 (Nat.le_refl _)
  rw [List.mem_map]
  constructor
  · rintro ⟨z, hz, e⟩
    obtain ⟨c, hc, ec, ec2⟩ := rg_ix (hi := 25) (g1.1.2 z hz)
    obtain ⟨i, h1, h2, h3⟩ := (g2 z).mp hz
    have : c = x := by rw [← ec2]; exact e
    subst this
    exact ⟨i, ⟨h1, h2⟩, by rw [← ec]; exact h3⟩
  · rintro ⟨i, ⟨h1, h2⟩, h3⟩
    exact ⟨nI x, (g2 _).mpr ⟨i, h1, h2, h3⟩, ix_nI hx⟩
theorem ga_ndN {R : RecS} {set : Int32} (hw : wfR R) : ((gaA R set 4).1.map ixN).Nodup ∧ ∀ x, x ∈ (gaA R set 4).1.map ixN → x < 26 := by
  have nd := gaA_ndR (set := set) hw 4 (Nat.le_refl _)
  refine ⟨?_, fun x hx => ?_⟩
  · refine List.Pairwise.map ixN (R := fun a b => a ≠ b ∧ (rg 0 25 a = true ∧ rg 0 25 b = true)) (fun a b h e => ?_) ?_
    · obtain ⟨c, hc, ec, ec2⟩ := rg_ix (hi := 25) h.2.1
      obtain ⟨d, hd, ed, ed2⟩ := rg_ix (hi := 25) h.2.2
      exact h.1 (by rw [ec, ed, ← ec2, ← ed2, e])
    · exact List.Pairwise.imp_of_mem (fun ha hb h => ⟨h, nd.2 _ ha, nd.2 _ hb⟩) nd.1
  · obtain ⟨z, hz, e⟩ := List.mem_map.mp hx
    obtain ⟨c, hc, ec, ec2⟩ := rg_ix (hi := 25) (nd.2 z hz)
    rw [← e, ec2]; omega
theorem ord_M {R : RecS} {set : Int32} (hw : wfR R) : WW (ndM (gaA R set 4)) (gaA R set 4).1.length (2 ^ (gaA R set 4).1.length - 1) = VV (nxtR R set) (popN (loA R set).toBitVec.toNat 26) (alS R set) := by
  obtain ⟨n1, n2⟩ := ga_ndN (set := set) hw
  have hl : ((gaA R set 4).1.map ixN).length = (gaA R set 4).1.length := List.length_map ..
  have l26 := ndR_len (gaA_ndR (set := set) hw 4 (Nat.le_refl _))
  rw [← ga_len hw, ← hl]
  refine WW_VV n1 n2 (fun k hk j => ?_) (fun k hk z hz hp => ?_) (fun x hx => ?_)
  · rw [hl] at hk ⊢
    obtain ⟨c, hc, ec, ec2⟩ := ga_at hw hk
    rw [ndM, bt_nat, ec2]
    by_cases hj : j < (gaA R set 4).1.length
    · obtain ⟨d, hd, ed, ed2⟩ := ga_at hw hj
      rw [ed2, ga_nxt hw hk (by omega) ec (fun _ => ed)]
    · constructor
      · intro q
        by_cases h32 : j < 32
        · exact absurd ((ga_nxt (d := 0) hw hk h32 ec (fun h => absurd h hj)).mp q).1 hj
        · rw [bt_ge _ (by omega)] at q; cases q
      · rintro ⟨q, -⟩; exact absurd q hj
  · exact (ga_memN hw hz).mpr (bef_mem (nxt_bef hp)).1
  · rw [ga_memN hw hx, lo_mem hw (by omega)]
theorem ord_eq {R : RecS} {set : Int32} (hw : wfR R) : WW (ndC (loB R set) (loA R set)) (nmS R set).length (2 ^ (nmS R set).length - 1) = WW (ndM (gaA R set 4)) (gaA R set 4).1.length (2 ^ (gaA R set 4).1.length - 1) := by
  rw [ord_C hw, ord_M hw, VV_bn hw _ _ (cdS_al _ 26)]
