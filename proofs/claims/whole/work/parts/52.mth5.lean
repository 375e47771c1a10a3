/-! who is surely ahead: the least set that holds those just before, and those before them -/
def TC (r : Nat → Nat → Prop) (x y : Nat) : Prop := ∀ B : Nat → Prop, (∀ z, r z y → B z) → (∀ z w, B w → r z w → B z) → B x
theorem TC.one {r : Nat → Nat → Prop} {x y : Nat} (h : r x y) : TC r x y := fun _ h0 _ => h0 x h
theorem TC.step {r : Nat → Nat → Prop} {x w y : Nat} (h : r x w) (h2 : TC r w y) : TC r x y := fun B h0 hc => hc x w (h2 B h0 hc) h
theorem TC.trans {r : Nat → Nat → Prop} {x w y : Nat} (h : TC r x w) (h2 : TC r w y) : TC r x y := h (fun z => TC r z y) (fun _ q => TC.step q h2) (fun _ _ q1 q2 => TC.step q2 q1)
theorem TC.sub {r r' : Nat → Nat → Prop} (hs : ∀ x y, r x y → TC r' x y) {x y : Nat} (h : TC r x y) : TC r' x y := h (fun z => TC r' z y) (fun z q => hs z y q) (fun z w q1 q2 => (hs z w q2).trans q1)
theorem wa_bit (f : Nat → Int32) (p : Int32) {x : Nat} : ∀ k, k ≤ 32 → (bt (waF f p k) x = true ↔ bt p x = true ∨ ∃ j, j < k ∧ bt p j = true ∧ bt (f j) x = true)
  | 0, _ => ⟨Or.inl, fun q => q.elim id (fun ⟨j, hj, _⟩ => absurd hj (Nat.not_lt_zero j))⟩
  | k + 1, hk => by
    have ih := wa_bit f p (x := x) k (by omega)
    rw [waF, inB_bt _ (by omega)]
    split
    · rename_i hc
      rw [bt_or, Bool.or_eq_true, ih]
      constructor
      · rintro ((q | ⟨j, hj, q⟩) | q)
        · exact Or.inl q
        · exact Or.inr ⟨j, by omega, q⟩
        · exact Or.inr ⟨k, by omega, hc, q⟩
      · rintro (q | ⟨j, hj, q⟩)
        · exact Or.inl (Or.inl q)
        · by_cases e : j = k
          · subst e; exact Or.inr q.2
          · exact Or.inl (Or.inr ⟨j, by omega, q⟩)
    · rename_i hc
      rw [ih]
      constructor
      · rintro (q | ⟨j, hj, q⟩)
        · exact Or.inl q
        · exact Or.inr ⟨j, by omega, q⟩
      · rintro (q | ⟨j, hj, q⟩)
        · exact Or.inl q
        · by_cases e : j = k
          · subst e; exact absurd q.1 hc
          · exact Or.inr ⟨j, by omega, q⟩
theorem bt_sub_ne {p p' : Int32} (hs : ∀ x, x < 32 → bt p x = true → bt p' x = true) (hne : p' ≠ p) : ∃ x, x < 32 ∧ bt p x = false ∧ bt p' x = true := by
  refine Classical.byContradiction (fun hno => hne ?_)
  apply bt_ext
  intro k hk
  cases e3 : bt p k with
  | true => exact hs k hk e3
  | false =>
    cases e4 : bt p' k with
    | false => rfl
    | true => exact absurd ⟨k, hk, e3, e4⟩ hno
theorem aa_sound {r : Nat → Nat → Prop} {f : Nat → Int32} {y : Nat} (hf : ∀ y, y < 26 → ∀ x, x < 32 → (bt (f y) x = true ↔ r x y)) : ∀ q p, (∀ x, x < 32 → bt p x = true → TC r x y) → ∀ x, x < 32 → bt (aaF f q p) x = true → TC r x y
  | 0, p, h, x, hx, hb => h x hx hb
  | q + 1, p, h, x, hx, hb => by
    rw [aaF] at hb
    split at hb
    · exact h x hx hb
    · refine aa_sound hf q _ (fun z hz hzb => ?_) x hx hb
      rcases (wa_bit f p 26 (by omega)).mp hzb with w | ⟨j, hj, w1, w2⟩
      · exact h z hz w
      · exact TC.step ((hf j hj z hz).mp w2) (h j (by omega) w1)
theorem aa_mono {f : Nat → Int32} {x : Nat} : ∀ q p, bt p x = true → bt (aaF f q p) x = true
  | 0, p, h => h
  | q + 1, p, h => by
    rw [aaF]
    split
    · exact h
    · exact aa_mono q _ ((wa_bit f p 26 (by omega)).mpr (Or.inl h))
theorem aa_cl {r : Nat → Nat → Prop} {f : Nat → Int32} (hf : ∀ y, y < 26 → ∀ x, x < 32 → (bt (f y) x = true ↔ r x y)) (hr : ∀ x y, r x y → x < 26) : ∀ q p, (∀ x, x < 32 → bt p x = true → x < 26) → 26 ≤ cdS (bS p) 26 + q → ∀ j, j < 26 → bt (aaF f q p) j = true → ∀ x, x < 32 → bt (f j) x = true → bt (aaF f q p) x = true
  | 0, p, hp, hc, j, hj, hb, x, hx, hfx => cdS_full (A := bS p) 26 (by omega) x (hr x j ((hf j hj x hx).mp hfx))
  | q + 1, p, hp, hc, j, hj, hb, x, hx, hfx => by
    rw [aaF] at hb ⊢
    by_cases e : waF f p 26 = p
    · rw [if_pos e] at hb ⊢
      rw [← e]
      exact (wa_bit f p 26 (by omega)).mpr (Or.inr ⟨j, hj, hb, hfx⟩)
    · rw [if_neg e] at hb ⊢
      have hp' : ∀ x, x < 32 → bt (waF f p 26) x = true → x < 26 := by
        intro x hx h
        rcases (wa_bit f p 26 (by omega)).mp h with w | ⟨j, hj, w1, w2⟩
        · exact hp x hx w
        · exact hr x j ((hf j hj x hx).mp w2)
      obtain ⟨z, hz, h1, h2⟩ := bt_sub_ne (fun x _ h => (wa_bit f p (x := x) 26 (by omega)).mpr (Or.inl h)) e
      have := cdS_lt (A := bS p) (B := bS (waF f p 26)) 26 (hp' z hz h2) (fun k _ h => (wa_bit f p 26 (by omega)).mpr (Or.inl h)) h1 h2
      exact aa_cl hf hr q _ hp' (by omega) j hj hb x hx hfx
theorem aa_iff {r : Nat → Nat → Prop} {f : Nat → Int32} (hf : ∀ y, y < 26 → ∀ x, x < 32 → (bt (f y) x = true ↔ r x y)) (hr : ∀ x y, r x y → x < 26 ∧ y < 26) {x y : Nat} (hx : x < 32) (hy : y < 26) : bt (aaF f 26 (f y)) x = true ↔ TC r x y := by
  constructor
  · exact fun h => aa_sound hf 26 (f y) (fun z hz h => TC.one ((hf y hy z hz).mp h)) x hx h
  · intro h
    have := h (fun z => z < 26 ∧ bt (aaF f 26 (f y)) z = true) (fun z q => ?_) (fun z w q1 q2 => ?_)
    · exact this.2
    · have hz := (hr z y q).1
      exact ⟨hz, aa_mono 26 _ ((hf y hy z (by omega)).mpr q)⟩
    · have hz := (hr z w q2).1
      exact ⟨hz, aa_cl hf (fun x y h => (hr x y h).1) 26 (f y) (fun x hx h => (hr x y ((hf y hy x hx).mp h)).1) (by omega) w q1.1 q1.2 z (by omega) ((hf w q1.1 z (by omega)).mpr q2)⟩
def r26 (r : Nat → Nat → Prop) (x y : Nat) : Prop := x < 26 ∧ y < 26 ∧ r x y
theorem mem_26 {R : RecS} {set : Int32} (hw : wfR R) {x : Nat} (hx : x < 32) (h : memR R set x) : x < 26 := by
  obtain ⟨i, hc, hm⟩ := h
  obtain ⟨c, hc2, ec, -⟩ := rg_ix (hi := 25) ((hw.1 i hc.1).2.2 _ hm)
  have := (nI_eq (by omega) (by omega)).mp ec
  omega
theorem TC_bn {R : RecS} {set : Int32} (hw : wfR R) {x y : Nat} : TC (r26 (befR R set)) x y ↔ TC (r26 (nxtR R set)) x y := by
  constructor
  · refine TC.sub (fun x y h => ?_)
    obtain ⟨hx, hy, hb⟩ := h
    have hq : ∀ z, @decide (TC (r26 (nxtR R set)) z y) (Classical.propDecidable _) = true ↔ TC (r26 (nxtR R set)) z y := fun z => @decide_eq_true_iff _ (Classical.propDecidable _)
    have := bef_cl hw (fun z => @decide (TC (r26 (nxtR R set)) z y) (Classical.propDecidable _)) (fun w hw' hB z hz hn => (hq z).mpr (TC.step ⟨hz, hw', hn⟩ ((hq w).mp hB))) y hy (fun z hz hn => (hq z).mpr (TC.one ⟨hz, hy, hn⟩)) x hx hb
    exact (hq x).mp this
  · exact TC.sub (fun x y h => TC.one ⟨h.1, h.2.1, nxt_bef h.2.2⟩)
theorem aa_TC {R : RecS} {set : Int32} (hw : wfR R) {x y : Nat} (hx : x < 26) (hy : y < 26) : bt (aaF (loB R set) 26 (loB R set y)) x = true ↔ TC (r26 (nxtR R set)) x y := by
  rw [← TC_bn hw]
  refine aa_iff (fun y hy x hx => ?_) (fun x y h => ⟨h.1, h.2.1⟩) (by omega) hy
  rw [lo_bef hw hx hy]
  exact ⟨fun h => ⟨mem_26 hw hx (bef_mem h).1, hy, h⟩, fun h => h.2.2⟩
/-! the reference's numbers -/
def rN (R : RecS) (set : Int32) (j k : Nat) : Prop := j < (gaA R set 4).1.length ∧ k < (gaA R set 4).1.length ∧ bt ((gaA R set 4).2 k) j = true
abbrev nmN (R : RecS) (set : Int32) (k : Nat) : Nat := ((gaA R set 4).1.map ixN).getD k 0
theorem rN_nxt {R : RecS} {set : Int32} (hw : wfR R) {j k : Nat} (hj : j < (gaA R set 4).1.length) (hk : k < (gaA R set 4).1.length) : rN R set j k ↔ r26 (nxtR R set) (nmN R set j) (nmN R set k) := by
  obtain ⟨c, hc, ec, ec2⟩ := ga_at hw hk
  obtain ⟨d, hd, ed, ed2⟩ := ga_at hw hj
  have l26 := ndR_len (gaA_ndR (set := set) hw 4 (Nat.le_refl _))
  have hh := ga_nxt (d := d) hw hk (by omega) ec (fun _ => ed)
  unfold nmN r26 rN
  rw [ec2, ed2, hh]
  exact ⟨fun q => ⟨hd, hc, q.2.2.2⟩, fun q => ⟨hj, hk, hj, q.2.2⟩⟩
theorem TC_N {R : RecS} {set : Int32} (hw : wfR R) {a b : Nat} (ha : a < (gaA R set 4).1.length) (hb : b < (gaA R set 4).1.length) : TC (rN R set) a b ↔ TC (r26 (nxtR R set)) (nmN R set a) (nmN R set b) := by
  obtain ⟨n1, n2⟩ := ga_ndN (set := set) hw
  have hl : ((gaA R set 4).1.map ixN).length = (gaA R set 4).1.length := List.length_map ..
  constructor
  · intro h
    refine h (fun z => TC (r26 (nxtR R set)) (nmN R set z) (nmN R set b)) (fun z q => ?_) (fun z w q1 q2 => ?_)
    · exact TC.one ((rN_nxt hw q.1 q.2.1).mp q)
    · exact TC.step ((rN_nxt hw q2.1 q2.2.1).mp q2) q1
  · intro h
    have num : ∀ z w, r26 (nxtR R set) z w → ∃ j, j < (gaA R set 4).1.length ∧ nmN R set j = z := by
      intro z w q
      have hm := (ga_memN hw q.1).mpr (bef_mem (nxt_bef q.2.2)).1
      obtain ⟨j, hj, e⟩ := mem_getDN hm
      exact ⟨j, by rw [← hl]; exact hj, e⟩
    have := h (fun z => ∃ j, j < (gaA R set 4).1.length ∧ nmN R set j = z ∧ TC (rN R set) j b) (fun z q => ?_) (fun z w q1 q2 => ?_)
    · obtain ⟨j, hj, e, q⟩ := this
      have : j = a := ndN_inj n1 (by rw [hl]; exact hj) (by rw [hl]; exact ha) e
      subst this; exact q
    · obtain ⟨j, hj, e⟩ := num z _ q
      exact ⟨j, hj, e, TC.one ((rN_nxt hw hj hb).mpr (by rw [e]; exact q))⟩
    · obtain ⟨k, hk, ek, q⟩ := q1
      obtain ⟨j, hj, e⟩ := num z _ q2
      exact ⟨j, hj, e, TC.step ((rN_nxt hw hj hk).mpr (by rw [e, ek]; exact q2)) q⟩
/-- the rows while the reference closes them -/
def clI (R : RecS) (set : Int32) (g : Nat → Int32) : Prop := ∀ k, k < (gaA R set 4).1.length → (∀ j, j < 32 → bt ((gaA R set 4).2 k) j = true → bt (g k) j = true) ∧ ∀ j, j < 32 → bt (g k) j = true → j < (gaA R set 4).1.length ∧ TC (rN R set) j k
theorem clI.start {R : RecS} {set : Int32} (hw : wfR R) : clI R set (gaA R set 4).2 := fun k hk => ⟨fun _ _ h => h, fun j hj h => by
  obtain ⟨c, hc, ec, ec2⟩ := ga_at hw hk
  by_cases hjl : j < (gaA R set 4).1.length
  · exact ⟨hjl, TC.one ⟨hjl, hk, h⟩⟩
  · exact absurd ((ga_nxt (d := 0) hw hk hj ec (fun q => absurd q hjl)).mp h).1 hjl⟩
theorem clI.congr {R : RecS} {set : Int32} {g g' : Nat → Int32} (h : clI R set g) (e : ∀ k, k < (gaA R set 4).1.length → g' k = g k) : clI R set g' := fun k hk => by rw [e k hk]; exact h k hk
theorem clI.up {R : RecS} {set : Int32} {g : Nat → Int32} (h : clI R set g) {n : Nat} (hn : n < (gaA R set 4).1.length) (h26 : (gaA R set 4).1.length ≤ 26) : clI R set (upd g n (waF g (g n) (gaA R set 4).1.length)) := fun k hk => by
  by_cases e : k = n
  · subst e
    rw [pk_us]
    refine ⟨fun j hj q => (wa_bit g (g k) _ (by omega)).mpr (Or.inl ((h k hk).1 j hj q)), fun j hj q => ?_⟩
    rcases (wa_bit g (g k) _ (by omega)).mp q with q | ⟨i, hi, q1, q2⟩
    · exact (h k hk).2 j hj q
    · have h1 := (h k hk).2 i (by omega) q1
      have h2 := (h i hi).2 j hj q2
      exact ⟨h2.1, h2.2.trans h1.2⟩
  · rw [pk_un e]; exact h k hk
def msF (g : Nat → Int32) (N : Nat) : Nat := sumN (fun k => cdS (bS (g k)) 26) N
theorem ms_le (g : Nat → Int32) (N : Nat) : msF g N ≤ N * 26 := sumN_le N (fun k _ => by rw [cdS_al]; exact popN_le _ _)
theorem ms_congr {g g' : Nat → Int32} {N : Nat} (h : ∀ k, k < N → g' k = g k) : msF g' N = msF g N := sumN_congr N (fun k hk => by rw [h k hk])
theorem ms_up {g : Nat → Int32} {n : Nat} {v : Int32} (hlt : cdS (bS (g n)) 26 < cdS (bS v) 26) : ∀ N, n < N → msF g N < msF (upd g n v) N
  | 0, h => absurd h (Nat.not_lt_zero n)
  | N + 1, h => by
    unfold msF
    rw [sumN, sumN]
    by_cases e : n = N
    · subst e
      rw [pk_us]
      have : sumN (fun k => cdS (bS (upd g n v k)) 26) n = sumN (fun k => cdS (bS (g k)) 26) n := sumN_congr n (fun k hk => by rw [pk_un (by omega)])
      rw [this]; omega
    · have ih := ms_up hlt N (by omega)
      unfold msF at ih
      rw [pk_un (fun q => e q.symm)]
      omega
theorem cl_lt {R : RecS} {set : Int32} {g : Nat → Int32} (h : clI R set g) {n : Nat} (hn : n < (gaA R set 4).1.length) (h26 : (gaA R set 4).1.length ≤ 26) (hne : waF g (g n) (gaA R set 4).1.length ≠ g n) : cdS (bS (g n)) 26 < cdS (bS (waF g (g n) (gaA R set 4).1.length)) 26 := by
  have hs : ∀ x, x < 32 → bt (g n) x = true → bt (waF g (g n) (gaA R set 4).1.length) x = true := fun x _ q => (wa_bit g (g n) _ (by omega)).mpr (Or.inl q)
  obtain ⟨z, hz, h1, h2⟩ := bt_sub_ne hs hne
  have h3 := ((h.up hn h26) n hn).2 z hz (by rw [pk_us]; exact h2)
  exact cdS_lt 26 (by omega) (fun k hk q => hs k (by omega) q) h1 h2
theorem cl_fin {R : RecS} {set : Int32} {g : Nat → Int32} (h : clI R set g) (h26 : (gaA R set 4).1.length ≤ 26) (hcl : ∀ k, k < (gaA R set 4).1.length → waF g (g k) (gaA R set 4).1.length = g k) {a b : Nat} (ha : a < (gaA R set 4).1.length) (hb : b < (gaA R set 4).1.length) : bt (g b) a = true ↔ TC (rN R set) a b := by
  constructor
  · exact fun q => ((h b hb).2 a (by omega) q).2
  · intro q
    have := q (fun z => z < (gaA R set 4).1.length ∧ bt (g b) z = true) (fun z q => ⟨q.1, (h b hb).1 z (by have := q.1; omega) q.2.2⟩) (fun z w q1 q2 => ⟨q2.1, ?_⟩)
    · exact this.2
    · rw [← hcl b hb]
      exact (wa_bit g (g b) _ (by omega)).mpr (Or.inr ⟨w, q1.1, q1.2, (h w q1.1).1 z (by have := q2.1; omega) q2.2.2⟩)
