/-! the reference gathers names, each with those that stand just before it -/
abbrev NB : Type := List Int32 × (Nat → Int32)
def gaN (x : Int32) (s : NB) : NB := if ixL x s.1 = none then (s.1 ++ [x], upd s.2 s.1.length (nI 0)) else s
def gaI (x : Int32) (s : NB) : Nat := (ixL x s.1).getD s.1.length
def gaK (L : List Int32) (k : Nat) (s : NB) : NB :=
  ((gaN (L.getD k 0) s).1, upd (gaN (L.getD k 0) s).2 (gaI (L.getD k 0) s) ((gaN (L.getD k 0) s).2 (gaI (L.getD k 0) s) ||| (if 0 < k then bit1 (oI (ixL (L.getD (k - 1) 0) (gaN (L.getD k 0) s).1)) else nI 0)))
def gaL (L : List Int32) (s : NB) : Nat → NB
  | 0 => s
  | k + 1 => gaK L k (gaL L s k)
def gaA (R : RecS) (set : Int32) : Nat → NB
  | 0 => ([], fun _ => nI 0)
  | i + 1 => if inB set (nI i) then gaL (R.1 i) (gaA R set i) (R.1 i).length else gaA R set i
def ndR (ns : List Int32) : Prop := ns.Nodup ∧ ∀ x, x ∈ ns → rg 0 25 x = true
theorem bits_snoc (ns : List Int32) (x : Int32) : bitsL (ns ++ [x]) = bitsL ns ||| bit1 x := by
  rw [bitsL, List.length_append, List.length_singleton, bitsF]
  have e1 : bitsF (fun k => (ns ++ [x]).getD k 0) ns.length = bitsL ns := by
    refine bitsF_congr _ (fun j hj => ?_)
    rw [List.getD_eq_getElem?_getD, List.getD_eq_getElem?_getD, List.getElem?_append_left hj]
  have e2 : (ns ++ [x]).getD ns.length 0 = x := by simp [List.getD_eq_getElem?_getD]
  rw [e1, e2]; rfl
theorem bt_bitsL {ns : List Int32} (h : ∀ x, x ∈ ns → rg 0 25 x = true) {k : Nat} (hk : k < 32) : bt (bitsL ns) k = true ↔ nI k ∈ ns := by
  have key : ∀ j, j ≤ ns.length → (bt (bitsF (fun i => ns.getD i 0) j) k = true ↔ ∃ i, i < j ∧ ns.getD i 0 = nI k) := by
    intro j
    induction j with
    | zero =>
      intro _
      rw [bitsF, bt_0]
      constructor
      · intro q; cases q
      · rintro ⟨i, hi, -⟩; omega
    | succ j ih =>
      intro hj
      obtain ⟨x, hx, ex, -⟩ := rg_ix (hi := 25) (h _ (mem_getD (L := ns) (k := j) (by omega)))
      rw [bitsF, bt_or, Bool.or_eq_true, ih (by omega)]
      have e3 : bt ((1 : Int32) <<< (ns.getD j 0 &&& 31)) k = decide (k = x) := by
        rw [ex]
        show bt (bit1 (nI x)) k = _
        rw [bt_bit1 (by omega) hk]
      rw [e3, decide_eq_true_iff]
      constructor
      · rintro (⟨i, hi, e⟩ | e)
        · exact ⟨i, by omega, e⟩
        · exact ⟨j, by omega, by rw [ex, e]⟩
      · rintro ⟨i, hi, e⟩
        by_cases hij : i = j
        · right
          subst hij
          rw [ex] at e
          exact ((nI_eq (by omega) (by omega)).mp e).symm
        · left; exact ⟨i, by omega, e⟩
  rw [bitsL, key _ (Nat.le_refl _)]
  constructor
  · rintro ⟨i, hi, e⟩; rw [← e]; exact mem_getD hi
  · intro hm
    cases e : ixL (nI k) ns with
    | none => exact absurd hm (ixL_none.mp e)
    | some p => exact ⟨p, (ixL_lt e).1, (ixL_lt e).2⟩
theorem pop_add {A B : Nat} {x : Nat} (hb : ∀ j, B.testBit j = (A.testBit j || decide (j = x))) (hx : A.testBit x = false) : ∀ N, popN B N = popN A N + if x < N then 1 else 0
  | 0 => rfl
  | N + 1 => by
    rw [popN_s, popN_s, pop_add hb hx N, hb N]
    by_cases e : N = x
    · subst e; simp [hx]
    · by_cases h2 : x < N
      · rw [if_pos h2, if_pos (by omega), decide_eq_false e, Bool.or_false]; omega
      · rw [if_neg h2, if_neg (by omega), decide_eq_false e, Bool.or_false]; omega
theorem pop_bits : ∀ (l : Nat) (ns : List Int32), ns.length = l → ndR ns → popN (bitsL ns).toBitVec.toNat 26 = ns.length := by
  intro l
  induction l with
  | zero =>
    intro ns hl _
    have : ns = [] := List.eq_nil_of_length_eq_zero hl
    subst this
    decide
  | succ l ih =>
    intro ns hl hn
    have hne : ns ≠ [] := fun q => by subst q; cases hl
    obtain ⟨ms, x, rfl⟩ : ∃ ms x, ns = ms ++ [x] := ⟨ns.dropLast, ns.getLast hne, (List.dropLast_concat_getLast hne).symm⟩
    rw [List.length_append, List.length_singleton] at hl
    have hms : ndR ms := ⟨(List.nodup_append.mp hn.1).1, fun z hz => hn.2 z (List.mem_append_left _ hz)⟩
    obtain ⟨j, hj, ex, -⟩ := rg_ix (hi := 25) (hn.2 x (List.mem_append_right _ (List.mem_singleton.mpr rfl)))
    have hxm : x ∉ ms := fun q => (List.nodup_append.mp hn.1).2.2 x q x (List.mem_singleton.mpr rfl) rfl
    have i1 := ih ms (by omega) hms
    have hb : bt (bitsL ms) j = false := by
      cases e : bt (bitsL ms) j with
      | false => rfl
      | true => exact absurd (by rw [ex]; exact (bt_bitsL hms.2 (by omega)).mp e) hxm
    rw [bits_snoc]
    have := pop_add (A := (bitsL ms).toBitVec.toNat) (B := (bitsL ms ||| bit1 x).toBitVec.toNat) (x := j) (fun i => by
      rw [bt_nat, bt_nat]
      by_cases hi : i < 32
      · rw [bt_or, ex, bt_bit1 (by omega) hi]
      · rw [bt_ge _ (by omega), bt_ge _ (by omega), decide_eq_false (by omega)]; rfl) (by rw [bt_nat]; exact hb) 26
    rw [this, i1, if_pos (by omega), List.length_append, List.length_singleton]
theorem ndR_len {ns : List Int32} (h : ndR ns) : ns.length ≤ 26 := by
  rw [← pop_bits _ ns rfl h]; exact popN_le _ _
theorem gaN_ndR {x : Int32} {s : NB} (h : ndR s.1) (hx : rg 0 25 x = true) : ndR (gaN x s).1 := by
  rw [gaN]
  split
  · rename_i e
    refine ⟨List.nodup_append.mpr ⟨h.1, by simp, fun a ha b hb q => ?_⟩, fun z hz => ?_⟩
    · rw [List.mem_singleton] at hb
      subst hb; subst q
      exact ixL_none.mp e ha
    · rcases List.mem_append.mp hz with q | q
      · exact h.2 z q
      · rw [List.mem_singleton] at q; rw [q]; exact hx
  · exact h
theorem gaI_lt {x : Int32} {s : NB} : gaI x s < (gaN x s).1.length := by
  rw [gaI, gaN]
  cases e : ixL x s.1 with
  | none => simp
  | some p => simpa using (ixL_lt e).1
theorem gaL_ndR {L : List Int32} {s : NB} (h : ndR s.1) (hL : ∀ x, x ∈ L → rg 0 25 x = true) : ∀ k, k ≤ L.length → ndR (gaL L s k).1
  | 0, _ => h
  | k + 1, hk => gaN_ndR (gaL_ndR h hL k (by omega)) (hL _ (mem_getD (by omega)))
theorem gaA_ndR {R : RecS} {set : Int32} (hw : wfR R) : ∀ i, i ≤ 4 → ndR (gaA R set i).1
  | 0, _ => ⟨List.nodup_nil, fun x hx => by cases hx⟩
  | i + 1, hi => by
    have := gaA_ndR (set := set) hw i (by omega)
    rw [gaA]
    split
    · exact gaL_ndR this (hw.1 i (by omega)).2.2 _ (Nat.le_refl _)
    · exact this
def wkG (h0 h : HP) (m : Nat) (th : Int32) (tr : Int64) (ty nx tk pl vl ft lo hi sz : Int32) (s : NB) : Prop := h m = some (.inr (8, mob m th tr ty nx tk pl vl ft lo hi sz (nI s.1.length))) ∧ (∃ g, h (m + 9) = some (.inl (0, 26, .inl g)) ∧ holdsL g 0 s.1) ∧ (∃ g, h (m + 10) = some (.inl (0, 26, .inl g)) ∧ ∀ j, j < s.1.length → g j = s.2 j) ∧ ∀ q, q ≠ m → q ≠ m + 9 → q ≠ m + 10 → h q = h0 q
section G1
variable {E : EV} {h h0 : HP} {n m a : Nat} {fs : List Value} {g gs g9 g10 : Nat → Int32} {th : Int32} {tr : Int64} {ty nx tk pl vl ft lo hi sz nm : Int32} {L : List Int32} {R : RecS}
theorem c_mnumber (hm : h m = some (.inr (8, fs))) (h19 : fs[19]? = some (.ref a)) (h20 : fs[20]? = some (.int (nI L.length))) (ha : h a = some (.inl (0, 26, .inl g))) (hg : holdsL g 0 L) (hL : L.length ≤ 26) (x : Int32) : PM E mX8_number [.ref m, .int x] h n n 0 (QE (some (.int (oI (ixL x L)))) h) := by
  have hpl : plcF g x 0 L.length = oI (ixL x L) := plc_L hg
  have loop : ∀ j k, k + j = L.length → plcF g x k j = oI (ixL x L) → PW (KX E mX8_number n (QE (some (.int (oI (ixL x L)))) h)) 2 [.ref m, .int x, .int (nI k)] [] h n 0 := by
    intro j
    induction j with
    | zero =>
      intro k hk e
      refine pw_iload_n (pc := 2) dX8_number_2 rfl ?_
      refine pw_aload_n (pc := 3) dX8_number_3 rfl ?_
      refine pw_get (pc := 4) fg_X8_163 dX8_number_4 (by first | assumption | exact va_up_self _ _ _ | exact lk1 (by first | assumption | (apply Ne.symm; assumption) | (simp; done)) (by assumption) | exact lk1 (by first | assumption | (apply Ne.symm; assumption) | (simp; done)) (va_up_self _ _ _) | exact lk1 (by first | assumption | (apply Ne.symm; assumption) | (simp; done)) (lk1 (by first | assumption | (apply Ne.symm; assumption) | (simp; done)) (by assumption)) | exact lk1 (by first | assumption | (apply Ne.symm; assumption) | (simp; done)) (lk1 (by first | assumption | (apply Ne.symm; assumption) | (simp; done)) (va_up_self _ _ _)) | exact lk1 (by first | assumption | (apply Ne.symm; assumption) | (simp; done)) (lk1 (by first | assumption | (apply Ne.symm; assumption) | (simp; done)) (lk1 (by first | assumption | (apply Ne.symm; assumption) | (simp; done)) (by assumption))) | exact lk1 (by first | assumption | (apply Ne.symm; assumption) | (simp; done)) (lk1 (by first | assumption | (apply Ne.symm; assumption) | (simp; done)) (lk1 (by first | assumption | (apply Ne.symm; assumption) | (simp; done)) (va_up_self _ _ _))) | exact lk1 (by first | assumption | (apply Ne.symm; assumption) | (simp; done)) (lk1 (by first | assumption | (apply Ne.symm; assumption) | (simp; done)) (lk1 (by first | assumption | (apply Ne.symm; assumption) | (simp; done)) (lk1 (by first | assumption | (apply Ne.symm; assumption) | (simp; done)) (by assumption)))) | exact lk1 (by first | assumption | (apply Ne.symm; assumption) | (simp; done)) (lk1 (by first | assumption | (apply Ne.symm; assumption) | (simp; done)) (lk1 (by first | assumption | (apply Ne.symm; assumption) | (simp; done)) (lk1 (by first | assumption | (apply Ne.symm; assumption) | (simp; done)) (va_up_self _ _ _))))) (by first | rfl | assumption) ?_
      refine pw_icmp_ge_n (pc := 7) 28 dX8_number_7 (by decide) (by omega) (by omega) (fun c => ?_) (fun c => ?_)
      · refine pw_bipush (pc := 28) (-9) dX8_number_28 (by decide) ?_
        refine pw_iret dX8_number_30 rfl ⟨?_, rfl⟩
        rw [← e]; rfl
      · omega
    | succ j ih =>
      intro k hk e
      refine pw_iload_n (pc := 2) dX8_number_2 rfl ?_
      refine pw_aload_n (pc := 3) dX8_number_3 rfl ?_
      refine pw_get (pc := 4) fg_X8_163 dX8_number_4 (by first | assumption | exact va_up_self _ _ _ | exact lk1 (by first | assumption | (apply Ne.symm; assumption) | (simp; done)) (by assumption) | exact lk1 (by first | assumption | (apply Ne.symm; assumption) | (simp; done)) (va_up_self _ _ _) | exact lk1 (by first | assumption | (apply Ne.symm; assumption) | (simp; done)) (lk1 (by first | assumption | (apply Ne.symm; assumption) | (simp; done)) (by assumption)) | exact lk1 (by first | assumption | (apply Ne.symm; assumption) | (simp; done)) (lk1 (by first | assumption | (apply Ne.symm; assumption) | (simp; done)) (va_up_self _ _ _)) | exact lk1 (by first | assumption | (apply Ne.symm; assumption) | (simp; done)) (lk1 (by first | assumption | (apply Ne.symm; assumption) | (simp; done)) (lk1 (by first | assumption | (apply Ne.symm; assumption) | (simp; done)) (by assumption))) | exact lk1 (by first | assumption | (apply Ne.symm; assumption) | (simp; done)) (lk1 (by first | assumption | (apply Ne.symm; assumption) | (simp; done)) (lk1 (by first | assumption | (apply Ne.symm; assumption) | (simp; done)) (va_up_self _ _ _))) | exact lk1 (by first | assumption | (apply Ne.symm; assumption) | (simp; done)) (lk1 (by first | assumption | (apply Ne.symm; assumption) | (simp; done)) (lk1 (by first | assumption | (apply Ne.symm; assumption) | (simp; done)) (lk1 (by first | assumption | (apply Ne.symm; assumption) | (simp; done)) (by assumption)))) | exact lk1 (by first | assumption | (apply Ne.symm; assumption) | (simp; done)) (lk1 (by first | assumption | (apply Ne.symm; assumption) | (simp; done)) (lk1 (by first | assumption | (apply Ne.symm; assumption) | (simp; done)) (lk1 (by first | assumption | (apply Ne.symm; assumption) | (simp; done)) (va_up_self _ _ _))))) (by first | rfl | assumption) ?_
      refine pw_icmp_ge_n (pc := 7) 28 dX8_number_7 (by decide) (by omega) (by omega) (fun c => ?_) (fun c => ?_)
      · omega
      · refine pw_aload_n (pc := 10) dX8_number_10 rfl ?_
        refine pw_get (pc := 11) fg_X8_42 dX8_number_11 (by first | assumption | exact va_up_self _ _ _ | exact lk1 (by first | assumption | (apply Ne.symm; assumption) | (simp; done)) (by assumption) | exact lk1 (by first | assumption | (apply Ne.symm; assumption) | (simp; done)) (va_up_self _ _ _) | exact lk1 (by first | assumption | (apply Ne.symm; assumption) | (simp; done)) (lk1 (by first | assumption | (apply Ne.symm; assumption) | (simp; done)) (by assumption)) | exact lk1 (by first | assumption | (apply Ne.symm; assumption) | (simp; done)) (lk1 (by first | assumption | (apply Ne.symm; assumption) | (simp; done)) (va_up_self _ _ _)) | exact lk1 (by first | assumption | (apply Ne.symm; assumption) | (simp; done)) (lk1 (by first | assumption | (apply Ne.symm; assumption) | (simp; done)) (lk1 (by first | assumption | (apply Ne.symm; assumption) | (simp; done)) (by assumption))) | exact lk1 (by first | assumption | (apply Ne.symm; assumption) | (simp; done)) (lk1 (by first | assumption | (apply Ne.symm; assumption) | (simp; done)) (lk1 (by first | assumption | (apply Ne.symm; assumption) | (simp; done)) (va_up_self _ _ _))) | exact lk1 (by first | assumption | (apply Ne.symm; assumption) | (simp; done)) (lk1 (by first | assumption | (apply Ne.symm; assumption) | (simp; done)) (lk1 (by first | assumption | (apply Ne.symm; assumption) | (simp; done)) (lk1 (by first | assumption | (apply Ne.symm; assumption) | (simp; done)) (by assumption)))) | exact lk1 (by first | assumption | (apply Ne.symm; assumption) | (simp; done)) (lk1 (by first | assumption | (apply Ne.symm; assumption) | (simp; done)) (lk1 (by first | assumption | (apply Ne.symm; assumption) | (simp; done)) (lk1 (by first | assumption | (apply Ne.symm; assumption) | (simp; done)) (va_up_self _ _ _))))) (by first | rfl | assumption) ?_
        refine pw_iload_n (pc := 14) dX8_number_14 rfl ?_
        refine pw_iald (pc := 15) (k) dX8_number_15 (by first | assumption | exact va_up_self _ _ _ | exact lk1 (by first | assumption | (apply Ne.symm; assumption) | (simp; done)) (by assumption) | exact lk1 (by first | assumption | (apply Ne.symm; assumption) | (simp; done)) (va_up_self _ _ _) | exact lk1 (by first | assumption | (apply Ne.symm; assumption) | (simp; done)) (lk1 (by first | assumption | (apply Ne.symm; assumption) | (simp; done)) (by assumption)) | exact lk1 (by first | assumption | (apply Ne.symm; assumption) | (simp; done)) (lk1 (by first | assumption | (apply Ne.symm; assumption) | (simp; done)) (va_up_self _ _ _)) | exact lk1 (by first | assumption | (apply Ne.symm; assumption) | (simp; done)) (lk1 (by first | assumption | (apply Ne.symm; assumption) | (simp; done)) (lk1 (by first | assumption | (apply Ne.symm; assumption) | (simp; done)) (by assumption))) | exact lk1 (by first | assumption | (apply Ne.symm; assumption) | (simp; done)) (lk1 (by first | assumption | (apply Ne.symm; assumption) | (simp; done)) (lk1 (by first | assumption | (apply Ne.symm; assumption) | (simp; done)) (va_up_self _ _ _))) | exact lk1 (by first | assumption | (apply Ne.symm; assumption) | (simp; done)) (lk1 (by first | assumption | (apply Ne.symm; assumption) | (simp; done)) (lk1 (by first | assumption | (apply Ne.symm; assumption) | (simp; done)) (lk1 (by first | assumption | (apply Ne.symm; assumption) | (simp; done)) (by assumption)))) | exact lk1 (by first | assumption | (apply Ne.symm; assumption) | (simp; done)) (lk1 (by first | assumption | (apply Ne.symm; assumption) | (simp; done)) (lk1 (by first | assumption | (apply Ne.symm; assumption) | (simp; done)) (lk1 (by first | assumption | (apply Ne.symm; assumption) | (simp; done)) (va_up_self _ _ _))))) (by first | assumption | rfl | (simp only [nI_add, pk_mul, Nat.one_mul, Nat.mul_one, Nat.zero_add, Nat.add_zero, Nat.mul_zero]; done) | exact pk_sub (by omega) | (rw [pk_sub (by omega)]; first | done | (rw [nI_add]; done) | (rw [pk_sub (by omega)]; done) | (rw [pk_sub (by omega), nI_add]; done)) | (simp only [nI_add, pk_mul]; first | exact pk_sub (by omega) | (congr 1; omega)) | (congr 1; omega)) (by omega) (by omega) ?_
        refine pw_iload_n (pc := 16) dX8_number_16 rfl ?_
        refine pw_icmp_ne (pc := 17) 22 dX8_number_17 (by decide) (fun c2 => ?_) (fun c2 => ?_)
        · refine pw_iinc2 (pc := 22) (nI (k + 1)) dX8_number_22 (Nat.le_of_ble_eq_true rfl) rfl (ni_inc _) ?_
          refine pw_goto (pc := 25) 2 dX8_number_25 (by decide) ?_
          refine ih (k + 1) (by omega) ?_
          rw [← e, plcF, if_neg c2]
        · refine pw_iload_n (pc := 20) dX8_number_20 rfl ?_
          refine pw_iret dX8_number_21 rfl ⟨?_, rfl⟩
          rw [← e, plcF, if_pos c2]
  refine PM.of [.ref m, .int x, .null] rfl (Nat.le_of_ble_eq_true rfl) rfl ?_
  refine pw_iconst (pc := 0) (nI 0) dX8_number_0 (by decide) ?_
  refine pw_ist2 (pc := 1) dX8_number_1 (Nat.le_of_ble_eq_true rfl) rfl ?_
  exact loop L.length 0 (by omega) hpl
theorem c_mgathers (hm : h m = some (.inr (8, mob m th tr ty nx tk pl vl ft lo hi sz nm))) (h1 : h (m + 1) = some (.inl (0, 90, .inl gs))) (hs : sHold gs 0 R) (h9 : h (m + 9) = some (.inl (0, 26, .inl g9))) (h10 : h (m + 10) = some (.inl (0, 26, .inl g10))) (hw : wfR R) (set : Int32) : PM E mX8_gathers [.ref m, .int set] h n n 0 (fun v h' => v = none ∧ wkG h h' m th tr ty nx tk pl vl ft lo hi sz (gaA R set 4)) := by
  have outer : ∀ p i h' w3 w4, i + p = 4 → wkG h h' m th tr ty nx tk pl vl ft lo hi sz (gaA R set i) → PW (KX E mX8_gathers n (fun v h' => v = none ∧ wkG h h' m th tr ty nx tk pl vl ft lo hi sz (gaA R set 4))) 7 [.ref m, .int set, .int (nI i), w3, w4] [] h' n 0 := by
    intro p
    induction p with
    | zero =>
      intro i h' w3 w4 hip wk
      refine pw_iload_n (pc := 7) dX8_gathers_7 rfl ?_
      refine pw_iconst (pc := 8) (nI 4) dX8_gathers_8 (by decide) ?_
      refine pw_icmp_ge_n (pc := 9) 132 dX8_gathers_9 (by decide) (by omega) (by omega) (fun cb => ?_) (fun cb => ?_)
      · obtain rfl : i = 4 := by omega
        exact pw_vret dX8_gathers_132 rfl ⟨rfl, wk⟩
      · omega
    | succ p ih =>
      intro i h' w3 w4 hip wk
      have hi4 : i < 4 := by omega
      have ez := hs.z.1 i hi4
      have ea := hs.z.2.1 i hi4
      have hl := (hw.1 i hi4).1
      have hrg := (hw.1 i hi4).2.2
      have nd0 : ndR (gaA R set i).1 := gaA_ndR hw i (by omega)
      have next : ∀ h' w3 w4, wkG h h' m th tr ty nx tk pl vl ft lo hi sz (gaA R set (i + 1)) → PW (KX E mX8_gathers n (fun v h' => v = none ∧ wkG h h' m th tr ty nx tk pl vl ft lo hi sz (gaA R set 4))) 126 [.ref m, .int set, .int (nI i), .int w3, w4] [] h' n 0 := by
        intro h' w3 w4 wk
        refine pw_iinc2 (pc := 126) (nI (i + 1)) dX8_gathers_126 (Nat.le_of_ble_eq_true rfl) rfl (ni_inc _) ?_
        refine pw_goto (pc := 129) 7 dX8_gathers_129 (by decide) ?_
        exact ih (i + 1) h' _ _ (by omega) wk
      by_cases hin : inB set (nI i) = true
      · have eG : gaA R set (i + 1) = gaL (R.1 i) (gaA R set i) (R.1 i).length := by rw [gaA, if_pos hin]
        have inner : ∀ q k h' w4, k + q = (R.1 i).length → wkG h h' m th tr ty nx tk pl vl ft lo hi sz (gaL (R.1 i) (gaA R set i) k) → PW (KX E mX8_gathers n (fun v h' => v = none ∧ wkG h h' m th tr ty nx tk pl vl ft lo hi sz (gaA R set 4))) 14 [.ref m, .int set, .int (nI i), .int (nI k), w4] [] h' n 0 := by
          intro q
          induction q with
          | zero =>
            intro k h' w4 hk wk
            obtain ⟨v0, v9, v10, vf⟩ := id wk
            have v1 := (vf (m + 1) (by omega) (by omega) (by omega)).trans h1
            refine pw_iload_n (pc := 14) dX8_gathers_14 rfl ?_
            refine pw_aload_n (pc := 15) dX8_gathers_15 rfl ?_
            refine pw_iload_n (pc := 16) dX8_gathers_16 rfl ?_
            refine pw_callV_i (pc := 17) cv_X8_68 dX8_gathers_17 (by first | assumption | exact va_up_self _ _ _ | exact lk1 (by first | assumption | (apply Ne.symm; assumption) | (simp; done)) (by assumption) | exact lk1 (by first | assumption | (apply Ne.symm; assumption) | (simp; done)) (va_up_self _ _ _) | exact lk1 (by first | assumption | (apply Ne.symm; assumption) | (simp; done)) (lk1 (by first | assumption | (apply Ne.symm; assumption) | (simp; done)) (by assumption)) | exact lk1 (by first | assumption | (apply Ne.symm; assumption) | (simp; done)) (lk1 (by first | assumption | (apply Ne.symm; assumption) | (simp; done)) (va_up_self _ _ _)) | exact lk1 (by first | assumption | (apply Ne.symm; assumption) | (simp; done)) (lk1 (by first | assumption | (apply Ne.symm; assumption) | (simp; done)) (lk1 (by first | assumption | (apply Ne.symm; assumption) | (simp; done)) (by assumption))) | exact lk1 (by first | assumption | (apply Ne.symm; assumption) | (simp; done)) (lk1 (by first | assumption | (apply Ne.symm; assumption) | (simp; done)) (lk1 (by first | assumption | (apply Ne.symm; assumption) | (simp; done)) (va_up_self _ _ _))) | exact lk1 (by first | assumption | (apply Ne.symm; assumption) | (simp; done)) (lk1 (by first | assumption | (apply Ne.symm; assumption) | (simp; done)) (lk1 (by first | assumption | (apply Ne.symm; assumption) | (simp; done)) (lk1 (by first | assumption | (apply Ne.symm; assumption) | (simp; done)) (by assumption)))) | exact lk1 (by first | assumption | (apply Ne.symm; assumption) | (simp; done)) (lk1 (by first | assumption | (apply Ne.symm; assumption) | (simp; done)) (lk1 (by first | assumption | (apply Ne.symm; assumption) | (simp; done)) (lk1 (by first | assumption | (apply Ne.symm; assumption) | (simp; done)) (va_up_self _ _ _))))) rfl (c_msizeOf v0 rfl v1 i hi4) rfl rfl (Nat.le_of_ble_eq_true rfl) ⟨(Nat.le_of_ble_eq_true rfl), (Nat.le_of_ble_eq_true rfl)⟩ ?_
            rw [ez]
            refine pw_icmp_ge_n (pc := 20) 126 dX8_gathers_20 (by decide) (by omega) (by omega) (fun cb => ?_) (fun cb => ?_)
            · obtain rfl : k = (R.1 i).length := by omega
              exact next h' _ _ (by rw [eG]; exact wk)
            · omega
          | succ q ihq =>
            intro k h' w4 hk wk
            have hkl : k < (R.1 i).length := by omega
            have hx := hrg _ (mem_getD hkl)
            have nd1 : ndR (gaL (R.1 i) (gaA R set i) k).1 := gaL_ndR nd0 hrg k (by omega)
            have eK : gaL (R.1 i) (gaA R set i) (k + 1) = gaK (R.1 i) k (gaL (R.1 i) (gaA R set i) k) := rfl
            generalize gaL (R.1 i) (gaA R set i) k = s at nd1 eK wk
            obtain ⟨v0, ⟨gn, v9, hgn⟩, ⟨gb, v10, hgb⟩, vf⟩ := id wk
            have v1 := (vf (m + 1) (by omega) (by omega) (by omega)).trans h1
            have lens := ndR_len nd1
            have nd2 := gaN_ndR nd1 hx
            have len2 := ndR_len nd2
            have hgi := gaI_lt (x := (R.1 i).getD k 0) (s := s)
            have tail : ∀ h2 w4', wkG h h2 m th tr ty nx tk pl vl ft lo hi sz (gaN ((R.1 i).getD k 0) s) → w4' = nI (gaI ((R.1 i).getD k 0) s) → PW (KX E mX8_gathers n (fun v h' => v = none ∧ wkG h h' m th tr ty nx tk pl vl ft lo hi sz (gaA R set 4))) 88 [.ref m, .int set, .int (nI i), .int (nI k), .int w4'] [] h2 n 0 := by
              intro h2 w4' wk2 e4
              subst e4
              obtain ⟨x0, ⟨gn2, x9, hgn2⟩, ⟨gb2, x10, hgb2⟩, xf⟩ := id wk2
              have x1 := (xf (m + 1) (by omega) (by omega) (by omega)).trans h1
              have store : ∀ v, v = (if 0 < k then bit1 (oI (ixL ((R.1 i).getD (k - 1) 0) (gaN ((R.1 i).getD k 0) s).1)) else nI 0) → PW (KX E mX8_gathers n (fun v h' => v = none ∧ wkG h h' m th tr ty nx tk pl vl ft lo hi sz (gaA R set 4))) 118 [.ref m, .int set, .int (nI i), .int (nI k), .int (nI (gaI ((R.1 i).getD k 0) s))] [.int v, .int ((gaN ((R.1 i).getD k 0) s).2 (gaI ((R.1 i).getD k 0) s)), .int (nI (gaI ((R.1 i).getD k 0) s)), .ref (m + 10)] h2 n 0 := by
                intro v hv
                refine pw_ior (pc := 118) dX8_gathers_118 ?_
                refine pw_iast (pc := 119) (gaI ((R.1 i).getD k 0) s) dX8_gathers_119 (by first | assumption | exact va_up_self _ _ _ | exact lk1 (by first | assumption | (apply Ne.symm; assumption) | (simp; done)) (by assumption) | exact lk1 (by first | assumption | (apply Ne.symm; assumption) | (simp; done)) (va_up_self _ _ _) | exact lk1 (by first | assumption | (apply Ne.symm; assumption) | (simp; done)) (lk1 (by first | assumption | (apply Ne.symm; assumption) | (simp; done)) (by assumption)) | exact lk1 (by first | assumption | (apply Ne.symm; assumption) | (simp; done)) (lk1 (by first | assumption | (apply Ne.symm; assumption) | (simp; done)) (va_up_self _ _ _)) | exact lk1 (by first | assumption | (apply Ne.symm; assumption) | (simp; done)) (lk1 (by first | assumption | (apply Ne.symm; assumption) | (simp; done)) (lk1 (by first | assumption | (apply Ne.symm; assumption) | (simp; done)) (by assumption))) | exact lk1 (by first | assumption | (apply Ne.symm; assumption) | (simp; done)) (lk1 (by first | assumption | (apply Ne.symm; assumption) | (simp; done)) (lk1 (by first | assumption | (apply Ne.symm; assumption) | (simp; done)) (va_up_self _ _ _))) | exact lk1 (by first | assumption | (apply Ne.symm; assumption) | (simp; done)) (lk1 (by first | assumption | (apply Ne.symm; assumption) | (simp; done)) (lk1 (by first | assumption | (apply Ne.symm; assumption) | (simp; done)) (lk1 (by first | assumption | (apply Ne.symm; assumption) | (simp; done)) (by assumption)))) | exact lk1 (by first | assumption | (apply Ne.symm; assumption) | (simp; done)) (lk1 (by first | assumption | (apply Ne.symm; assumption) | (simp; done)) (lk1 (by first | assumption | (apply Ne.symm; assumption) | (simp; done)) (lk1 (by first | assumption | (apply Ne.symm; assumption) | (simp; done)) (va_up_self _ _ _))))) (by first | assumption | rfl | (simp only [nI_add, pk_mul, Nat.one_mul, Nat.mul_one, Nat.zero_add, Nat.add_zero, Nat.mul_zero]; done) | exact pk_sub (by omega) | (rw [pk_sub (by omega)]; first | done | (rw [nI_add]; done) | (rw [pk_sub (by omega)]; done) | (rw [pk_sub (by omega), nI_add]; done)) | (simp only [nI_add, pk_mul]; first | exact pk_sub (by omega) | (congr 1; omega)) | (congr 1; omega)) (by omega) (by omega) ?_
                refine pw_iinc3 (pc := 120) (nI (k + 1)) dX8_gathers_120 (Nat.le_of_ble_eq_true rfl) rfl (ni_inc _) ?_
                refine pw_goto (pc := 123) 14 dX8_gathers_123 (by decide) ?_
                refine ihq (k + 1) _ _ (by omega) ?_
                rw [eK]
                refine ⟨lk1 (by omega) x0, ⟨gn2, lk1 (by omega) x9, hgn2⟩, ⟨_, va_up_self _ _ _, fun j hj => ?_⟩, fun q q1 q2 q3 => by rw [va_up_ne _ _ q3]; exact xf q q1 q2 q3⟩
                simp only [gaK]
                by_cases e : j = gaI ((R.1 i).getD k 0) s
                · subst e; rw [pk_us, pk_us, hv]
                · rw [pk_un e, pk_un e]; exact hgb2 j hj
              refine pw_aload_n (pc := 88) dX8_gathers_88 rfl ?_
              refine pw_get (pc := 89) fg_X8_45 dX8_gathers_89 (by first | assumption | exact va_up_self _ _ _ | exact lk1 (by first | assumption | (apply Ne.symm; assumption) | (simp; done)) (by assumption) | exact lk1 (by first | assumption | (apply Ne.symm; assumption) | (simp; done)) (va_up_self _ _ _) | exact lk1 (by first | assumption | (apply Ne.symm; assumption) | (simp; done)) (lk1 (by first | assumption | (apply Ne.symm; assumption) | (simp; done)) (by assumption)) | exact lk1 (by first | assumption | (apply Ne.symm; assumption) | (simp; done)) (lk1 (by first | assumption | (apply Ne.symm; assumption) | (simp; done)) (va_up_self _ _ _)) | exact lk1 (by first | assumption | (apply Ne.symm; assumption) | (simp; done)) (lk1 (by first | assumption | (apply Ne.symm; assumption) | (simp; done)) (lk1 (by first | assumption | (apply Ne.symm; assumption) | (simp; done)) (by assumption))) | exact lk1 (by first | assumption | (apply Ne.symm; assumption) | (simp; done)) (lk1 (by first | assumption | (apply Ne.symm; assumption) | (simp; done)) (lk1 (by first | assumption | (apply Ne.symm; assumption) | (simp; done)) (va_up_self _ _ _))) | exact lk1 (by first | assumption | (apply Ne.symm; assumption) | (simp; done)) (lk1 (by first | assumption | (apply Ne.symm; assumption) | (simp; done)) (lk1 (by first | assumption | (apply Ne.symm; assumption) | (simp; done)) (lk1 (by first | assumption | (apply Ne.symm; assumption) | (simp; done)) (by assumption)))) | exact lk1 (by first | assumption | (apply Ne.symm; assumption) | (simp; done)) (lk1 (by first | assumption | (apply Ne.symm; assumption) | (simp; done)) (lk1 (by first | assumption | (apply Ne.symm; assumption) | (simp; done)) (lk1 (by first | assumption | (apply Ne.symm; assumption) | (simp; done)) (va_up_self _ _ _))))) (by first | rfl | assumption) ?_
              refine pw_iload (pc := 92) dX8_gathers_92 rfl ?_
              refine pw_dup2 (pc := 94) dX8_gathers_94 rfl rfl ?_
              refine pw_iald (pc := 95) (gaI ((R.1 i).getD k 0) s) dX8_gathers_95 (by first | assumption | exact va_up_self _ _ _ | exact lk1 (by first | assumption | (apply Ne.symm; assumption) | (simp; done)) (by assumption) | exact lk1 (by first | assumption | (apply Ne.symm; assumption) | (simp; done)) (va_up_self _ _ _) | exact lk1 (by first | assumption | (apply Ne.symm; assumption) | (simp; done)) (lk1 (by first | assumption | (apply Ne.symm; assumption) | (simp; done)) (by assumption)) | exact lk1 (by first | assumption | (apply Ne.symm; assumption) | (simp; done)) (lk1 (by first | assumption | (apply Ne.symm; assumption) | (simp; done)) (va_up_self _ _ _)) | exact lk1 (by first | assumption | (apply Ne.symm; assumption) | (simp; done)) (lk1 (by first | assumption | (apply Ne.symm; assumption) | (simp; done)) (lk1 (by first | assumption | (apply Ne.symm; assumption) | (simp; done)) (by assumption))) | exact lk1 (by first | assumption | (apply Ne.symm; assumption) | (simp; done)) (lk1 (by first | assumption | (apply Ne.symm; assumption) | (simp; done)) (lk1 (by first | assumption | (apply Ne.symm; assumption) | (simp; done)) (va_up_self _ _ _))) | exact lk1 (by first | assumption | (apply Ne.symm; assumption) | (simp; done)) (lk1 (by first | assumption | (apply Ne.symm; assumption) | (simp; done)) (lk1 (by first | assumption | (apply Ne.symm; assumption) | (simp; done)) (lk1 (by first | assumption | (apply Ne.symm; assumption) | (simp; done)) (by assumption)))) | exact lk1 (by first | assumption | (apply Ne.symm; assumption) | (simp; done)) (lk1 (by first | assumption | (apply Ne.symm; assumption) | (simp; done)) (lk1 (by first | assumption | (apply Ne.symm; assumption) | (simp; done)) (lk1 (by first | assumption | (apply Ne.symm; assumption) | (simp; done)) (va_up_self _ _ _))))) (by first | assumption | rfl | (simp only [nI_add, pk_mul, Nat.one_mul, Nat.mul_one, Nat.zero_add, Nat.add_zero, Nat.mul_zero]; done) | exact pk_sub (by omega) | (rw [pk_sub (by omega)]; first | done | (rw [nI_add]; done) | (rw [pk_sub (by omega)]; done) | (rw [pk_sub (by omega), nI_add]; done)) | (simp only [nI_add, pk_mul]; first | exact pk_sub (by omega) | (congr 1; omega)) | (congr 1; omega)) (by omega) (by omega) ?_
              rw [hgb2 _ hgi]
              refine pw_iload_n (pc := 96) dX8_gathers_96 rfl ?_
              refine pw_if_le (pc := 97) 117 dX8_gathers_97 (by decide) (fun z => ?_) (fun z => ?_)
              · rw [i32_le, i32_0, nI_toInt (by omega)] at z
                refine pw_iconst (pc := 117) (nI 0) dX8_gathers_117 (by decide) ?_
                exact store _ (by rw [if_neg (by omega)])
              · rw [i32_le, i32_0, nI_toInt (by omega)] at z
                refine pw_iconst (pc := 100) (nI 1) dX8_gathers_100 (by decide) ?_
                refine pw_aload_n (pc := 101) dX8_gathers_101 rfl ?_
                refine pw_aload_n (pc := 102) dX8_gathers_102 rfl ?_
                refine pw_iload_n (pc := 103) dX8_gathers_103 rfl ?_
                refine pw_iload_n (pc := 104) dX8_gathers_104 rfl ?_
                refine pw_iconst (pc := 105) (nI 1) dX8_gathers_105 (by decide) ?_
                refine pw_isub (pc := 106) dX8_gathers_106 ?_
                rw [pk_sub (by omega)]
                refine pw_callV_i (pc := 107) cv_X8_72 dX8_gathers_107 (by first | assumption | exact va_up_self _ _ _ | exact lk1 (by first | assumption | (apply Ne.symm; assumption) | (simp; done)) (by assumption) | exact lk1 (by first | assumption | (apply Ne.symm; assumption) | (simp; done)) (va_up_self _ _ _) | exact lk1 (by first | assumption | (apply Ne.symm; assumption) | (simp; done)) (lk1 (by first | assumption | (apply Ne.symm; assumption) | (simp; done)) (by assumption)) | exact lk1 (by first | assumption | (apply Ne.symm; assumption) | (simp; done)) (lk1 (by first | assumption | (apply Ne.symm; assumption) | (simp; done)) (va_up_self _ _ _)) | exact lk1 (by first | assumption | (apply Ne.symm; assumption) | (simp; done)) (lk1 (by first | assumption | (apply Ne.symm; assumption) | (simp; done)) (lk1 (by first | assumption | (apply Ne.symm; assumption) | (simp; done)) (by assumption))) | exact lk1 (by first | assumption | (apply Ne.symm; assumption) | (simp; done)) (lk1 (by first | assumption | (apply Ne.symm; assumption) | (simp; done)) (lk1 (by first | assumption | (apply Ne.symm; assumption) | (simp; done)) (va_up_self _ _ _))) | exact lk1 (by first | assumption | (apply Ne.symm; assumption) | (simp; done)) (lk1 (by first | assumption | (apply Ne.symm; assumption) | (simp; done)) (lk1 (by first | assumption | (apply Ne.symm; assumption) | (simp; done)) (lk1 (by first | assumption | (apply Ne.symm; assumption) | (simp; done)) (by assumption)))) | exact lk1 (by first | assumption | (apply Ne.symm; assumption) | (simp; done)) (lk1 (by first | assumption | (apply Ne.symm; assumption) | (simp; done)) (lk1 (by first | assumption | (apply Ne.symm; assumption) | (simp; done)) (lk1 (by first | assumption | (apply Ne.symm; assumption) | (simp; done)) (va_up_self _ _ _))))) rfl (c_mat x0 rfl x1 i (k - 1) hi4 (by omega)) rfl rfl (Nat.le_of_ble_eq_true rfl) ⟨(Nat.le_of_ble_eq_true rfl), (Nat.le_of_ble_eq_true rfl)⟩ ?_
                rw [ea (k - 1) (by omega)]
                refine pw_callV_i (pc := 110) cv_X8_166 dX8_gathers_110 (by first | assumption | exact va_up_self _ _ _ | exact lk1 (by first | assumption | (apply Ne.symm; assumption) | (simp; done)) (by assumption) | exact lk1 (by first | assumption | (apply Ne.symm; assumption) | (simp; done)) (va_up_self _ _ _) | exact lk1 (by first | assumption | (apply Ne.symm; assumption) | (simp; done)) (lk1 (by first | assumption | (apply Ne.symm; assumption) | (simp; done)) (by assumption)) | exact lk1 (by first | assumption | (apply Ne.symm; assumption) | (simp; done)) (lk1 (by first | assumption | (apply Ne.symm; assumption) | (simp; done)) (va_up_self _ _ _)) | exact lk1 (by first | assumption | (apply Ne.symm; assumption) | (simp; done)) (lk1 (by first | assumption | (apply Ne.symm; assumption) | (simp; done)) (lk1 (by first | assumption | (apply Ne.symm; assumption) | (simp; done)) (by assumption))) | exact lk1 (by first | assumption | (apply Ne.symm; assumption) | (simp; done)) (lk1 (by first | assumption | (apply Ne.symm; assumption) | (simp; done)) (lk1 (by first | assumption | (apply Ne.symm; assumption) | (simp; done)) (va_up_self _ _ _))) | exact lk1 (by first | assumption | (apply Ne.symm; assumption) | (simp; done)) (lk1 (by first | assumption | (apply Ne.symm; assumption) | (simp; done)) (lk1 (by first | assumption | (apply Ne.symm; assumption) | (simp; done)) (lk1 (by first | assumption | (apply Ne.symm; assumption) | (simp; done)) (by assumption)))) | exact lk1 (by first | assumption | (apply Ne.symm; assumption) | (simp; done)) (lk1 (by first | assumption | (apply Ne.symm; assumption) | (simp; done)) (lk1 (by first | assumption | (apply Ne.symm; assumption) | (simp; done)) (lk1 (by first | assumption | (apply Ne.symm; assumption) | (simp; done)) (va_up_self _ _ _))))) rfl (c_mnumber x0 rfl rfl x9 hgn2 len2 _) rfl rfl (Nat.le_of_ble_eq_true rfl) ⟨(Nat.le_of_ble_eq_true rfl), (Nat.le_of_ble_eq_true rfl)⟩ ?_
                refine pw_ishl (pc := 113) dX8_gathers_113 ?_
                refine pw_goto (pc := 114) 118 dX8_gathers_114 (by decide) ?_
                exact store _ (by rw [if_pos (by omega)]; rfl)
            refine pw_iload_n (pc := 14) dX8_gathers_14 rfl ?_
            refine pw_aload_n (pc := 15) dX8_gathers_15 rfl ?_
            refine pw_iload_n (pc := 16) dX8_gathers_16 rfl ?_
            refine pw_callV_i (pc := 17) cv_X8_68 dX8_gathers_17 (by first | assumption | exact va_up_self _ _ _ | exact lk1 (by first | assumption | (apply Ne.symm; assumption) | (simp; done)) (by assumption) | exact lk1 (by first | assumption | (apply Ne.symm; assumption) | (simp; done)) (va_up_self _ _ _) | exact lk1 (by first | assumption | (apply Ne.symm; assumption) | (simp; done)) (lk1 (by first | assumption | (apply Ne.symm; assumption) | (simp; done)) (by assumption)) | exact lk1 (by first | assumption | (apply Ne.symm; assumption) | (simp; done)) (lk1 (by first | assumption | (apply Ne.symm; assumption) | (simp; done)) (va_up_self _ _ _)) | exact lk1 (by first | assumption | (apply Ne.symm; assumption) | (simp; done)) (lk1 (by first | assumption | (apply Ne.symm; assumption) | (simp; done)) (lk1 (by first | assumption | (apply Ne.symm; assumption) | (simp; done)) (by assumption))) | exact lk1 (by first | assumption | (apply Ne.symm; assumption) | (simp; done)) (lk1 (by first | assumption | (apply Ne.symm; assumption) | (simp; done)) (lk1 (by first | assumption | (apply Ne.symm; assumption) | (simp; done)) (va_up_self _ _ _))) | exact lk1 (by first | assumption | (apply Ne.symm; assumption) | (simp; done)) (lk1 (by first | assumption | (apply Ne.symm; assumption) | (simp; done)) (lk1 (by first | assumption | (apply Ne.symm; assumption) | (simp; done)) (lk1 (by first | assumption | (apply Ne.symm; assumption) | (simp; done)) (by assumption)))) | exact lk1 (by first | assumption | (apply Ne.symm; assumption) | (simp; done)) (lk1 (by first | assumption | (apply Ne.symm; assumption) | (simp; done)) (lk1 (by first | assumption | (apply Ne.symm; assumption) | (simp; done)) (lk1 (by first | assumption | (apply Ne.symm; assumption) | (simp; done)) (va_up_self _ _ _))))) rfl (c_msizeOf v0 rfl v1 i hi4) rfl rfl (Nat.le_of_ble_eq_true rfl) ⟨(Nat.le_of_ble_eq_true rfl), (Nat.le_of_ble_eq_true rfl)⟩ ?_
            rw [ez]
            refine pw_icmp_ge_n (pc := 20) 126 dX8_gathers_20 (by decide) (by omega) (by omega) (fun cb => ?_) (fun cb => ?_)
            · omega
            · refine pw_iload_n (pc := 23) dX8_gathers_23 rfl ?_
              refine pw_iload_n (pc := 24) dX8_gathers_24 rfl ?_
              refine pw_ishr (pc := 25) dX8_gathers_25 ?_
              refine pw_iconst (pc := 26) (nI 1) dX8_gathers_26 (by decide) ?_
              refine pw_iand (pc := 27) dX8_gathers_27 ?_
              refine pw_iconst (pc := 28) (nI 1) dX8_gathers_28 (by decide) ?_
              refine pw_icmp_ne (pc := 29) 126 dX8_gathers_29 (by decide) (fun z => absurd ((inB_1 _ _).mpr hin) z) (fun z => ?_)
              refine pw_aload_n (pc := 32) dX8_gathers_32 rfl ?_
              refine pw_aload_n (pc := 33) dX8_gathers_33 rfl ?_
              refine pw_iload_n (pc := 34) dX8_gathers_34 rfl ?_
              refine pw_iload_n (pc := 35) dX8_gathers_35 rfl ?_
              refine pw_callV_i (pc := 36) cv_X8_72 dX8_gathers_36 (by first | assumption | exact va_up_self _ _ _ | exact lk1 (by first | assumption | (apply Ne.symm; assumption) | (simp; done)) (by assumption) | exact lk1 (by first | assumption | (apply Ne.symm; assumption) | (simp; done)) (va_up_self _ _ _) | exact lk1 (by first | assumption | (apply Ne.symm; assumption) | (simp; done)) (lk1 (by first | assumption | (apply Ne.symm; assumption) | (simp; done)) (by assumption)) | exact lk1 (by first | assumption | (apply Ne.symm; assumption) | (simp; done)) (lk1 (by first | assumption | (apply Ne.symm; assumption) | (simp; done)) (va_up_self _ _ _)) | exact lk1 (by first | assumption | (apply Ne.symm; assumption) | (simp; done)) (lk1 (by first | assumption | (apply Ne.symm; assumption) | (simp; done)) (lk1 (by first | assumption | (apply Ne.symm; assumption) | (simp; done)) (by assumption))) | exact lk1 (by first | assumption | (apply Ne.symm; assumption) | (simp; done)) (lk1 (by first | assumption | (apply Ne.symm; assumption) | (simp; done)) (lk1 (by first | assumption | (apply Ne.symm; assumption) | (simp; done)) (va_up_self _ _ _))) | exact lk1 (by first | assumption | (apply Ne.symm; assumption) | (simp; done)) (lk1 (by first | assumption | (apply Ne.symm; assumption) | (simp; done)) (lk1 (by first | assumption | (apply Ne.symm; assumption) | (simp; done)) (lk1 (by first | assumption | (apply Ne.symm; assumption) | (simp; done)) (by assumption)))) | exact lk1 (by first | assumption | (apply Ne.symm; assumption) | (simp; done)) (lk1 (by first | assumption | (apply Ne.symm; assumption) | (simp; done)) (lk1 (by first | assumption | (apply Ne.symm; assumption) | (simp; done)) (lk1 (by first | assumption | (apply Ne.symm; assumption) | (simp; done)) (va_up_self _ _ _))))) rfl (c_mat v0 rfl v1 i k hi4 (by omega)) rfl rfl (Nat.le_of_ble_eq_true rfl) ⟨(Nat.le_of_ble_eq_true rfl), (Nat.le_of_ble_eq_true rfl)⟩ ?_
              rw [ea k hkl]
              refine pw_callV_i (pc := 39) cv_X8_166 dX8_gathers_39 (by first | assumption | exact va_up_self _ _ _ | exact lk1 (by first | assumption | (apply Ne.symm; assumption) | (simp; done)) (by assumption) | exact lk1 (by first | assumption | (apply Ne.symm; assumption) | (simp; done)) (va_up_self _ _ _) | exact lk1 (by first | assumption | (apply Ne.symm; assumption) | (simp; done)) (lk1 (by first | assumption | (apply Ne.symm; assumption) | (simp; done)) (by assumption)) | exact lk1 (by first | assumption | (apply Ne.symm; assumption) | (simp; done)) (lk1 (by first | assumption | (apply Ne.symm; assumption) | (simp; done)) (va_up_self _ _ _)) | exact lk1 (by first | assumption | (apply Ne.symm; assumption) | (simp; done)) (lk1 (by first | assumption | (apply Ne.symm; assumption) | (simp; done)) (lk1 (by first | assumption | (apply Ne.symm; assumption) | (simp; done)) (by assumption))) | exact lk1 (by first | assumption | (apply Ne.symm; assumption) | (simp; done)) (lk1 (by first | assumption | (apply Ne.symm; assumption) | (simp; done)) (lk1 (by first | assumption | (apply Ne.symm; assumption) | (simp; done)) (va_up_self _ _ _))) | exact lk1 (by first | assumption | (apply Ne.symm; assumption) | (simp; done)) (lk1 (by first | assumption | (apply Ne.symm; assumption) | (simp; done)) (lk1 (by first | assumption | (apply Ne.symm; assumption) | (simp; done)) (lk1 (by first | assumption | (apply Ne.symm; assumption) | (simp; done)) (by assumption)))) | exact lk1 (by first | assumption | (apply Ne.symm; assumption) | (simp; done)) (lk1 (by first | assumption | (apply Ne.symm; assumption) | (simp; done)) (lk1 (by first | assumption | (apply Ne.symm; assumption) | (simp; done)) (lk1 (by first | assumption | (apply Ne.symm; assumption) | (simp; done)) (va_up_self _ _ _))))) rfl (c_mnumber v0 rfl rfl v9 hgn lens _) rfl rfl (Nat.le_of_ble_eq_true rfl) ⟨(Nat.le_of_ble_eq_true rfl), (Nat.le_of_ble_eq_true rfl)⟩ ?_
              refine pw_ist4 (pc := 42) dX8_gathers_42 (Nat.le_of_ble_eq_true rfl) rfl ?_
              refine pw_iload (pc := 44) dX8_gathers_44 rfl ?_
              refine pw_bipush (pc := 46) (-9) dX8_gathers_46 (by decide) ?_
              have ho : oI (ixL ((R.1 i).getD k 0) s.1) = -9 ↔ ixL ((R.1 i).getD k 0) s.1 = none := oI_none (fun p hp => by have := (ixL_lt hp).1; omega)
              refine pw_icmp_ne (pc := 48) 88 dX8_gathers_48 (by decide) (fun y => ?_) (fun y => ?_)
              · have hne : ixL ((R.1 i).getD k 0) s.1 ≠ none := fun q => y (ho.mpr q)
                refine tail h' _ ?_ ?_
                · rw [gaN, if_neg hne]; exact wk
                · rw [gaI]
                  cases e : ixL ((R.1 i).getD k 0) s.1 with
                  | none => exact absurd e hne
                  | some p => rfl
              · have hno := ho.mp y
                have eN : gaN ((R.1 i).getD k 0) s = (s.1 ++ [(R.1 i).getD k 0], upd s.2 s.1.length (nI 0)) := by rw [gaN, if_pos hno]
                have hlt : s.1.length < 26 := by
                  rw [eN] at len2
                  have : (s.1 ++ [(R.1 i).getD k 0]).length ≤ 26 := len2
                  rw [List.length_append, List.length_singleton] at this
                  omega
                refine pw_aload_n (pc := 51) dX8_gathers_51 rfl ?_
                refine pw_get (pc := 52) fg_X8_163 dX8_gathers_52 (by first | assumption | exact va_up_self _ _ _ | exact lk1 (by first | assumption | (apply Ne.symm; assumption) | (simp; done)) (by assumption) | exact lk1 (by first | assumption | (apply Ne.symm; assumption) | (simp; done)) (va_up_self _ _ _) | exact lk1 (by first | assumption | (apply Ne.symm; assumption) | (simp; done)) (lk1 (by first | assumption | (apply Ne.symm; assumption) | (simp; done)) (by assumption)) | exact lk1 (by first | assumption | (apply Ne.symm; assumption) | (simp; done)) (lk1 (by first | assumption | (apply Ne.symm; assumption) | (simp; done)) (va_up_self _ _ _)) | exact lk1 (by first | assumption | (apply Ne.symm; assumption) | (simp; done)) (lk1 (by first | assumption | (apply Ne.symm; assumption) | (simp; done)) (lk1 (by first | assumption | (apply Ne.symm; assumption) | (simp; done)) (by assumption))) | exact lk1 (by first | assumption | (apply Ne.symm; assumption) | (simp; done)) (lk1 (by first | assumption | (apply Ne.symm; assumption) | (simp; done)) (lk1 (by first | assumption | (apply Ne.symm; assumption) | (simp; done)) (va_up_self _ _ _))) | exact lk1 (by first | assumption | (apply Ne.symm; assumption) | (simp; done)) (lk1 (by first | assumption | (apply Ne.symm; assumption) | (simp; done)) (lk1 (by first | assumption | (apply Ne.symm; assumption) | (simp; done)) (lk1 (by first | assumption | (apply Ne.symm; assumption) | (simp; done)) (by assumption)))) | exact lk1 (by first | assumption | (apply Ne.symm; assumption) | (simp; done)) (lk1 (by first | assumption | (apply Ne.symm; assumption) | (simp; done)) (lk1 (by first | assumption | (apply Ne.symm; assumption) | (simp; done)) (lk1 (by first | assumption | (apply Ne.symm; assumption) | (simp; done)) (va_up_self _ _ _))))) (by first | rfl | assumption) ?_
                refine pw_ist4 (pc := 55) dX8_gathers_55 (Nat.le_of_ble_eq_true rfl) rfl ?_
                refine pw_aload_n (pc := 57) dX8_gathers_57 rfl ?_
                refine pw_get (pc := 58) fg_X8_42 dX8_gathers_58 (by first | assumption | exact va_up_self _ _ _ | exact lk1 (by first | assumption | (apply Ne.symm; assumption) | (simp; done)) (by assumption) | exact lk1 (by first | assumption | (apply Ne.symm; assumption) | (simp; done)) (va_up_self _ _ _) | exact lk1 (by first | assumption | (apply Ne.symm; assumption) | (simp; done)) (lk1 (by first | assumption | (apply Ne.symm; assumption) | (simp; done)) (by assumption)) | exact lk1 (by first | assumption | (apply Ne.symm; assumption) | (simp; done)) (lk1 (by first | assumption | (apply Ne.symm; assumption) | (simp; done)) (va_up_self _ _ _)) | exact lk1 (by first | assumption | (apply Ne.symm; assumption) | (simp; done)) (lk1 (by first | assumption | (apply Ne.symm; assumption) | (simp; done)) (lk1 (by first | assumption | (apply Ne.symm; assumption) | (simp; done)) (by assumption))) | exact lk1 (by first | assumption | (apply Ne.symm; assumption) | (simp; done)) (lk1 (by first | assumption | (apply Ne.symm; assumption) | (simp; done)) (lk1 (by first | assumption | (apply Ne.symm; assumption) | (simp; done)) (va_up_self _ _ _))) | exact lk1 (by first | assumption | (apply Ne.symm; assumption) | (simp; done)) (lk1 (by first | assumption | (apply Ne.symm; assumption) | (simp; done)) (lk1 (by first | assumption | (apply Ne.symm; assumption) | (simp; done)) (lk1 (by first | assumption | (apply Ne.symm; assumption) | (simp; done)) (by assumption)))) | exact lk1 (by first | assumption | (apply Ne.symm; assumption) | (simp; done)) (lk1 (by first | assumption | (apply Ne.symm; assumption) | (simp; done)) (lk1 (by first | assumption | (apply Ne.symm; assumption) | (simp; done)) (lk1 (by first | assumption | (apply Ne.symm; assumption) | (simp; done)) (va_up_self _ _ _))))) (by first | rfl | assumption) ?_
                refine pw_iload (pc := 61) dX8_gathers_61 rfl ?_
                refine pw_aload_n (pc := 63) dX8_gathers_63 rfl ?_
                refine pw_iload_n (pc := 64) dX8_gathers_64 rfl ?_
                refine pw_iload_n (pc := 65) dX8_gathers_65 rfl ?_
                refine pw_callV_i (pc := 66) cv_X8_72 dX8_gathers_66 (by first | assumption | exact va_up_self _ _ _ | exact lk1 (by first | assumption | (apply Ne.symm; assumption) | (simp; done)) (by assumption) | exact lk1 (by first | assumption | (apply Ne.symm; assumption) | (simp; done)) (va_up_self _ _ _) | exact lk1 (by first | assumption | (apply Ne.symm; assumption) | (simp; done)) (lk1 (by first | assumption | (apply Ne.symm; assumption) | (simp; done)) (by assumption)) | exact lk1 (by first | assumption | (apply Ne.symm; assumption) | (simp; done)) (lk1 (by first | assumption | (apply Ne.symm; assumption) | (simp; done)) (va_up_self _ _ _)) | exact lk1 (by first | assumption | (apply Ne.symm; assumption) | (simp; done)) (lk1 (by first | assumption | (apply Ne.symm; assumption) | (simp; done)) (lk1 (by first | assumption | (apply Ne.symm; assumption) | (simp; done)) (by assumption))) | exact lk1 (by first | assumption | (apply Ne.symm; assumption) | (simp; done)) (lk1 (by first | assumption | (apply Ne.symm; assumption) | (simp; done)) (lk1 (by first | assumption | (apply Ne.symm; assumption) | (simp; done)) (va_up_self _ _ _))) | exact lk1 (by first | assumption | (apply Ne.symm; assumption) | (simp; done)) (lk1 (by first | assumption | (apply Ne.symm; assumption) | (simp; done)) (lk1 (by first | assumption | (apply Ne.symm; assumption) | (simp; done)) (lk1 (by first | assumption | (apply Ne.symm; assumption) | (simp; done)) (by assumption)))) | exact lk1 (by first | assumption | (apply Ne.symm; assumption) | (simp; done)) (lk1 (by first | assumption | (apply Ne.symm; assumption) | (simp; done)) (lk1 (by first | assumption | (apply Ne.symm; assumption) | (simp; done)) (lk1 (by first | assumption | (apply Ne.symm; assumption) | (simp; done)) (va_up_self _ _ _))))) rfl (c_mat v0 rfl v1 i k hi4 (by omega)) rfl rfl (Nat.le_of_ble_eq_true rfl) ⟨(Nat.le_of_ble_eq_true rfl), (Nat.le_of_ble_eq_true rfl)⟩ ?_
                rw [ea k hkl]
                refine pw_iast (pc := 69) (s.1.length) dX8_gathers_69 (by first | assumption | exact va_up_self _ _ _ | exact lk1 (by first | assumption | (apply Ne.symm; assumption) | (simp; done)) (by assumption) | exact lk1 (by first | assumption | (apply Ne.symm; assumption) | (simp; done)) (va_up_self _ _ _) | exact lk1 (by first | assumption | (apply Ne.symm; assumption) | (simp; done)) (lk1 (by first | assumption | (apply Ne.symm; assumption) | (simp; done)) (by assumption)) | exact lk1 (by first | assumption | (apply Ne.symm; assumption) | (simp; done)) (lk1 (by first | assumption | (apply Ne.symm; assumption) | (simp; done)) (va_up_self _ _ _)) | exact lk1 (by first | assumption | (apply Ne.symm; assumption) | (simp; done)) (lk1 (by first | assumption | (apply Ne.symm; assumption) | (simp; done)) (lk1 (by first | assumption | (apply Ne.symm; assumption) | (simp; done)) (by assumption))) | exact lk1 (by first | assumption | (apply Ne.symm; assumption) | (simp; done)) (lk1 (by first | assumption | (apply Ne.symm; assumption) | (simp; done)) (lk1 (by first | assumption | (apply Ne.symm; assumption) | (simp; done)) (va_up_self _ _ _))) | exact lk1 (by first | assumption | (apply Ne.symm; assumption) | (simp; done)) (lk1 (by first | assumption | (apply Ne.symm; assumption) | (simp; done)) (lk1 (by first | assumption | (apply Ne.symm; assumption) | (simp; done)) (lk1 (by first | assumption | (apply Ne.symm; assumption) | (simp; done)) (by assumption)))) | exact lk1 (by first | assumption | (apply Ne.symm; assumption) | (simp; done)) (lk1 (by first | assumption | (apply Ne.symm; assumption) | (simp; done)) (lk1 (by first | assumption | (apply Ne.symm; assumption) | (simp; done)) (lk1 (by first | assumption | (apply Ne.symm; assumption) | (simp; done)) (va_up_self _ _ _))))) (by first | assumption | rfl | (simp only [nI_add, pk_mul, Nat.one_mul, Nat.mul_one, Nat.zero_add, Nat.add_zero, Nat.mul_zero]; done) | exact pk_sub (by omega) | (rw [pk_sub (by omega)]; first | done | (rw [nI_add]; done) | (rw [pk_sub (by omega)]; done) | (rw [pk_sub (by omega), nI_add]; done)) | (simp only [nI_add, pk_mul]; first | exact pk_sub (by omega) | (congr 1; omega)) | (congr 1; omega)) (by omega) (by omega) ?_
                have a0 := lk1 (v := some (.inl (0, 26, .inl (upd gn s.1.length ((R.1 i).getD k 0))))) (k := m + 9) (by omega) v0
                have a10 := lk1 (v := some (.inl (0, 26, .inl (upd gn s.1.length ((R.1 i).getD k 0))))) (k := m + 9) (by omega) v10
                refine pw_aload_n (pc := 70) dX8_gathers_70 rfl ?_
                refine pw_get (pc := 71) fg_X8_45 dX8_gathers_71 (by first | assumption | exact va_up_self _ _ _ | exact lk1 (by first | assumption | (apply Ne.symm; assumption) | (simp; done)) (by assumption) | exact lk1 (by first | assumption | (apply Ne.symm; assumption) | (simp; done)) (va_up_self _ _ _) | exact lk1 (by first | assumption | (apply Ne.symm; assumption) | (simp; done)) (lk1 (by first | assumption | (apply Ne.symm; assumption) | (simp; done)) (by assumption)) | exact lk1 (by first | assumption | (apply Ne.symm; assumption) | (simp; done)) (lk1 (by first | assumption | (apply Ne.symm; assumption) | (simp; done)) (va_up_self _ _ _)) | exact lk1 (by first | assumption | (apply Ne.symm; assumption) | (simp; done)) (lk1 (by first | assumption | (apply Ne.symm; assumption) | (simp; done)) (lk1 (by first | assumption | (apply Ne.symm; assumption) | (simp; done)) (by assumption))) | exact lk1 (by first | assumption | (apply Ne.symm; assumption) | (simp; done)) (lk1 (by first | assumption | (apply Ne.symm; assumption) | (simp; done)) (lk1 (by first | assumption | (apply Ne.symm; assumption) | (simp; done)) (va_up_self _ _ _))) | exact lk1 (by first | assumption | (apply Ne.symm; assumption) | (simp; done)) (lk1 (by first | assumption | (apply Ne.symm; assumption) | (simp; done)) (lk1 (by first | assumption | (apply Ne.symm; assumption) | (simp; done)) (lk1 (by first | assumption | (apply Ne.symm; assumption) | (simp; done)) (by assumption)))) | exact lk1 (by first | assumption | (apply Ne.symm; assumption) | (simp; done)) (lk1 (by first | assumption | (apply Ne.symm; assumption) | (simp; done)) (lk1 (by first | assumption | (apply Ne.symm; assumption) | (simp; done)) (lk1 (by first | assumption | (apply Ne.symm; assumption) | (simp; done)) (va_up_self _ _ _))))) (by first | rfl | assumption) ?_
                refine pw_iload (pc := 74) dX8_gathers_74 rfl ?_
                refine pw_iconst (pc := 76) (nI 0) dX8_gathers_76 (by decide) ?_
                refine pw_iast (pc := 77) (s.1.length) dX8_gathers_77 (by first | assumption | exact va_up_self _ _ _ | exact lk1 (by first | assumption | (apply Ne.symm; assumption) | (simp; done)) (by assumption) | exact lk1 (by first | assumption | (apply Ne.symm; assumption) | (simp; done)) (va_up_self _ _ _) | exact lk1 (by first | assumption | (apply Ne.symm; assumption) | (simp; done)) (lk1 (by first | assumption | (apply Ne.symm; assumption) | (simp; done)) (by assumption)) | exact lk1 (by first | assumption | (apply Ne.symm; assumption) | (simp; done)) (lk1 (by first | assumption | (apply Ne.symm; assumption) | (simp; done)) (va_up_self _ _ _)) | exact lk1 (by first | assumption | (apply Ne.symm; assumption) | (simp; done)) (lk1 (by first | assumption | (apply Ne.symm; assumption) | (simp; done)) (lk1 (by first | assumption | (apply Ne.symm; assumption) | (simp; done)) (by assumption))) | exact lk1 (by first | assumption | (apply Ne.symm; assumption) | (simp; done)) (lk1 (by first | assumption | (apply Ne.symm; assumption) | (simp; done)) (lk1 (by first | assumption | (apply Ne.symm; assumption) | (simp; done)) (va_up_self _ _ _))) | exact lk1 (by first | assumption | (apply Ne.symm; assumption) | (simp; done)) (lk1 (by first | assumption | (apply Ne.symm; assumption) | (simp; done)) (lk1 (by first | assumption | (apply Ne.symm; assumption) | (simp; done)) (lk1 (by first | assumption | (apply Ne.symm; assumption) | (simp; done)) (by assumption)))) | exact lk1 (by first | assumption | (apply Ne.symm; assumption) | (simp; done)) (lk1 (by first | assumption | (apply Ne.symm; assumption) | (simp; done)) (lk1 (by first | assumption | (apply Ne.symm; assumption) | (simp; done)) (lk1 (by first | assumption | (apply Ne.symm; assumption) | (simp; done)) (va_up_self _ _ _))))) (by first | assumption | rfl | (simp only [nI_add, pk_mul, Nat.one_mul, Nat.mul_one, Nat.zero_add, Nat.add_zero, Nat.mul_zero]; done) | exact pk_sub (by omega) | (rw [pk_sub (by omega)]; first | done | (rw [nI_add]; done) | (rw [pk_sub (by omega)]; done) | (rw [pk_sub (by omega), nI_add]; done)) | (simp only [nI_add, pk_mul]; first | exact pk_sub (by omega) | (congr 1; omega)) | (congr 1; omega)) (by omega) (by omega) ?_
                have b0 := lk1 (v := some (.inl (0, 26, .inl (upd gb s.1.length (nI 0))))) (k := m + 10) (by omega) a0
                refine pw_aload_n (pc := 78) dX8_gathers_78 rfl ?_
                refine pw_dup (pc := 79) dX8_gathers_79 rfl ?_
                refine pw_get (pc := 80) fg_X8_163 dX8_gathers_80 (by first | assumption | exact va_up_self _ _ _ | exact lk1 (by first | assumption | (apply Ne.symm; assumption) | (simp; done)) (by assumption) | exact lk1 (by first | assumption | (apply Ne.symm; assumption) | (simp; done)) (va_up_self _ _ _) | exact lk1 (by first | assumption | (apply Ne.symm; assumption) | (simp; done)) (lk1 (by first | assumption | (apply Ne.symm; assumption) | (simp; done)) (by assumption)) | exact lk1 (by first | assumption | (apply Ne.symm; assumption) | (simp; done)) (lk1 (by first | assumption | (apply Ne.symm; assumption) | (simp; done)) (va_up_self _ _ _)) | exact lk1 (by first | assumption | (apply Ne.symm; assumption) | (simp; done)) (lk1 (by first | assumption | (apply Ne.symm; assumption) | (simp; done)) (lk1 (by first | assumption | (apply Ne.symm; assumption) | (simp; done)) (by assumption))) | exact lk1 (by first | assumption | (apply Ne.symm; assumption) | (simp; done)) (lk1 (by first | assumption | (apply Ne.symm; assumption) | (simp; done)) (lk1 (by first | assumption | (apply Ne.symm; assumption) | (simp; done)) (va_up_self _ _ _))) | exact lk1 (by first | assumption | (apply Ne.symm; assumption) | (simp; done)) (lk1 (by first | assumption | (apply Ne.symm; assumption) | (simp; done)) (lk1 (by first | assumption | (apply Ne.symm; assumption) | (simp; done)) (lk1 (by first | assumption | (apply Ne.symm; assumption) | (simp; done)) (by assumption)))) | exact lk1 (by first | assumption | (apply Ne.symm; assumption) | (simp; done)) (lk1 (by first | assumption | (apply Ne.symm; assumption) | (simp; done)) (lk1 (by first | assumption | (apply Ne.symm; assumption) | (simp; done)) (lk1 (by first | assumption | (apply Ne.symm; assumption) | (simp; done)) (va_up_self _ _ _))))) (by first | rfl | assumption) ?_
                refine pw_iconst (pc := 83) (nI 1) dX8_gathers_83 (by decide) ?_
                refine pw_iadd (pc := 84) dX8_gathers_84 ?_
                rw [nI_add]
                refine pw_put20 (pc := 85) fp_X8_163 dX8_gathers_85 (by first | assumption | exact va_up_self _ _ _ | exact lk1 (by first | assumption | (apply Ne.symm; assumption) | (simp; done)) (by assumption) | exact lk1 (by first | assumption | (apply Ne.symm; assumption) | (simp; done)) (va_up_self _ _ _) | exact lk1 (by first | assumption | (apply Ne.symm; assumption) | (simp; done)) (lk1 (by first | assumption | (apply Ne.symm; assumption) | (simp; done)) (by assumption)) | exact lk1 (by first | assumption | (apply Ne.symm; assumption) | (simp; done)) (lk1 (by first | assumption | (apply Ne.symm; assumption) | (simp; done)) (va_up_self _ _ _)) | exact lk1 (by first | assumption | (apply Ne.symm; assumption) | (simp; done)) (lk1 (by first | assumption | (apply Ne.symm; assumption) | (simp; done)) (lk1 (by first | assumption | (apply Ne.symm; assumption) | (simp; done)) (by assumption))) | exact lk1 (by first | assumption | (apply Ne.symm; assumption) | (simp; done)) (lk1 (by first | assumption | (apply Ne.symm; assumption) | (simp; done)) (lk1 (by first | assumption | (apply Ne.symm; assumption) | (simp; done)) (va_up_self _ _ _))) | exact lk1 (by first | assumption | (apply Ne.symm; assumption) | (simp; done)) (lk1 (by first | assumption | (apply Ne.symm; assumption) | (simp; done)) (lk1 (by first | assumption | (apply Ne.symm; assumption) | (simp; done)) (lk1 (by first | assumption | (apply Ne.symm; assumption) | (simp; done)) (by assumption)))) | exact lk1 (by first | assumption | (apply Ne.symm; assumption) | (simp; done)) (lk1 (by first | assumption | (apply Ne.symm; assumption) | (simp; done)) (lk1 (by first | assumption | (apply Ne.symm; assumption) | (simp; done)) (lk1 (by first | assumption | (apply Ne.symm; assumption) | (simp; done)) (va_up_self _ _ _))))) rfl rfl ?_
                refine tail _ _ ?_ (by rw [gaI, hno]; rfl)
                rw [eN]
                refine ⟨?_, ⟨_, lk1 (by omega) (lk1 (by omega) (va_up_self _ _ _)), holdsL_snoc hgn⟩, ⟨_, lk1 (by omega) (va_up_self _ _ _), fun j hj => ?_⟩, fun q q1 q2 q3 => by rw [va_up_ne _ _ q1, va_up_ne _ _ q3, va_up_ne _ _ q2]; exact vf q q1 q2 q3⟩
                · rw [List.length_append, List.length_singleton]; exact va_up_self _ _ _
                · simp only [List.length_append, List.length_singleton] at hj
                  by_cases e : j = s.1.length
                  · subst e
                    show _ = upd s.2 s.1.length (nI 0) s.1.length
                    rw [pk_us, pk_us]
                  · rw [pk_un e]
                    show gb j = upd s.2 s.1.length (nI 0) j
                    rw [pk_un e]; exact hgb j (by omega)
        refine pw_iload_n (pc := 7) dX8_gathers_7 rfl ?_
        refine pw_iconst (pc := 8) (nI 4) dX8_gathers_8 (by decide) ?_
        refine pw_icmp_ge_n (pc := 9) 132 dX8_gathers_9 (by decide) (by omega) (by omega) (fun cb => ?_) (fun cb => ?_)
        · omega
        · refine pw_iconst (pc := 12) (nI 0) dX8_gathers_12 (by decide) ?_
          refine pw_ist3 (pc := 13) dX8_gathers_13 (Nat.le_of_ble_eq_true rfl) rfl ?_
          exact inner (R.1 i).length 0 h' _ (by omega) wk
      · have eG : gaA R set (i + 1) = gaA R set i := by rw [gaA, if_neg hin]
        obtain ⟨v0, v9, v10, vf⟩ := id wk
        have v1 := (vf (m + 1) (by omega) (by omega) (by omega)).trans h1
        refine pw_iload_n (pc := 7) dX8_gathers_7 rfl ?_
        refine pw_iconst (pc := 8) (nI 4) dX8_gathers_8 (by decide) ?_
        refine pw_icmp_ge_n (pc := 9) 132 dX8_gathers_9 (by decide) (by omega) (by omega) (fun cb => ?_) (fun cb => ?_)
        · omega
        · refine pw_iconst (pc := 12) (nI 0) dX8_gathers_12 (by decide) ?_
          refine pw_ist3 (pc := 13) dX8_gathers_13 (Nat.le_of_ble_eq_true rfl) rfl ?_
          refine pw_iload_n (pc := 14) dX8_gathers_14 rfl ?_
          refine pw_aload_n (pc := 15) dX8_gathers_15 rfl ?_
          refine pw_iload_n (pc := 16) dX8_gathers_16 rfl ?_
          refine pw_callV_i (pc := 17) cv_X8_68 dX8_gathers_17 (by first | assumption | exact va_up_self _ _ _ | exact lk1 (by first | assumption | (apply Ne.symm; assumption) | (simp; done)) (by assumption) | exact lk1 (by first | assumption | (apply Ne.symm; assumption) | (simp; done)) (va_up_self _ _ _) | exact lk1 (by first | assumption | (apply Ne.symm; assumption) | (simp; done)) (lk1 (by first | assumption | (apply Ne.symm; assumption) | (simp; done)) (by assumption)) | exact lk1 (by first | assumption | (apply Ne.symm; assumption) | (simp; done)) (lk1 (by first | assumption | (apply Ne.symm; assumption) | (simp; done)) (va_up_self _ _ _)) | exact lk1 (by first | assumption | (apply Ne.symm; assumption) | (simp; done)) (lk1 (by first | assumption | (apply Ne.symm; assumption) | (simp; done)) (lk1 (by first | assumption | (apply Ne.symm; assumption) | (simp; done)) (by assumption))) | exact lk1 (by first | assumption | (apply Ne.symm; assumption) | (simp; done)) (lk1 (by first | assumption | (apply Ne.symm; assumption) | (simp; done)) (lk1 (by first | assumption | (apply Ne.symm; assumption) | (simp; done)) (va_up_self _ _ _))) | exact lk1 (by first | assumption | (apply Ne.symm; assumption) | (simp; done)) (lk1 (by first | assumption | (apply Ne.symm; assumption) | (simp; done)) (lk1 (by first | assumption | (apply Ne.symm; assumption) | (simp; done)) (lk1 (by first | assumption | (apply Ne.symm; assumption) | (simp; done)) (by assumption)))) | exact lk1 (by first | assumption | (apply Ne.symm; assumption) | (simp; done)) (lk1 (by first | assumption | (apply Ne.symm; assumption) | (simp; done)) (lk1 (by first | assumption | (apply Ne.symm; assumption) | (simp; done)) (lk1 (by first | assumption | (apply Ne.symm; assumption) | (simp; done)) (va_up_self _ _ _))))) rfl (c_msizeOf v0 rfl v1 i hi4) rfl rfl (Nat.le_of_ble_eq_true rfl) ⟨(Nat.le_of_ble_eq_true rfl), (Nat.le_of_ble_eq_true rfl)⟩ ?_
          rw [ez]
          refine pw_icmp_ge_n (pc := 20) 126 dX8_gathers_20 (by decide) (by omega) (by omega) (fun _ => next h' _ _ (by rw [eG]; exact wk)) (fun _ => ?_)
          refine pw_iload_n (pc := 23) dX8_gathers_23 rfl ?_
          refine pw_iload_n (pc := 24) dX8_gathers_24 rfl ?_
          refine pw_ishr (pc := 25) dX8_gathers_25 ?_
          refine pw_iconst (pc := 26) (nI 1) dX8_gathers_26 (by decide) ?_
          refine pw_iand (pc := 27) dX8_gathers_27 ?_
          refine pw_iconst (pc := 28) (nI 1) dX8_gathers_28 (by decide) ?_
          refine pw_icmp_ne (pc := 29) 126 dX8_gathers_29 (by decide) (fun _ => next h' _ _ (by rw [eG]; exact wk)) (fun z => absurd ((inB_1 _ _).mp z) hin)
  refine PM.of [.ref m, .int set, .null, .null, .null] rfl (Nat.le_of_ble_eq_true rfl) rfl ?_
  refine pw_aload_n (pc := 0) dX8_gathers_0 rfl ?_
  refine pw_iconst (pc := 1) (nI 0) dX8_gathers_1 (by decide) ?_
  refine pw_put20 (pc := 2) fp_X8_163 dX8_gathers_2 (by first | assumption | exact va_up_self _ _ _ | exact lk1 (by first | assumption | (apply Ne.symm; assumption) | (simp; done)) (by assumption) | exact lk1 (by first | assumption | (apply Ne.symm; assumption) | (simp; done)) (va_up_self _ _ _) | exact lk1 (by first | assumption | (apply Ne.symm; assumption) | (simp; done)) (lk1 (by first | assumption | (apply Ne.symm; assumption) | (simp; done)) (by assumption)) | exact lk1 (by first | assumption | (apply Ne.symm; assumption) | (simp; done)) (lk1 (by first | assumption | (apply Ne.symm; assumption) | (simp; done)) (va_up_self _ _ _)) | exact lk1 (by first | assumption | (apply Ne.symm; assumption) | (simp; done)) (lk1 (by first | assumption | (apply Ne.symm; assumption) | (simp; done)) (lk1 (by first | assumption | (apply Ne.symm; assumption) | (simp; done)) (by assumption))) | exact lk1 (by first | assumption | (apply Ne.symm; assumption) | (simp; done)) (lk1 (by first | assumption | (apply Ne.symm; assumption) | (simp; done)) (lk1 (by first | assumption | (apply Ne.symm; assumption) | (simp; done)) (va_up_self _ _ _))) | exact lk1 (by first | assumption | (apply Ne.symm; assumption) | (simp; done)) (lk1 (by first | assumption | (apply Ne.symm; assumption) | (simp; done)) (lk1 (by first | assumption | (apply Ne.symm; assumption) | (simp; done)) (lk1 (by first | assumption | (apply Ne.symm; assumption) | (simp; done)) (by assumption)))) | exact lk1 (by first | assumption | (apply Ne.symm; assumption) | (simp; done)) (lk1 (by first | assumption | (apply Ne.symm; assumption) | (simp; done)) (lk1 (by first | assumption | (apply Ne.symm; assumption) | (simp; done)) (lk1 (by first | assumption | (apply Ne.symm; assumption) | (simp; done)) (va_up_self _ _ _))))) rfl rfl ?_
  refine pw_iconst (pc := 5) (nI 0) dX8_gathers_5 (by decide) ?_
  refine pw_ist2 (pc := 6) dX8_gathers_6 (Nat.le_of_ble_eq_true rfl) rfl ?_
  exact outer 4 0 _ _ _ (by omega) ⟨va_up_self _ _ _, ⟨g9, lk1 (by omega) h9, fun k hk => absurd hk (Nat.not_lt_zero k)⟩, ⟨g10, lk1 (by omega) h10, fun j hj => absurd hj (Nat.not_lt_zero j)⟩, fun q q1 _ _ => va_up_ne _ _ q1⟩
end G1
