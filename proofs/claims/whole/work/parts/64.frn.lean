/-! what lies below eB E: static arrays, texts -/
section FR
variable {K : MX} {pc : Nat} {ls st : List Value} {h : HP} {n ms : Nat}
theorem pw_ldcS {idx q : Nat} {tx : String} (hv : ∀ U, pK K.1 U → vk_R (mY K.2.1).cls idx tx q U) (d : decode (mC K.2.1) pc = .ok (.ldc idx, 2)) (k : PW K (pc + 2) ls (.ref q :: st) h n ms) : PW K pc ls st h n ms := by
  intro p e s m args below meth c X Y R r1 r2 H locs lsA cells slots hS hR hL hn
  exact va_ldcS X.1 X.2.1 X.2.2.2.2.1 (hv s X.2.2.2.2.2.2.2.2.1) d (k p e s m args below meth c X Y R r1 r2 H locs lsA cells slots hS hR hL hn)
theorem pw_gets {idx : Nat} {C nm dd : String} {v : Value} (hZ : ∀ U H, pF K.1 U H → va_Z C nm dd v (pA K.1) U H) (hl : Cond.fieldLink (mY K.2.1).cls idx C nm dd ∈ tbl) (d : decode (mC K.2.1) pc = .ok (.getstatic idx, 3)) (k : PW K (pc + 3) ls (v :: st) h n ms) : PW K pc ls st h n ms := by
  intro p e s m args below meth c X Y R r1 r2 H locs lsA cells slots hS hR hL hn
  exact va_gets X.1 X.2.1 (hZ s s.heap X.2.2.2.2.2.2.2.2.2) hS X.2.2.2.2.1 (X.2.2.2.2.2.2.2.1 _ hl) (fun _ q => q) d (k p e s m args below meth c X Y R r1 r2 H locs lsA cells slots hS hR hL hn)
theorem pw_getsN {idx : Nat} {C nm dd host : String} {v : Value} (hZ : ∀ U H, pF K.1 U H → va_Z C nm dd v (pA K.1) U H) (hl : Cond.fieldLinkNest (mY K.2.1).cls idx C nm dd host ∈ nst) (d : decode (mC K.2.1) pc = .ok (.getstatic idx, 3)) (k : PW K (pc + 3) ls (v :: st) h n ms) : PW K pc ls st h n ms := by
  intro p e s m args below meth c X Y R r1 r2 H locs lsA cells slots hS hR hL hn
  exact va_getsN X.1 X.2.1 (hZ s s.heap X.2.2.2.2.2.2.2.2.2) hS X.2.2.2.2.1 (va_Nw.use rfl (X.2.2.2.2.2.2.2.2.1.2.1 _ hl)) (fun _ q => q) d (k p e s m args below meth c X Y R r1 r2 H locs lsA cells slots hS hR hL hn)
theorem pw_getq {idx : Nat} {C nm dd : String} (hZ : ∀ U H, pF K.1 U H → va_Zq C nm dd (pA K.1) U H) (hl : Cond.fieldLink (mY K.2.1).cls idx C nm dd ∈ tbl) (d : decode (mC K.2.1) pc = .ok (.getstatic idx, 3)) (k0 : PW K (pc + 3) ls (.null :: st) h n ms) (k : ∀ t, PW K (pc + 3) ls (.ref t :: st) h n ms) : PW K pc ls st h n ms := by
  intro p e s m args below meth c X Y R r1 r2 H locs lsA cells slots hS hR hL hn
  rcases hZ s s.heap X.2.2.2.2.2.2.2.2.2 with q | ⟨t, q⟩
  · exact va_gets X.1 X.2.1 q hS X.2.2.2.2.1 (X.2.2.2.2.2.2.2.1 _ hl) (fun _ q => q) d (k0 p e s m args below meth c X Y R r1 r2 H locs lsA cells slots hS hR hL hn)
  · exact va_gets X.1 X.2.1 q hS X.2.2.2.2.1 (X.2.2.2.2.2.2.2.1 _ hl) (fun _ q => q) d (k t p e s m args below meth c X Y R r1 r2 H locs lsA cells slots hS hR hL hn)
theorem pw_getF {idx q : Nat} {o nm dd : String} {v : Value} (hE : ∀ U H, pF K.1 U H → va_OF o nm dd v q (pA K.1) U H) (hl : Cond.fieldLink (mY K.2.1).cls idx o nm dd ∈ tbl) (d : decode (mC K.2.1) pc = .ok (.getfield idx, 3)) (k : PW K (pc + 3) ls (v :: st) h n ms) : PW K pc ls (.ref q :: st) h n ms := by
  intro p e s m args below meth c X Y R r1 r2 H locs lsA cells slots hS hR hL hn
  exact vk_getf X.1 X.2.1 (hE s s.heap X.2.2.2.2.2.2.2.2.2) hS X.2.2.2.2.1 (X.2.2.2.2.2.2.2.1 _ hl) (fun _ q => q) d (k p e s m args below meth c X Y R r1 r2 H locs lsA cells slots hS hR hL hn)
theorem pw_tlen {q N : Nat} {ty : FieldType} {f : Nat → Value} (hT : ∀ U H, pF K.1 U H → va_T ty q N f (pA K.1) U H) (d : decode (mC K.2.1) pc = .ok (.arraylength, 1)) (k : PW K (pc + 1) ls (.int (nI N) :: st) h n ms) : PW K pc ls (.ref q :: st) h n ms := by
  intro p e s m args below meth c X Y R r1 r2 H locs lsA cells slots hS hR hL hn
  exact va_tlen X.1 X.2.1 (hT s s.heap X.2.2.2.2.2.2.2.2.2) hS rfl d (k p e s m args below meth c X Y R r1 r2 H locs lsA cells slots hS hR hL hn)
theorem pw_tb {q N : Nat} {f : Nat → Value} (hT : ∀ U H, pF K.1 U H → va_T .byte q N f (pA K.1) U H) {j : Nat} (hj : j < N) (hN : N < 2147483648) {v : Value} (hv : f j = v) (d : decode (mC K.2.1) pc = .ok (.baload, 1)) (k : PW K (pc + 1) ls (v :: st) h n ms) : PW K pc ls (.int (nI j) :: .ref q :: st) h n ms := by
  intro p e s m args below meth c X Y R r1 r2 H locs lsA cells slots hS hR hL hn
  exact va_tb X.1 X.2.1 (hT s s.heap X.2.2.2.2.2.2.2.2.2) hS (vp_in_nI hj hN) (by rw [nI_clamp (Nat.lt_trans hj hN)]; exact hv) d (k p e s m args below meth c X Y R r1 r2 H locs lsA cells slots hS hR hL hn)
theorem pw_xald {b L : Nat} {xs : Nat → Int32} (hX : ∀ U H, pF K.1 U H → va_X b L xs U H ∧ ¬ pA K.1 b) {j : Nat} (hj : j < L) (hL' : L < 2147483648) (d : decode (mC K.2.1) pc = .ok (.iaload, 1)) (k : PW K (pc + 1) ls (.int (xs j) :: st) h n ms) : PW K pc ls (.int (nI j) :: .ref b :: st) h n ms := by
  intro p e s m args below meth c X Y R r1 r2 H locs lsA cells slots hS hR hL hn
  obtain ⟨q1, q2⟩ := hX s s.heap X.2.2.2.2.2.2.2.2.2
  refine va_sld X.1 X.2.1 q1 (va_X_lt q1) q2 hS (vp_in_nI hj hL') d ?_
  rw [nI_clamp (Nat.lt_trans hj hL')]
  exact k p e s m args below meth c X Y R r1 r2 H locs lsA cells slots hS hR hL hn
theorem pw_copyX {idx b0 a n0 n1 : Nat} {f g : Nat → Int32} {sp dp cn : Int32} (hX : ∀ U H, pF K.1 U H → va_X b0 n0 f U H ∧ ¬ pA K.1 b0) (js jd jn : Nat) (cl : Cond.methodLink (mY K.2.1).cls idx arraycopyName ∈ tbl) (d : decode (mC K.2.1) pc = .ok (.invokestatic idx, 3)) (ha : h a = some (.inl (0, n1, .inl g))) (hs : sp = nI js) (hd : dp = nI jd) (hc : cn = nI jn) (h4 : js + jn ≤ n0) (h5 : jd + jn ≤ n1) (hN0 : n0 < 2147483648) (hN1 : n1 < 2147483648) (hfr : 1 ≤ mFr K.2.1) (hlo : (st.map fun v => v.category).sum + (nativeFrameWords "java/lang/System" "arraycopy" 5 + 11) ≤ mLo K.2.1) (kk : PW K (pc + 3) ls st (va_up h a (some (.inl (0, n1, .inl (va_cpy f g js jd jn))))) n ms) : PW K pc ls (.int cn :: .int dp :: .ref a :: .int sp :: .ref b0 :: st) h n ms := by
  intro p e s m args below meth c X Y R r1 r2 H locs lsA cells slots hS hR hL hn
  subst hs hd hc
  obtain ⟨q1, q2⟩ := hX s s.heap X.2.2.2.2.2.2.2.2.2
  have hb := (hR.2.2.1 a).mp ⟨_, ha⟩
  have t1 : js < 2147483648 := by omega
  have t2 : jd < 2147483648 := by omega
  have t3 : jn < 2147483648 := by omega
  refine va_copyx X.1 X.2.1 (X.2.2.2.1.trans hL.1.symm) X.2.2.2.2.1 (X.2.2.2.2.2.2.2.1 _ cl) (X.2.2.2.2.2.2.2.1 _ (by decide +kernel)) (X.2.2.2.2.2.2.2.1 _ (by decide +kernel)) (X.2.2.2.2.2.2.2.1 _ (by decide +kernel)) X.2.2.2.2.2.2.2.2.1.1 hR.2.2.2 pws_D hS q1 (va_X_lt q1) q2 _ 0 (hR.at ha) rfl (nI_pos t1) (nI_pos t2) (nI_pos t3) (by rw [nI_clamp t1, nI_clamp t3]; exact h4) (by rw [nI_clamp t2, nI_clamp t3]; exact h5) (by rw [r1]; exact hfr) (by rw [r2]; exact hlo) d (fun H1 locs1 hP1 _ hS1 => ?_)
  rw [nI_clamp t1, nI_clamp t2, nI_clamp t3] at hP1
  have e1 := pws_set (E := K.1) (h := h) (e := .inl (0, n1, .inl (va_cpy f g js jd jn))) hb.1 hb.2
  simp only [cvE] at e1 hP1
  rw [e1] at hP1
  refine W.sized (fun hz => ?_)
  exact kk p e s m args below meth c X Y R r1 r2 H1 locs1 lsA cells slots hS1 (pR.mk hP1 hS1 X.2.2.2.2.2.2.2.2.2.2.2.2.2.2 (by omega) hR.2.1 (dom_up hR.2.2.1 ha)) hL hn
theorem pw_callT {idx n1 m1 : Nat} {M' : MR} {As rest : List Value} {i : Nat} (hi : i < 5) {Q' : Option Value → HP → Prop} {na : Nat} (cl : CV (mY K.2.1).cls idx M' na) (d : decode (mC K.2.1) pc = .ok (.invokevirtual idx, 3)) (hC : (mY M').cls = RJ0) (hM : PM K.1 M' (.ref (eX K.1 (10 + i)) :: As) h n n1 m1 Q') (hna : As.length = na) (hst : st = As.reverse ++ .ref (eX K.1 (10 + i)) :: rest) (hw : (rest.map fun v => v.category).sum ≤ 8) (hr : mFr M' + 1 ≤ mFr K.2.1 ∧ 8 + (mL M' + 11) + mLo M' ≤ mLo K.2.1) (hn1 : n ≤ n1) (hn2 : n1 ≤ K.2.2.2.2) (hm1 : m1 ≤ ms) (k : ∀ v h', Q' v h' → PW K (pc + 3) ls (v.toList ++ rest) h' n1 (ms - m1)) : PW K pc ls st h n ms := by
  intro p e s m args below meth c X Y R r1 r2 H locs lsA cells slots hS hR hL hn
  subst hst hna
  refine pw_run (a := (.ref (eX K.1 (10 + i)) :: As : List Value).toArray) X Y r1 r2 hS hR hL hn hn1 hn2 hm1 ?_ k
  have hin : cells + (n1 - n) ≤ R.cells ∧ slots + m1 ≤ R.slots := ⟨by omega, by omega⟩
  have hrm : mFr M' + 1 ≤ R.frames ∧ 8 + (mL M' + 11) + mLo M' ≤ R.locals := by rw [r1, r2]; exact hr
  have htt := X.2.2.2.2.2.2.2.1
  have hfx : CallFix p m c (mC K.2.1) (mL K.2.1) s args tbl (mY K.2.1).cls := ⟨X.1, X.2.1, X.2.2.2.1, X.2.2.2.2.1, htt⟩
  have hrv : ∃ cell : Cell, H[eX K.1 (10 + i)]? = some cell ∧ cell.vm.isStatics = false ∧ s.vm.findClass (mY M').cls = some cell.cls := by
    rw [hC]; exact vk_recv (adK := fun i => eX K.1 (10 + i)) (i := i) X.2.2.2.2.2.2.2.2.2.2.2.2.2.1 hi hS
  exact va_runV (As := As) hfx (hM hn1) ⟨callB_of _ htt (mW_good cl.1.2.2.1) rfl rfl rfl (htt _ cl.1.2.1) (htt _ cl.1.1) cl.1.2.2.2 hrm, htt _ cl.2.1, htt _ cl.2.2⟩ ⟨pPc_blind, hrv, pPc_at X hS hR _⟩ rfl rfl hL.1 rfl (lv_room hw) d hin
end FR
