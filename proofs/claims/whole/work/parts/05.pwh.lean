def FG (own : String) (idx ci k : Nat) : Prop := ∃ (C : String) (T : u_T) (N : Nat), vwCl[ci]? = some (C, T, N) ∧ k < N ∧ (∀ w ∈ u_ws C T N, w ∈ tbl) ∧ (T k).1 = C ∧ Cond.fieldLink own idx C (T k).2.1 (T k).2.2.1 ∈ tbl
def FP (own : String) (idx ci k : Nat) (ty : FieldType) : Prop := ∃ (C : String) (T : u_T) (N : Nat) (ty0 : Nat → FieldType), vwCl[ci]? = some (C, T, N) ∧ k < N ∧ (∀ w ∈ u_ws C T N, w ∈ tbl) ∧ (T k).1 = C ∧ Cond.fieldLink own idx C (T k).2.1 (T k).2.2.1 ∈ tbl ∧ (∀ k, k < N → parseFieldDescriptor (T k).2.2.1 = some (ty0 k)) ∧ (∀ a, a < N → ∀ b, b < N → a ≠ b → (T a).2.1 ≠ (T b).2.1) ∧ (T k).2.2.2 = false ∧ parseFieldDescriptor (T k).2.2.1 = some ty
def FF (own : String) (idx ci k : Nat) (ty : FieldType) : Prop := ∃ (C : String) (T : u_T) (N : Nat) (ty0 : Nat → FieldType), vwCl[ci]? = some (C, T, N) ∧ k < N ∧ (∀ w ∈ u_ws C T N, w ∈ tbl) ∧ (T k).1 = C ∧ Cond.fieldLink own idx C (T k).2.1 (T k).2.2.1 ∈ tbl ∧ (∀ k, k < N → parseFieldDescriptor (T k).2.2.1 = some (ty0 k)) ∧ (∀ a, a < N → ∀ b, b < N → a ≠ b → (T a).2.1 ≠ (T b).2.1) ∧ (T k).2.2.2 = true ∧ (T k).1 = own ∧ parseFieldDescriptor (T k).2.2.1 = some ty
section PWG
variable {K : MX} {pc : Nat} {ls st : List Value} {h : HP} {n ms : Nat}
theorem pw_get {idx ci k a : Nat} {fs : List Value} {v : Value} (F : FG (mY K.2.1).cls idx ci k) (d : decode (mC K.2.1) pc = .ok (.getfield idx, 3)) (ha : h a = some (.inr (ci, fs))) (hv : fs[k]? = some v) (kk : PW K (pc + 3) ls (v :: st) h n ms) : PW K pc ls (.ref a :: st) h n ms := by
  intro p e s m args below meth c X Y R r1 r2 H locs lsA cells slots hS hR hL hn
  obtain ⟨C, T, N, f1, f2, f3, f4, f5⟩ := F
  exact va_get X.1 X.2.1 X.2.2.2.2.2.2.2.1 f3 X.2.2.2.2.1 X.2.2.2.2.2.2.2.2.1.1 hR.2.2.2 _ (hR.at ha) f1 k f2 (X.2.2.2.2.2.2.2.1 _ f5) (fun x hx => by rw [f4] at hx; exact hx) hv d (kk p e s m args below meth c X Y R r1 r2 H locs lsA cells slots hS hR hL hn)
theorem pw_putG {idx ci k a : Nat} {fs : List Value} {v : Value} {ty : FieldType} (F : FP (mY K.2.1).cls idx ci k ty) (d : decode (mC K.2.1) pc = .ok (.putfield idx, 3)) (ha : h a = some (.inr (ci, fs))) (hl : k < fs.length) (hn1 : narrow ty v = v) (hf : fits ty v = true) (kk : PW K (pc + 3) ls st (va_up h a (some (.inr (ci, fs.set k v)))) n ms) : PW K pc ls (v :: .ref a :: st) h n ms := by
  intro p e s m args below meth c X Y R r1 r2 H locs lsA cells slots hS hR hL hn
  obtain ⟨C, T, N, ty0, f1, f2, f3, f4, f5, f6, f7, f8, f9⟩ := F
  have hb := (hR.2.2.1 a).mp ⟨_, ha⟩
  refine va_put (ty := ty) X.1 X.2.1 X.2.2.2.2.2.2.2.1 f3 ty0 f6 f7 X.2.2.2.2.1 X.2.2.2.2.2.2.2.2.1.1 hR.2.2.2 pws_D hS _ (hR.at ha) f1 k f2 (X.2.2.2.2.2.2.2.1 _ f5) (fun x hx => by rw [f4] at hx; exact hx) f8 f9 hn1 hf hl d (fun H1 locs1 hP1 _ hS1 => ?_)
  have e1 := pws_set (E := K.1) (h := h) (e := .inr (ci, fs.set k v)) hb.1 hb.2
  simp only [cvE] at e1 hP1
  rw [e1] at hP1
  refine W.sized (fun hz => ?_)
  exact kk p e s m args below meth c X Y R r1 r2 H1 locs1 lsA cells slots hS1 (pR.mk hP1 hS1 X.2.2.2.2.2.2.2.2.2.2.2.2.2.2 (by omega) hR.2.1 (dom_up hR.2.2.1 ha)) hL hn
theorem pw_putF {idx ci k a : Nat} {fs : List Value} {v : Value} {ty : FieldType} (F : FF (mY K.2.1).cls idx ci k ty) (hi : (mY K.2.1).name = "<init>") (d : decode (mC K.2.1) pc = .ok (.putfield idx, 3)) (ha : h a = some (.inr (ci, fs))) (hl : k < fs.length) (hn1 : narrow ty v = v) (hf : fits ty v = true) (kk : PW K (pc + 3) ls st (va_up h a (some (.inr (ci, fs.set k v)))) n ms) : PW K pc ls (v :: .ref a :: st) h n ms := by
  intro p e s m args below meth c X Y R r1 r2 H locs lsA cells slots hS hR hL hn
  obtain ⟨C, T, N, ty0, f1, f2, f3, f4, f5, f6, f7, f8, f9, f10⟩ := F
  have hb := (hR.2.2.1 a).mp ⟨_, ha⟩
  refine va_putF (ty := ty) X.1 X.2.1 X.2.2.2.2.2.2.2.1 f3 ty0 f6 f7 X.2.2.2.2.1 X.2.2.2.2.2.2.2.2.1.1 hR.2.2.2 pws_D hS _ (hR.at ha) f1 k f2 (X.2.2.2.2.2.2.2.1 _ f5) (fun x hx => by rw [f4] at hx; exact hx) f8 (X.2.2.2.2.2.2.1.trans hi) f9 f10 hn1 hf hl d (fun H1 locs1 hP1 _ hS1 => ?_)
  have e1 := pws_set (E := K.1) (h := h) (e := .inr (ci, fs.set k v)) hb.1 hb.2
  simp only [cvE] at e1 hP1
  rw [e1] at hP1
  refine W.sized (fun hz => ?_)
  exact kk p e s m args below meth c X Y R r1 r2 H1 locs1 lsA cells slots hS1 (pR.mk hP1 hS1 X.2.2.2.2.2.2.2.2.2.2.2.2.2.2 (by omega) hR.2.1 (dom_up hR.2.2.1 ha)) hL hn
theorem pw_alen {a kd : Nat} {x : vp_A} (v : Int32) (d : decode (mC K.2.1) pc = .ok (.arraylength, 1)) (ha : h a = some (.inl (kd, x))) (hk : kd < 4) (hv : Int32.ofNat x.1 = v) (kk : PW K (pc + 1) ls (.int v :: st) h n ms) : PW K pc ls (.ref a :: st) h n ms := by
  intro p e s m args below meth c X Y R r1 r2 H locs lsA cells slots hS hR hL hn
  have ht : ∃ (t : Nat) (ty : FieldType), (pty K.1)[t]? = some (eK K.1 kd, ty) := by
    rcases (show kd = 0 ∨ kd = 1 ∨ kd = 2 ∨ kd = 3 by omega) with rfl | rfl | rfl | rfl
    · exact ⟨0, _, rfl⟩
    · exact ⟨1, _, rfl⟩
    · exact ⟨2, _, rfl⟩
    · exact ⟨3, _, rfl⟩
  obtain ⟨t, ty, ht⟩ := ht
  exact va_alen X.1 X.2.1 X.2.2.2.2.2.2.2.2.1.1 hR.2.2.2 _ t (hR.at ha) ht hv d (kk p e s m args below meth c X Y R r1 r2 H locs lsA cells slots hS hR hL hn)

theorem pw_iald {a N : Nat} {i : Int32} {f : Nat → Int32} (j : Nat) (d : decode (mC K.2.1) pc = .ok (.iaload, 1)) (ha : h a = some (.inl (0, N, .inl f))) (hi : i = nI j) (hj : j < N) (hN : N < 2147483648) (kk : PW K (pc + 1) ls (.int (f j) :: st) h n ms) : PW K pc ls (.int i :: .ref a :: st) h n ms := by
  intro p e s m args below meth c X Y R r1 r2 H locs lsA cells slots hS hR hL hn
  subst hi
  refine va_iald X.1 X.2.1 X.2.2.2.2.2.2.2.2.1.1 hR.2.2.2 _ 0 (hR.at ha) rfl (vp_in_nI hj hN) d ?_
  rw [nI_clamp (Nat.lt_trans hj hN)]
  exact kk p e s m args below meth c X Y R r1 r2 H locs lsA cells slots hS hR hL hn
theorem pw_lald {a N : Nat} {i : Int32} {f : Nat → Int64} (j : Nat) (d : decode (mC K.2.1) pc = .ok (.laload, 1)) (ha : h a = some (.inl (1, N, .inr (.inl f)))) (hi : i = nI j) (hj : j < N) (hN : N < 2147483648) (kk : PW K (pc + 1) ls (.long (f j) :: st) h n ms) : PW K pc ls (.int i :: .ref a :: st) h n ms := by
  intro p e s m args below meth c X Y R r1 r2 H locs lsA cells slots hS hR hL hn
  subst hi
  refine va_lald X.1 X.2.1 X.2.2.2.2.2.2.2.2.1.1 hR.2.2.2 _ 1 (hR.at ha) rfl (vp_in_nI hj hN) d ?_
  rw [nI_clamp (Nat.lt_trans hj hN)]
  exact kk p e s m args below meth c X Y R r1 r2 H locs lsA cells slots hS hR hL hn
theorem pw_zald {a N : Nat} {i : Int32} {f : Nat → Int32} (j : Nat) (d : decode (mC K.2.1) pc = .ok (.baload, 1)) (ha : h a = some (.inl (2, N, .inl f))) (hi : i = nI j) (hj : j < N) (hN : N < 2147483648) (kk : PW K (pc + 1) ls (.int (f j) :: st) h n ms) : PW K pc ls (.int i :: .ref a :: st) h n ms := by
  intro p e s m args below meth c X Y R r1 r2 H locs lsA cells slots hS hR hL hn
  subst hi
  refine va_zald X.1 X.2.1 X.2.2.2.2.2.2.2.2.1.1 hR.2.2.2 _ 2 (hR.at ha) rfl (vp_in_nI hj hN) d ?_
  rw [nI_clamp (Nat.lt_trans hj hN)]
  exact kk p e s m args below meth c X Y R r1 r2 H locs lsA cells slots hS hR hL hn
theorem pw_aald0 {a N : Nat} {i : Int32} {f : Nat → Option Nat} (j : Nat) (d : decode (mC K.2.1) pc = .ok (.aaload, 1)) (ha : h a = some (.inl (3, N, .inr (.inr (.inr (.inr f)))))) (hi : i = nI j) (hj : j < N) (hN : N < 2147483648) (kk : PW K (pc + 1) ls (va_rf (f j) :: st) h n ms) : PW K pc ls (.int i :: .ref a :: st) h n ms := by
  intro p e s m args below meth c X Y R r1 r2 H locs lsA cells slots hS hR hL hn
  subst hi
  refine va_aldq X.1 X.2.1 X.2.2.2.2.2.2.2.2.1.1 hR.2.2.2 _ 3 (hR.at ha) rfl (vp_in_nI hj hN) d ?_
  rw [nI_clamp (Nat.lt_trans hj hN)]
  exact kk p e s m args below meth c X Y R r1 r2 H locs lsA cells slots hS hR hL hn
theorem pw_aald {a N q : Nat} {i : Int32} {f : Nat → Option Nat} (j : Nat) (d : decode (mC K.2.1) pc = .ok (.aaload, 1)) (ha : h a = some (.inl (3, N, .inr (.inr (.inr (.inr f)))))) (hi : i = nI j) (hj : j < N) (hN : N < 2147483648) (hq : f j = some q) (kk : PW K (pc + 1) ls (.ref q :: st) h n ms) : PW K pc ls (.int i :: .ref a :: st) h n ms := by
  refine pw_aald0 j d ha hi hj hN ?_
  rw [hq]
  exact kk
theorem pw_iast {a N : Nat} {i : Int32} {f : Nat → Int32} {x : Int32} (j : Nat) (d : decode (mC K.2.1) pc = .ok (.iastore, 1)) (ha : h a = some (.inl (0, N, .inl (f)))) (hi : i = nI j) (hj : j < N) (hN : N < 2147483648) (kk : PW K (pc + 1) ls st (va_up h a (some (.inl (0, N, .inl (upd f j x))))) n ms) : PW K pc ls (.int x :: .int i :: .ref a :: st) h n ms := by
  intro p e s m args below meth c X Y R r1 r2 H locs lsA cells slots hS hR hL hn
  subst hi
  have hb := (hR.2.2.1 a).mp ⟨_, ha⟩
  refine va_iast X.1 X.2.1 X.2.2.2.2.2.2.2.2.1.1 hR.2.2.2 pws_D hS _ 0 (hR.at ha) rfl (vp_in_nI hj hN) d (fun H1 locs1 hP1 _ hS1 => ?_)
  rw [nI_clamp (Nat.lt_trans hj hN)] at hP1
  have e1 := pws_set (E := K.1) (h := h) (e := .inl (0, N, .inl (upd f j x))) hb.1 hb.2
  simp only [cvE] at e1 hP1
  rw [e1] at hP1
  refine W.sized (fun hz => ?_)
  exact kk p e s m args below meth c X Y R r1 r2 H1 locs1 lsA cells slots hS1 (pR.mk hP1 hS1 X.2.2.2.2.2.2.2.2.2.2.2.2.2.2 (by omega) hR.2.1 (dom_up hR.2.2.1 ha)) hL hn
theorem pw_last {a N : Nat} {i : Int32} {f : Nat → Int64} {x : Int64} (j : Nat) (d : decode (mC K.2.1) pc = .ok (.lastore, 1)) (ha : h a = some (.inl (1, N, .inr (.inl (f))))) (hi : i = nI j) (hj : j < N) (hN : N < 2147483648) (kk : PW K (pc + 1) ls st (va_up h a (some (.inl (1, N, .inr (.inl (vp_updL f j x)))))) n ms) : PW K pc ls (.long x :: .int i :: .ref a :: st) h n ms := by
  intro p e s m args below meth c X Y R r1 r2 H locs lsA cells slots hS hR hL hn
  subst hi
  have hb := (hR.2.2.1 a).mp ⟨_, ha⟩
  refine va_last X.1 X.2.1 X.2.2.2.2.2.2.2.2.1.1 hR.2.2.2 pws_D hS _ 1 (hR.at ha) rfl (vp_in_nI hj hN) d (fun H1 locs1 hP1 _ hS1 => ?_)
  rw [nI_clamp (Nat.lt_trans hj hN)] at hP1
  have e1 := pws_set (E := K.1) (h := h) (e := .inl (1, N, .inr (.inl (vp_updL f j x)))) hb.1 hb.2
  simp only [cvE] at e1 hP1
  rw [e1] at hP1
  refine W.sized (fun hz => ?_)
  exact kk p e s m args below meth c X Y R r1 r2 H1 locs1 lsA cells slots hS1 (pR.mk hP1 hS1 X.2.2.2.2.2.2.2.2.2.2.2.2.2.2 (by omega) hR.2.1 (dom_up hR.2.2.1 ha)) hL hn
theorem pw_zast {a N : Nat} {i : Int32} {f : Nat → Int32} {x : Int32} (j : Nat) (d : decode (mC K.2.1) pc = .ok (.bastore, 1)) (ha : h a = some (.inl (2, N, .inl (f)))) (hi : i = nI j) (hj : j < N) (hN : N < 2147483648) (kk : PW K (pc + 1) ls st (va_up h a (some (.inl (2, N, .inl (upd f j (vp_nar .boolean x)))))) n ms) : PW K pc ls (.int x :: .int i :: .ref a :: st) h n ms := by
  intro p e s m args below meth c X Y R r1 r2 H locs lsA cells slots hS hR hL hn
  subst hi
  have hb := (hR.2.2.1 a).mp ⟨_, ha⟩
  refine va_zast X.1 X.2.1 X.2.2.2.2.2.2.2.2.1.1 hR.2.2.2 pws_D hS _ 2 (hR.at ha) rfl (vp_in_nI hj hN) d (fun H1 locs1 hP1 _ hS1 => ?_)
  rw [nI_clamp (Nat.lt_trans hj hN)] at hP1
  have e1 := pws_set (E := K.1) (h := h) (e := .inl (2, N, .inl (upd f j (vp_nar .boolean x)))) hb.1 hb.2
  simp only [cvE] at e1 hP1
  rw [e1] at hP1
  refine W.sized (fun hz => ?_)
  exact kk p e s m args below meth c X Y R r1 r2 H1 locs1 lsA cells slots hS1 (pR.mk hP1 hS1 X.2.2.2.2.2.2.2.2.2.2.2.2.2.2 (by omega) hR.2.1 (dom_up hR.2.2.1 ha)) hL hn
theorem pw_aast {a b N : Nat} {i : Int32} {f : Nat → Option Nat} {vs : List Value} (j : Nat) (d : decode (mC K.2.1) pc = .ok (.aastore, 1)) (ha : h a = some (.inl (3, N, .inr (.inr (.inr (.inr f)))))) (hb2 : h b = some (.inr (3, vs))) (hi : i = nI j) (hj : j < N) (hN : N < 2147483648) (kk : PW K (pc + 1) ls st (va_up h a (some (.inl (3, N, .inr (.inr (.inr (.inr (va_up f j (some b))))))))) n ms) : PW K pc ls (.ref b :: .int i :: .ref a :: st) h n ms := by
  intro p e s m args below meth c X Y R r1 r2 H locs lsA cells slots hS hR hL hn
  subst hi
  have hb := (hR.2.2.1 a).mp ⟨_, ha⟩
  refine va_astq (r := (RX3, TX3, 2)) X.1 X.2.1 X.2.2.2.2.2.2.2.2.1.1 hR.2.2.2 pws_D hS _ 3 _ 3 (hR.at ha) rfl (hR.at hb2) rfl (vp_in_nI hj hN) d (fun H1 locs1 hP1 _ hS1 => ?_)
  rw [nI_clamp (Nat.lt_trans hj hN)] at hP1
  have e1 := pws_set (E := K.1) (h := h) (e := .inl (3, N, .inr (.inr (.inr (.inr (va_up f j (some b))))))) hb.1 hb.2
  simp only [cvE] at e1 hP1
  rw [e1] at hP1
  refine W.sized (fun hz => ?_)
  exact kk p e s m args below meth c X Y R r1 r2 H1 locs1 lsA cells slots hS1 (pR.mk hP1 hS1 X.2.2.2.2.2.2.2.2.2.2.2.2.2.2 (by omega) hR.2.1 (dom_up hR.2.2.1 ha)) hL hn
theorem pw_copy {idx a0 a n0 n1 : Nat} {f g : Nat → Int32} {sp dp cn : Int32} (js jd jn : Nat) (cl : Cond.methodLink (mY K.2.1).cls idx arraycopyName ∈ tbl) (d : decode (mC K.2.1) pc = .ok (.invokestatic idx, 3)) (ha0 : h a0 = some (.inl (0, n0, .inl f))) (ha : h a = some (.inl (0, n1, .inl g))) (hs : sp = nI js) (hd : dp = nI jd) (hc : cn = nI jn) (h4 : js + jn ≤ n0) (h5 : jd + jn ≤ n1) (hN0 : n0 < 2147483648) (hN1 : n1 < 2147483648) (hfr : 1 ≤ mFr K.2.1) (hlo : (st.map fun v => v.category).sum + (nativeFrameWords "java/lang/System" "arraycopy" 5 + 11) ≤ mLo K.2.1) (kk : PW K (pc + 3) ls st (va_up h a (some (.inl (0, n1, .inl (va_cpy f g js jd jn))))) n ms) : PW K pc ls (.int cn :: .int dp :: .ref a :: .int sp :: .ref a0 :: st) h n ms := by
  intro p e s m args below meth c X Y R r1 r2 H locs lsA cells slots hS hR hL hn
  subst hs hd hc
  have hb := (hR.2.2.1 a).mp ⟨_, ha⟩
  have t1 : js < 2147483648 := by omega
  have t2 : jd < 2147483648 := by omega
  have t3 : jn < 2147483648 := by omega
  refine va_copyi X.1 X.2.1 (X.2.2.2.1.trans hL.1.symm) X.2.2.2.2.1 (X.2.2.2.2.2.2.2.1 _ cl) (X.2.2.2.2.2.2.2.1 _ (by decide +kernel)) (X.2.2.2.2.2.2.2.1 _ (by decide +kernel)) (X.2.2.2.2.2.2.2.1 _ (by decide +kernel)) X.2.2.2.2.2.2.2.2.1.1 hR.2.2.2 pws_D hS _ _ 0 0 (hR.at ha0) (hR.at ha) rfl rfl rfl (nI_pos t1) (nI_pos t2) (nI_pos t3) (by rw [nI_clamp t1, nI_clamp t3]; exact h4) (by rw [nI_clamp t2, nI_clamp t3]; exact h5) (fun i _ => rfl) (by rw [r1]; exact hfr) (by rw [r2]; exact hlo) d (fun H1 locs1 hP1 _ hS1 => ?_)
  rw [nI_clamp t1, nI_clamp t2, nI_clamp t3] at hP1
  have e1 := pws_set (E := K.1) (h := h) (e := .inl (0, n1, .inl (va_cpy f g js jd jn))) hb.1 hb.2
  simp only [cvE] at e1 hP1
  rw [e1] at hP1
  refine W.sized (fun hz => ?_)
  exact kk p e s m args below meth c X Y R r1 r2 H1 locs1 lsA cells slots hS1 (pR.mk hP1 hS1 X.2.2.2.2.2.2.2.2.2.2.2.2.2.2 (by omega) hR.2.1 (dom_up hR.2.2.1 ha)) hL hn
end PWG
