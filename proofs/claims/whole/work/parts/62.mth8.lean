/-! a law read -/
abbrev p1A (g : Nat → Int32) (sz p : Nat) : Nat := skB g sz (alL g sz p)
abbrev p2A (g : Nat → Int32) (sz p : Nat) : Nat := skB g sz (adD g sz (p1A g sz p))
def rdF (g : Nat → Int32) (sz : Nat) : Nat → Nat → Int32 → (Nat → Int32) → Nat → Int32 × Option (Nat → Int32)
  | 0, p, _, dr, it => if p < sz then (-10 - nI p, none) else (nI it, some dr)
  | q + 1, p, dn, dr, it =>
    if p < sz then
      if itI g sz p = -9 ∨ inB dn (itI g sz p) = true then (-10 - nI p, none)
      else if numS g sz (p1A g sz p) < fLE (ixN (itI g sz p)) ∨ fMO (ixN (itI g sz p)) < numS g sz (p1A g sz p) then (-10 - nI (p1A g sz p), none)
      else if byA g sz (p2A g sz p) ≠ nI 59 then (-10 - nI (p2A g sz p), none)
      else rdF g sz q (skB g sz (p2A g sz p + 1)) (dn ||| bit1 (itI g sz p)) (upd dr (ixN (itI g sz p)) (numS g sz (p1A g sz p))) (it + 1)
    else (nI it, some dr)
abbrev lawR (T : List Int32) : Int32 × Option (Nat → Int32) := rdF (fun k => T.getD k 0) T.length 5 (skB (fun k => T.getD k 0) T.length 0) (nI 0) fAT 0
def a_law (S : AS) : Int32 := (lawR (sT S)).1
def lawN (S : AS) : Option (Nat → Int32) → AS
  | none => S
  | some dr => setW (setT S []) dr
def n_law (S : AS) : AS := lawN S (lawR (sT S)).2
theorem aftz {p : Int32 → Bool} {g g' : Nat → Int32} {sz : Nat} (h : ∀ k, k < sz → g k = g' k) (k : Nat) : aft p g k (sz - k) = aft p g' k (sz - k) := aft_congr _ _ (fun j h1 h2 => h j (by omega))
theorem byA_c {g g' : Nat → Int32} {sz : Nat} (h : ∀ k, k < sz → g k = g' k) (k : Nat) : byA g sz k = byA g' sz k := by
  rw [byA, byA]
  split
  · rename_i q; exact h k q
  · rfl
theorem wB_c {g g' : Nat → Int32} {sz : Nat} (h : ∀ k, k < sz → g k = g' k) (p i : Nat) : wB g sz p i = wB g' sz p i := by
  unfold wB alL
  rw [aftz h]
  simp only [byA_c h]
theorem it_c {g g' : Nat → Int32} {sz : Nat} (h : ∀ k, k < sz → g k = g' k) (p : Nat) : ∀ m i, itF g sz p m i = itF g' sz p m i
  | 0, _ => rfl
  | m + 1, i => by rw [itF, itF, wB_c h, it_c h p m]
theorem num_c {g g' : Nat → Int32} {sz : Nat} (h : ∀ k, k < sz → g k = g' k) (k : Nat) : numS g sz k = numS g' sz k := by
  unfold numS
  rw [aftz h, byA_c h, byA_c h]
theorem rd_c {g g' : Nat → Int32} {sz : Nat} (h : ∀ k, k < sz → g k = g' k) : ∀ q p dn dr it, rdF g sz q p dn dr it = rdF g' sz q p dn dr it
  | 0, p, dn, dr, it => rfl
  | q + 1, p, dn, dr, it => by
    have e1 : itI g sz p = itI g' sz p := it_c h p 5 0
    have e2 : p1A g sz p = p1A g' sz p := by unfold p1A skB alL; rw [aftz h (p := rg 97 122), aftz h (p := blP)]
    have e3 : p2A g sz p = p2A g' sz p := by unfold p2A skB adD; rw [e2, aftz h (p := rg 48 57), aftz h (p := blP)]
    have e4 : skB g sz (p2A g sz p + 1) = skB g' sz (p2A g' sz p + 1) := by rw [e3]; exact aftz h _
    rw [rdF, rdF, e4, rd_c h q, e1, e3, e2, num_c h, byA_c h]
theorem rd_T {g : Nat → Int32} {T : List Int32} (h : holdsL g 0 T) : rdF g T.length 5 (skB g T.length 0) (nI 0) fAT 0 = lawR T := by
  have hg : ∀ k, k < T.length → g k = (fun k => T.getD k 0) k := fun k hk => by
    have := h k hk
    rw [Nat.zero_add] at this
    rw [this]
  rw [show skB g T.length 0 = skB (fun k => T.getD k 0) T.length 0 from aftz hg 0]
  exact rd_c hg _ _ _ _ _
theorem it_k {g : Nat → Int32} {sz p : Nat} (h : itI g sz p ≠ -9) : ∃ i, i < 5 ∧ itI g sz p = nI i ∧ ixN (itI g sz p) = i := by
  rcases it_rng (g := g) (sz := sz) (p := p) 5 0 with q | ⟨j, h1, h2, h3⟩
  · exact absurd q h
  · refine ⟨j, by omega, h3, ?_⟩
    show ixN (itF g sz p 5 0) = j
    rw [h3]; exact ix_nI (by omega)
theorem fLE_nI {i : Nat} (hi : i < 5) : fLE i = nI (if i = 0 then 2 else 0) := (by decide : ∀ i : Fin 5, fLE i.1 = nI (if i.1 = 0 then 2 else 0)) ⟨i, hi⟩
theorem fMO_nI {i : Nat} (hi : i < 5) : fMO i = nI (if i = 0 then 12 else if i = 1 then 6 else 99) := (by decide : ∀ i : Fin 5, fMO i.1 = nI (if i.1 = 0 then 12 else if i.1 = 1 then 6 else 99)) ⟨i, hi⟩
theorem pop_all {X : Nat} : ∀ N, popN X N = N → ∀ k, k < N → X.testBit k = true
  | 0, _, k, hk => absurd hk (Nat.not_lt_zero k)
  | N + 1, h, k, hk => by
    rw [popN_s] at h
    have := popN_le X N
    cases e : X.testBit N with
    | false => rw [e] at h; simp at h; omega
    | true =>
      by_cases ek : k = N
      · subst ek; exact e
      · rw [e] at h
        simp at h
        exact pop_all N (by omega) k (by omega)
/-- the law stays well -/
theorem rd_wf {g : Nat → Int32} {sz : Nat} : ∀ q p dn (dr : Nat → Int32) it, (∀ i, i < 5 → fLE i ≤ dr i ∧ dr i ≤ fMO i) → ∀ dr', (rdF g sz q p dn dr it).2 = some dr' → ∀ i, i < 5 → fLE i ≤ dr' i ∧ dr' i ≤ fMO i
  | 0, p, dn, dr, it, h, dr', e => by
    rw [rdF] at e
    split at e
    · cases e
    · cases e; exact h
  | q + 1, p, dn, dr, it, h, dr', e => by
    rw [rdF] at e
    split at e
    · split at e
      · cases e
      · rename_i h1
        split at e
        · cases e
        · rename_i h2
          split at e
          · cases e
          · refine rd_wf q _ _ _ _ (fun i hi => ?_) dr' e
            obtain ⟨j, hj, ej, ej2⟩ := it_k (fun q => h1 (Or.inl q))
            rw [ej2] at h2 ⊢
            by_cases eij : i = j
            · subst eij
              rw [pk_us, i32_le, i32_le]
              refine ⟨?_, ?_⟩
              · rcases Int.lt_or_le (numS g sz (p1A g sz p)).toInt (fLE i).toInt with q | q
                · exact absurd (Or.inl ((i32_lt _ _).mpr q)) h2
                · exact q
              · rcases Int.lt_or_le (fMO i).toInt (numS g sz (p1A g sz p)).toInt with q | q
                · exact absurd (Or.inr ((i32_lt _ _).mpr q)) h2
                · exact q
            · rw [pk_un eij]; exact h i hi
    · cases e; exact h
