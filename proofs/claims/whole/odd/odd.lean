theorem odd_stay (tb : Tables) (e : Env) (s : State) (h : ¬ s.status = Status.running) : ∀ k, stepsAlone tb e k s = s
  | 0 => rfl
  | k + 1 => by
    rw [stepsAlone]
    split
    · rename_i h1 _ _; exact absurd h1 h
    · rfl
theorem odd_add (tb : Tables) (e : Env) : ∀ (a b : Nat) (s : State), stepsAlone tb e (a + b) s = stepsAlone tb e b (stepsAlone tb e a s)
  | 0, b, s => by rw [Nat.zero_add]; rfl
  | a + 1, b, s => by
    rw [show a + 1 + b = (a + b) + 1 by omega, stepsAlone, stepsAlone]
    split
    · exact odd_add tb e a b _
    · rename_i h
      cases b with
      | zero => rfl
      | succ b =>
        rw [stepsAlone]
        split
        · rename_i h1 h2 h3; exact absurd h3 (fun q => h h1 h2 q)
        · rfl
def odd_in (s : State) : Bool := match s.frames with
  | .java _ :: _ :: _ => true
  | .invoking _ _ :: _ :: _ => true
  | _ => false
theorem odd_run : (List.range 34).all (fun n => odd_in (stepsAlone start1.p0.tables start1.e0 n start1.about)) = true := by decide +kernel
theorem odd_stop : ¬ (stepsAlone start1.p0.tables start1.e0 34 start1.about).status = Status.running := by decide +kernel
theorem odd_no {s : State} {o : Outcome} (h : odd_in s = true) (he : Ended s Lib.HandBits.below0 o) : False := by
  cases o with
  | threw a =>
    have e : s.frames = .throwing a :: Lib.HandBits.below0 := he
    rw [odd_in, e] at h
    cases h
  | returned v =>
    obtain ⟨g, e⟩ : ∃ g, s.frames = [Frame.native g] := ⟨_, he⟩
    rw [odd_in, e] at h
    cases h
theorem whole_is_false : ¬ (Claimed_1_1 ∧ Claimed_1_2) := by
  rintro ⟨h, -⟩
  obtain ⟨a1, a2, a3, -, a5, a6, a7, a8, a9, a10, a11, a12, a13⟩ := start1.atStart
  obtain ⟨n, o, -, hr, he, -⟩ := h launch0 rfl a1 a2 start1.p0 start1.e0 a3 a5 a6 start1.about ⟨0, 0⟩ start1.args0 Lib.HandBits.below0 a7 a8 a9 a10 ⟨a11, a12, a13⟩
  by_cases hn : n < 34
  · exact odd_no (List.all_eq_true.mp odd_run n (List.mem_range.mpr hn)) he
  · obtain ⟨k, rfl⟩ : ∃ k, n = 34 + k := ⟨n - 34, by omega⟩
    rw [odd_add, odd_stay _ _ _ odd_stop k] at hr
    exact odd_stop hr
