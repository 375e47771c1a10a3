def odd_nf : NFrame → Bool
  | ⟨⟨0, 0⟩, ⟨[]⟩, 0, ⟨[]⟩, false, none, none, 0⟩ => true
  | _ => false
theorem odd_nf_eq {f : NFrame} (h : odd_nf f = true) : f = { method := ⟨0, 0⟩, args := #[] } := by
  unfold odd_nf at h
  split at h
  · rfl
  · cases h
def odd_last : List Frame → Bool
  | [] => false
  | [.native f] => odd_nf f
  | [_] => false
  | _ :: g :: r => odd_last (g :: r)
theorem odd_last_eq : ∀ (l : List Frame), odd_last l = true → ∃ a, l = a ++ Lib.HandBits.below0
  | [], h => by cases h
  | [.native f], h => ⟨[], by rw [odd_nf_eq (f := f) h]; rfl⟩
  | [.java _], h | [.proc _], h | [.invoking _ _], h | [.invokeVirtual _ _ _ _], h | [.throwing _], h => by cases h
  | [f], h => by
    unfold odd_last at h
    split at h
    · cases ‹[f] = []›
    · rename_i e; cases e; exact ⟨[], by rw [odd_nf_eq h]; rfl⟩
    · cases h
    · rename_i e; cases e
  | f :: g :: r, h => by
    have h' : odd_last (g :: r) = true := by
      rw [odd_last] at h
      exact h
    obtain ⟨a, e⟩ := odd_last_eq (g :: r) h'
    exact ⟨f :: a, by rw [e]; rfl⟩
def odd_wi (s : State) : Bool := match s.frames with
  | [] => false
  | [_] => false
  | [.throwing _, _] => false
  | l => odd_last l
theorem odd_wi_in {s : State} (h : odd_wi s = true) : Within s Lib.HandBits.below0 := by
  unfold odd_wi at h
  split at h
  · cases h
  · cases h
  · cases h
  · rename_i n1 n2 n3
    obtain ⟨a, e⟩ := odd_last_eq _ h
    refine ⟨a, e, ?_, ?_⟩
    · rintro rfl
      exact n2 _ e
    · rintro t rfl
      exact n3 _ _ e
def odd_th (s : State) : Bool := match s.frames with
  | [.throwing 5, .native f] => odd_nf f
  | _ => false
theorem odd_th_in {s : State} (h : odd_th s = true) : Ended s Lib.HandBits.below0 (.threw 5) := by
  unfold odd_th at h
  split at h
  · rename_i f e
    show s.frames = _
    rw [e, odd_nf_eq h]; rfl
  · cases h
theorem odd_np1 {tb : Tables} {e : Env} {a : Array Value} {s t : State} : ¬ Post_1_1 tb e a s (.threw 5) t := by
  rintro ⟨h, -⟩
  cases h
theorem odd_np2 {tb : Tables} {e : Env} {a : Array Value} {s t : State} : ¬ Post_1_2 tb e a s (.threw 5) t := by
  rintro ⟨h, -⟩
  cases h
theorem odd_runW : (List.range 39).all (fun n => odd_wi (stepsAlone start1.p0.tables start1.e0 n start1.about)) = true := by decide +kernel
theorem odd_on : (stepsAlone start1.p0.tables start1.e0 39 start1.about).status = Status.running := by decide +kernel
theorem odd_out : odd_th (stepsAlone start1.p0.tables start1.e0 39 start1.about) = true := by decide +kernel
theorem odd_falls_1 : RefutedClaimed_1_1 :=
  ⟨launch0, start1.p0, start1.e0, start1.about, ⟨0, 0⟩, start1.args0, Lib.HandBits.below0, rfl, start1.atStart, 39, .threw 5,
    fun k hk => odd_wi_in (List.all_eq_true.mp odd_runW k (List.mem_range.mpr hk)), odd_on, odd_th_in odd_out, odd_np1⟩
theorem odd_falls_2 : RefutedClaimed_1_2 :=
  ⟨launch0, start1.p0, start1.e0, start1.about, ⟨0, 0⟩, start1.args0, Lib.HandBits.below0, rfl, start1.atStart, 39, .threw 5,
    fun k hk => odd_wi_in (List.all_eq_true.mp odd_runW k (List.mem_range.mpr hk)), odd_on, odd_th_in odd_out, odd_np2⟩
