theorem ni_inc (k : Nat) : nI k + Int32.ofInt 1 = nI (k + 1) := nI_1 k
theorem ni_dec (k : Nat) : nI (k + 1) + Int32.ofInt (-1) = nI k := pk_m1 k
def bI (b : Bool) : Int32 := if b then 1 else 0
theorem bI_t : bI true = 1 := rfl
theorem bI_f : bI false = 0 := rfl
section PWN
variable {K : MX} {pc : Nat} {ls st : List Value} {h : HP} {n ms : Nat}
theorem pw_icmp_eq_n {a b : Nat} {off : Int} (tgt : Nat) (d : decode (mC K.2.1) pc = .ok (.if_icmp .eq off, 3)) (ht : (pc : Int) + off = (tgt : Int)) (ha : a < 2147483648) (hb : b < 2147483648) (kt : a = b → PW K tgt ls st h n ms) (kf : a ≠ b → PW K (pc + 3) ls st h n ms) : PW K pc ls (.int (nI b) :: .int (nI a) :: st) h n ms := by
  exact pw_icmp_eq tgt d ht (fun q => kt ((nI_eq ha hb).mp q)) (fun q => kf (fun e => q (congrArg nI e)))
theorem pw_icmp_ne_n {a b : Nat} {off : Int} (tgt : Nat) (d : decode (mC K.2.1) pc = .ok (.if_icmp .ne off, 3)) (ht : (pc : Int) + off = (tgt : Int)) (ha : a < 2147483648) (hb : b < 2147483648) (kt : a ≠ b → PW K tgt ls st h n ms) (kf : a = b → PW K (pc + 3) ls st h n ms) : PW K pc ls (.int (nI b) :: .int (nI a) :: st) h n ms := by
  exact pw_icmp_ne tgt d ht (fun q => kt (fun e => q (congrArg nI e))) (fun q => kf ((nI_eq ha hb).mp q))
theorem pw_icmp_lt_n {a b : Nat} {off : Int} (tgt : Nat) (d : decode (mC K.2.1) pc = .ok (.if_icmp .lt off, 3)) (ht : (pc : Int) + off = (tgt : Int)) (ha : a < 2147483648) (hb : b < 2147483648) (kt : a < b → PW K tgt ls st h n ms) (kf : b ≤ a → PW K (pc + 3) ls st h n ms) : PW K pc ls (.int (nI b) :: .int (nI a) :: st) h n ms := by
  exact pw_icmp_lt tgt d ht (fun q => kt ((nI_ltI ha hb).mp q)) (fun q => kf (by rw [nI_ltI ha hb] at q; omega))
theorem pw_icmp_ge_n {a b : Nat} {off : Int} (tgt : Nat) (d : decode (mC K.2.1) pc = .ok (.if_icmp .ge off, 3)) (ht : (pc : Int) + off = (tgt : Int)) (ha : a < 2147483648) (hb : b < 2147483648) (kt : b ≤ a → PW K tgt ls st h n ms) (kf : a < b → PW K (pc + 3) ls st h n ms) : PW K pc ls (.int (nI b) :: .int (nI a) :: st) h n ms := by
  exact pw_icmp_ge tgt d ht (fun q => kt ((nI_leI hb ha).mp q)) (fun q => kf (by rw [nI_leI hb ha] at q; omega))
theorem pw_icmp_gt_n {a b : Nat} {off : Int} (tgt : Nat) (d : decode (mC K.2.1) pc = .ok (.if_icmp .gt off, 3)) (ht : (pc : Int) + off = (tgt : Int)) (ha : a < 2147483648) (hb : b < 2147483648) (kt : b < a → PW K tgt ls st h n ms) (kf : a ≤ b → PW K (pc + 3) ls st h n ms) : PW K pc ls (.int (nI b) :: .int (nI a) :: st) h n ms := by
  exact pw_icmp_gt tgt d ht (fun q => kt ((nI_ltI hb ha).mp q)) (fun q => kf (by rw [nI_ltI hb ha] at q; omega))
theorem pw_icmp_le_n {a b : Nat} {off : Int} (tgt : Nat) (d : decode (mC K.2.1) pc = .ok (.if_icmp .le off, 3)) (ht : (pc : Int) + off = (tgt : Int)) (ha : a < 2147483648) (hb : b < 2147483648) (kt : a ≤ b → PW K tgt ls st h n ms) (kf : b < a → PW K (pc + 3) ls st h n ms) : PW K pc ls (.int (nI b) :: .int (nI a) :: st) h n ms := by
  exact pw_icmp_le tgt d ht (fun q => kt ((nI_leI ha hb).mp q)) (fun q => kf (by rw [nI_leI ha hb] at q; omega))
theorem pw_if_eq_b {b : Bool} {off : Int} (tgt : Nat) (d : decode (mC K.2.1) pc = .ok (.ifCond .eq off, 3)) (ht : (pc : Int) + off = (tgt : Int)) (kt : b = false → PW K tgt ls st h n ms) (kf : b = true → PW K (pc + 3) ls st h n ms) : PW K pc ls (.int (bI b) :: st) h n ms := by
  refine pw_if_eq tgt d ht (fun q => kt ?_) (fun q => kf ?_)
  · cases b <;> simp_all [bI]
  · cases b <;> simp_all [bI]
theorem pw_if_ne_b {b : Bool} {off : Int} (tgt : Nat) (d : decode (mC K.2.1) pc = .ok (.ifCond .ne off, 3)) (ht : (pc : Int) + off = (tgt : Int)) (kt : b = true → PW K tgt ls st h n ms) (kf : b = false → PW K (pc + 3) ls st h n ms) : PW K pc ls (.int (bI b) :: st) h n ms := by
  refine pw_if_ne tgt d ht (fun q => kt ?_) (fun q => kf ?_)
  · cases b <;> simp_all [bI]
  · cases b <;> simp_all [bI]
theorem pw_if_lt_n {a : Nat} {off : Int} (tgt : Nat) (d : decode (mC K.2.1) pc = .ok (.ifCond .lt off, 3)) (ht : (pc : Int) + off = (tgt : Int)) (ha : a < 2147483648) (kf : PW K (pc + 3) ls st h n ms) : PW K pc ls (.int (nI a) :: st) h n ms := pw_if_lt tgt d ht (fun q => absurd q (nI_pos ha)) (fun _ => kf)
theorem pw_ift_lt {x : Int32} {off : Int} (tgt : Nat) (d : decode (mC K.2.1) pc = .ok (.ifCond .lt off, 3)) (ht : (pc : Int) + off = (tgt : Int)) (hx : x < 0) (kt : PW K tgt ls st h n ms) : PW K pc ls (.int x :: st) h n ms := pw_if_lt tgt d ht (fun _ => kt) (fun q => absurd hx q)
end PWN
section PWC0
variable {E : EV} {M : MR} {pc : Nat} {ls st : List Value} {h : HP} {n ms : Nat}
end PWC0
theorem i32_lt (a b : Int32) : a < b ↔ a.toInt < b.toInt := Int32.lt_iff_toInt_lt
theorem i32_le (a b : Int32) : a ≤ b ↔ a.toInt ≤ b.toInt := Int32.le_iff_toInt_le
theorem i32_eq (a b : Int32) : a = b ↔ a.toInt = b.toInt := Int32.toInt_inj.symm
theorem ni_toInt {k : Nat} (hk : k < 2147483648) : (nI k).toInt = (k : Int) := nI_toInt hk
abbrev QE (v : Option Value) (h1 : HP) : Option Value → HP → Prop := fun v' h' => v' = v ∧ h' = h1
def firstP (p : Nat → Bool) : Nat → Nat
  | 0 => 0
  | m + 1 => if p 0 then 0 else firstP (fun k => p (k + 1)) m + 1

