theorem i32_rng (x : Int32) : -2147483648 ≤ x.toInt ∧ x.toInt < 2147483648 := ⟨x.le_toInt, x.toInt_lt⟩
theorem fb_subm1 (z : Int32) (h : -2147483648 < z.toInt) : (z + Int32.ofInt (-1)).toInt = z.toInt - 1 := by
  have h1 := i32_rng z
  rw [Int32.toInt_add]
  have e : (Int32.ofInt (-1)).toInt = -1 := by decide
  rw [e]
  rw [Int.bmod_eq_of_le] <;> omega
