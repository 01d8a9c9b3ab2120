/-! the reference's rows: copies -/
theorem i_row (b k : Nat) : nI b * (176 : Int32) + nI k = nI (b * 176 + k) := by
  rw [show (176 : Int32) = nI 176 from rfl, i_mul, nI_add]
