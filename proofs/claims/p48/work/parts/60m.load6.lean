/-! the reference's load -/
