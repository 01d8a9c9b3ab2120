/-! the reference's plan -/
/-- what is left: the other player's -/
theorem gW_rest {pl mv : List (Nat × Nat)} {lv : Nat → Bool} {z q : Int32} (hg : gOk0 pl mv) (hq : q = nI pl.length) (hz : ∀ u, bt z u = true ↔ gW pl mv lv 0 u) (u : Nat) : bt ((((1 : Int32) <<< (q &&& 31)) - (1 : Int32)) &&& (z ^^^ (-1 : Int32))) u = true ↔ gW pl mv lv 1 u := by
  rw [b_diff, hq, b_all hg.1, decide_eq_true_eq, hz]
  exact ⟨fun q => (gW_det hg q.1).mp q.2, fun q => ⟨q.1, (gW_det hg q.1).mpr q⟩⟩
