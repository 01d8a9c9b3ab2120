/-! THE REFERENCE'S WINNERS: its measures -/
theorem ix4 (v : Nat) : (4 : Int32) + nI v = nI (4 + v) := nI_add 4 v
theorem ix24 (v : Nat) : (24 : Int32) + nI v = nI (24 + v) := nI_add 24 v
theorem ix44 (v : Nat) : (44 : Int32) + nI v = nI (44 + v) := nI_add 44 v
theorem ix105 (v : Nat) : (105 : Int32) + nI v = nI (105 + v) := nI_add 105 v
theorem ix166 (v : Nat) : (166 : Int32) + nI v = nI (166 + v) := nI_add 166 v
/-- the row 'now' shows a game of n places and m moves -/
def mdOk (n m : Nat) (ow ca fr to : Nat → Nat) (now : Nat → Int32) : Prop :=
  n ≤ 20 ∧ m ≤ 61 ∧ (∀ v, ow v < 2) ∧ (∀ v, ca v < 10) ∧ now 0 = nI n ∧ now 1 = nI m ∧ (∀ u, u < n → now (4 + u) = nI (ow u) ∧ now (24 + u) = nI (ca u)) ∧ ∀ k, k < m → now (44 + k) = nI (fr k) ∧ now (105 + k) = nI (to k) ∧ fr k < n ∧ to k < n
/-- the moves that count -/
def mE (m : Nat) (fr to : Nat → Nat) (lv : Nat → Bool) (v w : Nat) : Prop := ∃ k, k < m ∧ lv k = true ∧ fr k = v ∧ to k = w
def mLive (m : Nat) (lv : Nat → Bool) (live : Nat → Int32) : Prop := ∀ k, k < m → live k = if lv k = true then 1 else 0
/-- what lifted answers: the least, or the greatest, of the steps -/
def mLf (cnt ms : Nat → Nat) (ow ca : Nat → Nat) (E : Nat → Nat → Prop) (v L : Nat) : Prop :=
  (ow v = 0 → (∀ w, E v w → L ≤ mOv cnt (ca v) (ms w)) ∧ ((∃ w, E v w ∧ L = mOv cnt (ca v) (ms w)) ∨ ((¬ ∃ w, E v w) ∧ L = mW cnt 5))) ∧
  (ow v ≠ 0 → (∀ w, E v w → mOv cnt (ca v) (ms w) ≤ L) ∧ ((∃ w, E v w ∧ L = mOv cnt (ca v) (ms w)) ∨ ((¬ ∃ w, E v w) ∧ L = 0)))
