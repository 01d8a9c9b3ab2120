/-! exchange: the reference's loop -/
def exP (q : Nat × Nat) : Nat × Nat := (1 - q.1, q.2 + 1)
theorem lMapE {l : List (Nat × Nat)} {k : Nat} (h : k < l.length) : lA (l.map exP) k = 1 - lA l k ∧ lB (l.map exP) k = lB l k + 1 := by
  unfold lA lB
  rw [List.getD_eq_getElem?_getD, List.getD_eq_getElem?_getD, List.getElem?_map, List.getElem?_eq_getElem h]
  exact ⟨rfl, rfl⟩
