/-! the reference's removePlace -/
theorem lA_left {l l2 : List (Nat × Nat)} {k : Nat} (h : k < l.length) : lA (l ++ l2) k = lA l k ∧ lB (l ++ l2) k = lB l k := by
  unfold lA lB
  rw [List.getD_eq_getElem?_getD, List.getElem?_append_left h, List.getD_eq_getElem?_getD]
  exact ⟨rfl, rfl⟩
theorem lA_take {l : List (Nat × Nat)} {j k : Nat} (h : k < j) : lA (l.take j) k = lA l k ∧ lB (l.take j) k = lB l k := by
  unfold lA lB
  rw [List.getD_eq_getElem?_getD, List.getElem?_take_of_lt h, List.getD_eq_getElem?_getD]
  exact ⟨rfl, rfl⟩
theorem lDrop {l : List (Nat × Nat)} {j : Nat} (h : j < l.length) : l.drop j = l.getD j (0, 0) :: l.drop (j + 1) := by
  rw [List.drop_eq_getElem_cons h, List.getD_eq_getElem?_getD, List.getElem?_eq_getElem h]
  rfl
/-- the moves when those from place k on have been looked at, from the last -/
def lRem (mv : List (Nat × Nat)) (p k : Nat) : List (Nat × Nat) := mv.take k ++ (mv.drop k).filter (keepP p)
theorem lRem_len {mv : List (Nat × Nat)} {p k : Nat} (h : k ≤ mv.length) : k ≤ (lRem mv p k).length ∧ (lRem mv p k).length ≤ mv.length := by
  unfold lRem
  have h1 := List.length_filter_le (keepP p) (mv.drop k)
  rw [List.length_append, List.length_take]
  rw [List.length_drop] at h1
  omega
theorem lRem_at {mv : List (Nat × Nat)} {p j : Nat} (h : j < mv.length) : lA (lRem mv p (j + 1)) j = lA mv j ∧ lB (lRem mv p (j + 1)) j = lB mv j := by
  unfold lRem
  have hl : j < (mv.take (j + 1)).length := by rw [List.length_take]; omega
  rw [(lA_left hl).1, (lA_left hl).2, (lA_take (Nat.lt_succ_self j)).1, (lA_take (Nat.lt_succ_self j)).2]
  exact ⟨rfl, rfl⟩
theorem lRem_keep {mv : List (Nat × Nat)} {p j : Nat} (h : j < mv.length) (hk : keepP p (mv.getD j (0, 0)) = true) : lRem mv p j = lRem mv p (j + 1) := by
  unfold lRem
  rw [lDrop h, List.filter_cons, if_pos hk, lTake h, List.append_assoc]
  rfl
theorem lRem_drop {mv : List (Nat × Nat)} {p j : Nat} (h : j < mv.length) (hk : ¬ keepP p (mv.getD j (0, 0)) = true) : lRem mv p j = (lRem mv p (j + 1)).eraseIdx j := by
  unfold lRem
  have hl : (mv.take j).length = j := by rw [List.length_take]; omega
  rw [lDrop h, List.filter_cons, if_neg hk, lTake h, List.append_assoc, List.eraseIdx_append_of_length_le (by omega), hl, Nat.sub_self]
  rfl
