/-! the texts: the reference's reader: places, moves -/
def O6p (T : Nat → Nat) (n : Nat) (R : RdP) (now0 : Nat → Int32) (k s e v f fa : Int32) (now : Nat → Int32) : Prop :=
  (∃ t P, R = .ok (t, P) ∧ f = 0 ∧ RTk n t k s e v ∧ tkOk T n t ∧ RMp P now ∧ rdOk P ∧ ∀ i, i ≠ 0 → i < 4 ∨ 44 ≤ i → now i = now0 i) ∨ (∃ a b, R = .error (a, b) ∧ 0 < a ∧ a < 7 ∧ b ≤ n ∧ f = nI a ∧ fa = nI b)
def O6m (T : Nat → Nat) (n : Nat) (P : List (Nat × Nat)) (R : RdM) (now0 : Nat → Int32) (k s e v f fa : Int32) (now : Nat → Int32) : Prop :=
  (∃ t M, R = .ok (t, M) ∧ f = 0 ∧ RTk n t k s e v ∧ tkOk T n t ∧ RMp P now ∧ RMv M now ∧ gOk0 P M ∧ ∀ i, i ≠ 1 → i < 44 ∨ 166 ≤ i → now i = now0 i) ∨ (∃ a b, R = .error (a, b) ∧ 0 < a ∧ a < 7 ∧ b ≤ n ∧ f = nI a ∧ fa = nI b)
section RD6
variable {T : Nat → Nat} {n : Nat} {inp keys now0 : Nat → Int32} {t : Tk} {k s e v fa : Int32} {P M : List (Nat × Nat)}
end RD6
