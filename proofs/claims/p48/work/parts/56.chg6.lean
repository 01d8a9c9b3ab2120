/-! the reference's changes, call by call -/
def RSm (sv : Nat → Option gm) (set : Int32) (saved : Nat → Int32) : Prop :=
  (∀ s, bt set s = true ↔ s < 2 ∧ ¬ sv s = none) ∧ ∀ s g, s < 2 → sv s = some g → gOk g ∧ RM g (fun k => saved (s * 176 + k))
theorem i_one0 (x : Int32) {i : Nat} (hi : i < 2) : (x >>> (nI i &&& 31)) &&& (1 : Int32) = if bt x i = true then 1 else 0 := b_ext (fun j hj => by
  rw [b_and, b_sshr i (by omega) x hj]
  have h1 : ∀ j, j < 32 → bt 1 j = decide (j = 0) := by decide +kernel
  rw [h1 j hj]
  by_cases z : j = 0
  · subst z
    rw [if_pos (by omega), Nat.add_zero, decide_eq_true rfl, Bool.and_true]
    cases hb : bt x i
    · rfl
    · rfl
  · rw [decide_eq_false z, Bool.and_false]
    cases hb : bt x i
    · rw [if_neg (by decide), b_0]
    · rw [if_pos rfl, h1 j hj, decide_eq_false z])
/-- the two lowest bits of a number without others -/
theorem i_two {x : Int32} (h : ∀ s, bt x s = true → s < 2) : (x &&& 1) + (x >>> ((1 : Int32) &&& 31)) = nI ((if bt x 0 = true then 1 else 0) + (if bt x 1 = true then 1 else 0)) := by
  have h1 : ∀ j, j < 32 → bt 1 j = decide (j = 0) := by decide +kernel
  have e0 : x &&& 1 = if bt x 0 = true then 1 else 0 := b_ext (fun j hj => by
    rw [b_and, h1 j hj]
    by_cases z : j = 0
    · subst z
      rw [decide_eq_true rfl, Bool.and_true]
      cases hb : bt x 0
      · rfl
      · rfl
    · rw [decide_eq_false z, Bool.and_false]
      cases hb : bt x 0
      · rw [if_neg (by decide), b_0]
      · rw [if_pos rfl, h1 j hj, decide_eq_false z])
  have e1 : x >>> ((1 : Int32) &&& 31) = if bt x 1 = true then 1 else 0 := b_ext (fun j hj => by
    have q := b_sshr 1 (by decide) x hj
    have q : bt (x >>> ((1 : Int32) &&& 31)) j = if 1 + j < 32 then bt x (1 + j) else bt x 31 := q
    rw [q]
    by_cases z : j = 0
    · subst z
      rw [if_pos (by decide)]
      cases hb : bt x 1
      · rfl
      · rfl
    · have n1 : bt x (1 + j) = false := by
        cases hb : bt x (1 + j)
        · rfl
        · have := h _ hb; omega
      have n2 : bt x 31 = false := by
        cases hb : bt x 31
        · rfl
        · have := h _ hb; omega
      rw [n1, n2]
      cases hb : bt x 1
      · rw [if_neg (by decide : ¬ false = true), b_0]
        split <;> rfl
      · rw [if_pos rfl, h1 j hj, decide_eq_false z]
        split <;> rfl)
  rw [e0, e1]
  cases bt x 0 <;> cases bt x 1 <;> rfl
section CHG6
variable {hs : List gm} {g : gm} {sv : Nat → Option gm} {a b many set t0 : Int32} {now old saved live measure weight planned : Nat → Int32}
  {post : Int32 → Int32 → Int32 → (Nat → Int32) → (Nat → Int32) → Prop}
end CHG6
