/-! the reference: pulling, staying, coming back -/
theorem pCnt_pos {f : Nat → Bool} : ∀ {n : Nat}, 0 < pCnt f n ↔ ∃ k, k < n ∧ f k = true
  | 0 => ⟨fun h => absurd h (Nat.lt_irrefl _), fun ⟨k, h, _⟩ => absurd h (Nat.not_lt_zero _)⟩
  | n + 1 => by
    simp only [pCnt]
    by_cases q : f n = true
    · rw [if_pos q]
      exact ⟨fun _ => ⟨n, Nat.lt_succ_self _, q⟩, fun _ => Nat.succ_pos _⟩
    · rw [if_neg q, Nat.add_zero, pCnt_pos]
      exact ⟨fun ⟨k, a, b⟩ => ⟨k, by omega, b⟩, fun ⟨k, a, b⟩ => ⟨k, by
        rcases Nat.lt_or_ge k n with z | z
        · exact z
        · have : k = n := by omega
          subst this
          exact absurd b q, b⟩⟩
theorem pCnt_same {f g : Nat → Bool} {n : Nat} (h : ∀ k, k < n → f k = true → g k = true) : pCnt f n = pCnt g n ↔ ∀ k, k < n → g k = true → f k = true := by
  constructor
  · intro e k hk hg
    refine Classical.byContradiction fun q => ?_
    have := pCnt_mono_lt h ⟨k, hk, by cases hf : f k; rfl; exact absurd hf q, hg⟩
    omega
  · intro h2
    exact Nat.le_antisymm (pCnt_le h) (pCnt_le h2)
theorem pCnt_yes {f : Nat → Bool} {k : Nat} (h : f k = true) : nI (pCnt f k) + 1 = nI (pCnt f (k + 1)) := by
  simp only [pCnt]
  rw [if_pos h, nI_1]
theorem pCnt_no {f : Nat → Bool} {k : Nat} (h : f k = false) : nI (pCnt f k) = nI (pCnt f (k + 1)) := by
  simp only [pCnt]
  rw [if_neg (by rw [h]; decide)]
  rfl
theorem add0 (x : Int32) : x + (0 : Int32) = x := Int32.add_zero x
/-- of the moves of p, those into X -/
def cTo (mv : List (Nat × Nat)) (x : Int32) (p k : Nat) : Bool := decide (lA mv k = p) && bt x (lB mv k)
def cAt (mv : List (Nat × Nat)) (p k : Nat) : Bool := decide (lA mv k = p)
theorem cAt_pos {mv : List (Nat × Nat)} {p : Nat} : 0 < pCnt (cAt mv p) mv.length ↔ ∃ w, gEd mv p w := by
  rw [pCnt_pos]
  unfold cAt
  exact ⟨fun ⟨k, a, b⟩ => ⟨_, k, a, of_decide_eq_true b, rfl⟩, fun ⟨w, k, a, b, _⟩ => ⟨k, a, decide_eq_true b⟩⟩
theorem cTo_pos {mv : List (Nat × Nat)} {x : Int32} {p : Nat} : 0 < pCnt (cTo mv x p) mv.length ↔ ∃ w, gEd mv p w ∧ bt x w = true := by
  rw [pCnt_pos]
  unfold cTo
  constructor
  · rintro ⟨k, a, b⟩
    rw [Bool.and_eq_true, decide_eq_true_eq] at b
    exact ⟨_, ⟨k, a, b.1, rfl⟩, b.2⟩
  · rintro ⟨w, ⟨k, a, b, rfl⟩, c⟩
    exact ⟨k, a, by rw [Bool.and_eq_true, decide_eq_true_eq]; exact ⟨b, c⟩⟩
theorem cTo_le {mv : List (Nat × Nat)} {x : Int32} {p k : Nat} (h : cTo mv x p k = true) : cAt mv p k = true := by
  unfold cTo at h
  rw [Bool.and_eq_true] at h
  exact h.1
theorem cTo_all {mv : List (Nat × Nat)} {x : Int32} {p : Nat} : pCnt (cTo mv x p) mv.length = pCnt (cAt mv p) mv.length ↔ ∀ w, gEd mv p w → bt x w = true := by
  rw [pCnt_same (fun k _ => cTo_le)]
  constructor
  · rintro h w ⟨k, a, b, rfl⟩
    have := h k a (decide_eq_true b)
    unfold cTo at this
    rw [Bool.and_eq_true] at this
    exact this.2
  · intro h k a b
    have b := of_decide_eq_true b
    unfold cTo
    rw [Bool.and_eq_true, decide_eq_true_eq]
    exact ⟨b, h _ ⟨k, a, b, rfl⟩⟩
/-- the same of those that lead out -/
def cOut (mv : List (Nat × Nat)) (x : Int32) (p k : Nat) : Bool := decide (lA mv k = p) && !bt x (lB mv k)
theorem cOut_pos {mv : List (Nat × Nat)} {x : Int32} {p : Nat} : 0 < pCnt (cOut mv x p) mv.length ↔ ∃ w, gEd mv p w ∧ ¬ bt x w = true := by
  rw [pCnt_pos]
  unfold cOut
  constructor
  · rintro ⟨k, a, b⟩
    rw [Bool.and_eq_true, decide_eq_true_eq, Bool.not_eq_true'] at b
    exact ⟨_, ⟨k, a, b.1, rfl⟩, by rw [b.2]; decide⟩
  · rintro ⟨w, ⟨k, a, b, rfl⟩, c⟩
    refine ⟨k, a, ?_⟩
    rw [Bool.and_eq_true, decide_eq_true_eq, Bool.not_eq_true']
    exact ⟨b, by cases h : bt x (lB mv k); rfl; exact absurd h c⟩
theorem cOut_all {mv : List (Nat × Nat)} {x : Int32} {p : Nat} : pCnt (cOut mv x p) mv.length = pCnt (cAt mv p) mv.length ↔ ∀ w, gEd mv p w → ¬ bt x w = true := by
  have hle : ∀ k, k < mv.length → cOut mv x p k = true → cAt mv p k = true := fun k _ h => by
    unfold cOut at h
    rw [Bool.and_eq_true] at h
    exact h.1
  rw [pCnt_same hle]
  constructor
  · rintro h w ⟨k, a, b, rfl⟩
    have := h k a (decide_eq_true b)
    unfold cOut at this
    rw [Bool.and_eq_true, Bool.not_eq_true'] at this
    rw [this.2]
    decide
  · intro h k a b
    have b := of_decide_eq_true b
    unfold cOut
    rw [Bool.and_eq_true, decide_eq_true_eq, Bool.not_eq_true']
    exact ⟨b, by cases h2 : bt x (lB mv k); rfl; exact absurd h2 (h _ ⟨k, a, b, rfl⟩)⟩
theorem or0 (x : Int32) : x ||| (0 : Int32) = x := b_ext (fun i _ => by rw [b_or, b_0, Bool.or_false])
