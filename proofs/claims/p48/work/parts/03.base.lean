/-! loops with fuel: n rounds at most -/
def fx1 {A1 : Type} (F : (A1 → Prop) → A1 → Prop) : Nat → A1 → Prop
  | 0 => fun _ => False
  | n + 1 => F (fx1 F n)
/-- the loop's rule: an invariant and a measure that falls -/
theorem fx1_go {A1 : Type} {F : (A1 → Prop) → A1 → Prop} (I : A1 → Prop) (μ : A1 → Nat)
    (h : ∀ (rec : A1 → Prop) (a1 : A1), I a1 → (∀ (b1 : A1), I b1 → μ b1 < μ a1 → rec b1) → F rec a1) : ∀ (a1 : A1), I a1 → ∃ n, fx1 F n a1 := by
  have key : ∀ (n : Nat) (a1 : A1), I a1 → μ a1 < n → fx1 F n a1 := by
    intro n
    induction n with
    | zero => intro a1 _ h0; exact absurd h0 (Nat.not_lt_zero _)
    | succ n ih => intro a1 hI hm; exact h _ a1 hI (fun b1 hb hlt => ih b1 hb (by omega))
  exact fun a1 hI => ⟨_, key _ a1 hI (Nat.lt_succ_self _)⟩
def fx2 {A1 A2 : Type} (F : (A1 → A2 → Prop) → A1 → A2 → Prop) : Nat → A1 → A2 → Prop
  | 0 => fun _ _ => False
  | n + 1 => F (fx2 F n)
/-- the loop's rule: an invariant and a measure that falls -/
theorem fx2_go {A1 A2 : Type} {F : (A1 → A2 → Prop) → A1 → A2 → Prop} (I : A1 → A2 → Prop) (μ : A1 → A2 → Nat)
    (h : ∀ (rec : A1 → A2 → Prop) (a1 : A1) (a2 : A2), I a1 a2 → (∀ (b1 : A1) (b2 : A2), I b1 b2 → μ b1 b2 < μ a1 a2 → rec b1 b2) → F rec a1 a2) : ∀ (a1 : A1) (a2 : A2), I a1 a2 → ∃ n, fx2 F n a1 a2 := by
  have key : ∀ (n : Nat) (a1 : A1) (a2 : A2), I a1 a2 → μ a1 a2 < n → fx2 F n a1 a2 := by
    intro n
    induction n with
    | zero => intro a1 a2 _ h0; exact absurd h0 (Nat.not_lt_zero _)
    | succ n ih => intro a1 a2 hI hm; exact h _ a1 a2 hI (fun b1 b2 hb hlt => ih b1 b2 hb (by omega))
  exact fun a1 a2 hI => ⟨_, key _ a1 a2 hI (Nat.lt_succ_self _)⟩
def fx3 {A1 A2 A3 : Type} (F : (A1 → A2 → A3 → Prop) → A1 → A2 → A3 → Prop) : Nat → A1 → A2 → A3 → Prop
  | 0 => fun _ _ _ => False
  | n + 1 => F (fx3 F n)
/-- the loop's rule: an invariant and a measure that falls -/
theorem fx3_go {A1 A2 A3 : Type} {F : (A1 → A2 → A3 → Prop) → A1 → A2 → A3 → Prop} (I : A1 → A2 → A3 → Prop) (μ : A1 → A2 → A3 → Nat)
    (h : ∀ (rec : A1 → A2 → A3 → Prop) (a1 : A1) (a2 : A2) (a3 : A3), I a1 a2 a3 → (∀ (b1 : A1) (b2 : A2) (b3 : A3), I b1 b2 b3 → μ b1 b2 b3 < μ a1 a2 a3 → rec b1 b2 b3) → F rec a1 a2 a3) : ∀ (a1 : A1) (a2 : A2) (a3 : A3), I a1 a2 a3 → ∃ n, fx3 F n a1 a2 a3 := by
  have key : ∀ (n : Nat) (a1 : A1) (a2 : A2) (a3 : A3), I a1 a2 a3 → μ a1 a2 a3 < n → fx3 F n a1 a2 a3 := by
    intro n
    induction n with
    | zero => intro a1 a2 a3 _ h0; exact absurd h0 (Nat.not_lt_zero _)
    | succ n ih => intro a1 a2 a3 hI hm; exact h _ a1 a2 a3 hI (fun b1 b2 b3 hb hlt => ih b1 b2 b3 hb (by omega))
  exact fun a1 a2 a3 hI => ⟨_, key _ a1 a2 a3 hI (Nat.lt_succ_self _)⟩
def fx4 {A1 A2 A3 A4 : Type} (F : (A1 → A2 → A3 → A4 → Prop) → A1 → A2 → A3 → A4 → Prop) : Nat → A1 → A2 → A3 → A4 → Prop
  | 0 => fun _ _ _ _ => False
  | n + 1 => F (fx4 F n)
/-- the loop's rule: an invariant and a measure that falls -/
theorem fx4_go {A1 A2 A3 A4 : Type} {F : (A1 → A2 → A3 → A4 → Prop) → A1 → A2 → A3 → A4 → Prop} (I : A1 → A2 → A3 → A4 → Prop) (μ : A1 → A2 → A3 → A4 → Nat)
    (h : ∀ (rec : A1 → A2 → A3 → A4 → Prop) (a1 : A1) (a2 : A2) (a3 : A3) (a4 : A4), I a1 a2 a3 a4 → (∀ (b1 : A1) (b2 : A2) (b3 : A3) (b4 : A4), I b1 b2 b3 b4 → μ b1 b2 b3 b4 < μ a1 a2 a3 a4 → rec b1 b2 b3 b4) → F rec a1 a2 a3 a4) : ∀ (a1 : A1) (a2 : A2) (a3 : A3) (a4 : A4), I a1 a2 a3 a4 → ∃ n, fx4 F n a1 a2 a3 a4 := by
  have key : ∀ (n : Nat) (a1 : A1) (a2 : A2) (a3 : A3) (a4 : A4), I a1 a2 a3 a4 → μ a1 a2 a3 a4 < n → fx4 F n a1 a2 a3 a4 := by
    intro n
    induction n with
    | zero => intro a1 a2 a3 a4 _ h0; exact absurd h0 (Nat.not_lt_zero _)
    | succ n ih => intro a1 a2 a3 a4 hI hm; exact h _ a1 a2 a3 a4 hI (fun b1 b2 b3 b4 hb hlt => ih b1 b2 b3 b4 hb (by omega))
  exact fun a1 a2 a3 a4 hI => ⟨_, key _ a1 a2 a3 a4 hI (Nat.lt_succ_self _)⟩
def fx5 {A1 A2 A3 A4 A5 : Type} (F : (A1 → A2 → A3 → A4 → A5 → Prop) → A1 → A2 → A3 → A4 → A5 → Prop) : Nat → A1 → A2 → A3 → A4 → A5 → Prop
  | 0 => fun _ _ _ _ _ => False
  | n + 1 => F (fx5 F n)
/-- the loop's rule: an invariant and a measure that falls -/
theorem fx5_go {A1 A2 A3 A4 A5 : Type} {F : (A1 → A2 → A3 → A4 → A5 → Prop) → A1 → A2 → A3 → A4 → A5 → Prop} (I : A1 → A2 → A3 → A4 → A5 → Prop) (μ : A1 → A2 → A3 → A4 → A5 → Nat)
    (h : ∀ (rec : A1 → A2 → A3 → A4 → A5 → Prop) (a1 : A1) (a2 : A2) (a3 : A3) (a4 : A4) (a5 : A5), I a1 a2 a3 a4 a5 → (∀ (b1 : A1) (b2 : A2) (b3 : A3) (b4 : A4) (b5 : A5), I b1 b2 b3 b4 b5 → μ b1 b2 b3 b4 b5 < μ a1 a2 a3 a4 a5 → rec b1 b2 b3 b4 b5) → F rec a1 a2 a3 a4 a5) : ∀ (a1 : A1) (a2 : A2) (a3 : A3) (a4 : A4) (a5 : A5), I a1 a2 a3 a4 a5 → ∃ n, fx5 F n a1 a2 a3 a4 a5 := by
  have key : ∀ (n : Nat) (a1 : A1) (a2 : A2) (a3 : A3) (a4 : A4) (a5 : A5), I a1 a2 a3 a4 a5 → μ a1 a2 a3 a4 a5 < n → fx5 F n a1 a2 a3 a4 a5 := by
    intro n
    induction n with
    | zero => intro a1 a2 a3 a4 a5 _ h0; exact absurd h0 (Nat.not_lt_zero _)
    | succ n ih => intro a1 a2 a3 a4 a5 hI hm; exact h _ a1 a2 a3 a4 a5 hI (fun b1 b2 b3 b4 b5 hb hlt => ih b1 b2 b3 b4 b5 hb (by omega))
  exact fun a1 a2 a3 a4 a5 hI => ⟨_, key _ a1 a2 a3 a4 a5 hI (Nat.lt_succ_self _)⟩
def fx6 {A1 A2 A3 A4 A5 A6 : Type} (F : (A1 → A2 → A3 → A4 → A5 → A6 → Prop) → A1 → A2 → A3 → A4 → A5 → A6 → Prop) : Nat → A1 → A2 → A3 → A4 → A5 → A6 → Prop
  | 0 => fun _ _ _ _ _ _ => False
  | n + 1 => F (fx6 F n)
/-- the loop's rule: an invariant and a measure that falls -/
theorem fx6_go {A1 A2 A3 A4 A5 A6 : Type} {F : (A1 → A2 → A3 → A4 → A5 → A6 → Prop) → A1 → A2 → A3 → A4 → A5 → A6 → Prop} (I : A1 → A2 → A3 → A4 → A5 → A6 → Prop) (μ : A1 → A2 → A3 → A4 → A5 → A6 → Nat)
    (h : ∀ (rec : A1 → A2 → A3 → A4 → A5 → A6 → Prop) (a1 : A1) (a2 : A2) (a3 : A3) (a4 : A4) (a5 : A5) (a6 : A6), I a1 a2 a3 a4 a5 a6 → (∀ (b1 : A1) (b2 : A2) (b3 : A3) (b4 : A4) (b5 : A5) (b6 : A6), I b1 b2 b3 b4 b5 b6 → μ b1 b2 b3 b4 b5 b6 < μ a1 a2 a3 a4 a5 a6 → rec b1 b2 b3 b4 b5 b6) → F rec a1 a2 a3 a4 a5 a6) : ∀ (a1 : A1) (a2 : A2) (a3 : A3) (a4 : A4) (a5 : A5) (a6 : A6), I a1 a2 a3 a4 a5 a6 → ∃ n, fx6 F n a1 a2 a3 a4 a5 a6 := by
  have key : ∀ (n : Nat) (a1 : A1) (a2 : A2) (a3 : A3) (a4 : A4) (a5 : A5) (a6 : A6), I a1 a2 a3 a4 a5 a6 → μ a1 a2 a3 a4 a5 a6 < n → fx6 F n a1 a2 a3 a4 a5 a6 := by
    intro n
    induction n with
    | zero => intro a1 a2 a3 a4 a5 a6 _ h0; exact absurd h0 (Nat.not_lt_zero _)
    | succ n ih => intro a1 a2 a3 a4 a5 a6 hI hm; exact h _ a1 a2 a3 a4 a5 a6 hI (fun b1 b2 b3 b4 b5 b6 hb hlt => ih b1 b2 b3 b4 b5 b6 hb (by omega))
  exact fun a1 a2 a3 a4 a5 a6 hI => ⟨_, key _ a1 a2 a3 a4 a5 a6 hI (Nat.lt_succ_self _)⟩
def fx7 {A1 A2 A3 A4 A5 A6 A7 : Type} (F : (A1 → A2 → A3 → A4 → A5 → A6 → A7 → Prop) → A1 → A2 → A3 → A4 → A5 → A6 → A7 → Prop) : Nat → A1 → A2 → A3 → A4 → A5 → A6 → A7 → Prop
  | 0 => fun _ _ _ _ _ _ _ => False
  | n + 1 => F (fx7 F n)
/-- the loop's rule: an invariant and a measure that falls -/
theorem fx7_go {A1 A2 A3 A4 A5 A6 A7 : Type} {F : (A1 → A2 → A3 → A4 → A5 → A6 → A7 → Prop) → A1 → A2 → A3 → A4 → A5 → A6 → A7 → Prop} (I : A1 → A2 → A3 → A4 → A5 → A6 → A7 → Prop) (μ : A1 → A2 → A3 → A4 → A5 → A6 → A7 → Nat)
    (h : ∀ (rec : A1 → A2 → A3 → A4 → A5 → A6 → A7 → Prop) (a1 : A1) (a2 : A2) (a3 : A3) (a4 : A4) (a5 : A5) (a6 : A6) (a7 : A7), I a1 a2 a3 a4 a5 a6 a7 → (∀ (b1 : A1) (b2 : A2) (b3 : A3) (b4 : A4) (b5 : A5) (b6 : A6) (b7 : A7), I b1 b2 b3 b4 b5 b6 b7 → μ b1 b2 b3 b4 b5 b6 b7 < μ a1 a2 a3 a4 a5 a6 a7 → rec b1 b2 b3 b4 b5 b6 b7) → F rec a1 a2 a3 a4 a5 a6 a7) : ∀ (a1 : A1) (a2 : A2) (a3 : A3) (a4 : A4) (a5 : A5) (a6 : A6) (a7 : A7), I a1 a2 a3 a4 a5 a6 a7 → ∃ n, fx7 F n a1 a2 a3 a4 a5 a6 a7 := by
  have key : ∀ (n : Nat) (a1 : A1) (a2 : A2) (a3 : A3) (a4 : A4) (a5 : A5) (a6 : A6) (a7 : A7), I a1 a2 a3 a4 a5 a6 a7 → μ a1 a2 a3 a4 a5 a6 a7 < n → fx7 F n a1 a2 a3 a4 a5 a6 a7 := by
    intro n
    induction n with
    | zero => intro a1 a2 a3 a4 a5 a6 a7 _ h0; exact absurd h0 (Nat.not_lt_zero _)
    | succ n ih => intro a1 a2 a3 a4 a5 a6 a7 hI hm; exact h _ a1 a2 a3 a4 a5 a6 a7 hI (fun b1 b2 b3 b4 b5 b6 b7 hb hlt => ih b1 b2 b3 b4 b5 b6 b7 hb (by omega))
  exact fun a1 a2 a3 a4 a5 a6 a7 hI => ⟨_, key _ a1 a2 a3 a4 a5 a6 a7 hI (Nat.lt_succ_self _)⟩
def fx8 {A1 A2 A3 A4 A5 A6 A7 A8 : Type} (F : (A1 → A2 → A3 → A4 → A5 → A6 → A7 → A8 → Prop) → A1 → A2 → A3 → A4 → A5 → A6 → A7 → A8 → Prop) : Nat → A1 → A2 → A3 → A4 → A5 → A6 → A7 → A8 → Prop
  | 0 => fun _ _ _ _ _ _ _ _ => False
  | n + 1 => F (fx8 F n)
/-- the loop's rule: an invariant and a measure that falls -/
theorem fx8_go {A1 A2 A3 A4 A5 A6 A7 A8 : Type} {F : (A1 → A2 → A3 → A4 → A5 → A6 → A7 → A8 → Prop) → A1 → A2 → A3 → A4 → A5 → A6 → A7 → A8 → Prop} (I : A1 → A2 → A3 → A4 → A5 → A6 → A7 → A8 → Prop) (μ : A1 → A2 → A3 → A4 → A5 → A6 → A7 → A8 → Nat)
    (h : ∀ (rec : A1 → A2 → A3 → A4 → A5 → A6 → A7 → A8 → Prop) (a1 : A1) (a2 : A2) (a3 : A3) (a4 : A4) (a5 : A5) (a6 : A6) (a7 : A7) (a8 : A8), I a1 a2 a3 a4 a5 a6 a7 a8 → (∀ (b1 : A1) (b2 : A2) (b3 : A3) (b4 : A4) (b5 : A5) (b6 : A6) (b7 : A7) (b8 : A8), I b1 b2 b3 b4 b5 b6 b7 b8 → μ b1 b2 b3 b4 b5 b6 b7 b8 < μ a1 a2 a3 a4 a5 a6 a7 a8 → rec b1 b2 b3 b4 b5 b6 b7 b8) → F rec a1 a2 a3 a4 a5 a6 a7 a8) : ∀ (a1 : A1) (a2 : A2) (a3 : A3) (a4 : A4) (a5 : A5) (a6 : A6) (a7 : A7) (a8 : A8), I a1 a2 a3 a4 a5 a6 a7 a8 → ∃ n, fx8 F n a1 a2 a3 a4 a5 a6 a7 a8 := by
  have key : ∀ (n : Nat) (a1 : A1) (a2 : A2) (a3 : A3) (a4 : A4) (a5 : A5) (a6 : A6) (a7 : A7) (a8 : A8), I a1 a2 a3 a4 a5 a6 a7 a8 → μ a1 a2 a3 a4 a5 a6 a7 a8 < n → fx8 F n a1 a2 a3 a4 a5 a6 a7 a8 := by
    intro n
    induction n with
    | zero => intro a1 a2 a3 a4 a5 a6 a7 a8 _ h0; exact absurd h0 (Nat.not_lt_zero _)
    | succ n ih => intro a1 a2 a3 a4 a5 a6 a7 a8 hI hm; exact h _ a1 a2 a3 a4 a5 a6 a7 a8 hI (fun b1 b2 b3 b4 b5 b6 b7 b8 hb hlt => ih b1 b2 b3 b4 b5 b6 b7 b8 hb (by omega))
  exact fun a1 a2 a3 a4 a5 a6 a7 a8 hI => ⟨_, key _ a1 a2 a3 a4 a5 a6 a7 a8 hI (Nat.lt_succ_self _)⟩
def fx9 {A1 A2 A3 A4 A5 A6 A7 A8 A9 : Type} (F : (A1 → A2 → A3 → A4 → A5 → A6 → A7 → A8 → A9 → Prop) → A1 → A2 → A3 → A4 → A5 → A6 → A7 → A8 → A9 → Prop) : Nat → A1 → A2 → A3 → A4 → A5 → A6 → A7 → A8 → A9 → Prop
  | 0 => fun _ _ _ _ _ _ _ _ _ => False
  | n + 1 => F (fx9 F n)
/-- the loop's rule: an invariant and a measure that falls -/
theorem fx9_go {A1 A2 A3 A4 A5 A6 A7 A8 A9 : Type} {F : (A1 → A2 → A3 → A4 → A5 → A6 → A7 → A8 → A9 → Prop) → A1 → A2 → A3 → A4 → A5 → A6 → A7 → A8 → A9 → Prop} (I : A1 → A2 → A3 → A4 → A5 → A6 → A7 → A8 → A9 → Prop) (μ : A1 → A2 → A3 → A4 → A5 → A6 → A7 → A8 → A9 → Nat)
    (h : ∀ (rec : A1 → A2 → A3 → A4 → A5 → A6 → A7 → A8 → A9 → Prop) (a1 : A1) (a2 : A2) (a3 : A3) (a4 : A4) (a5 : A5) (a6 : A6) (a7 : A7) (a8 : A8) (a9 : A9), I a1 a2 a3 a4 a5 a6 a7 a8 a9 → (∀ (b1 : A1) (b2 : A2) (b3 : A3) (b4 : A4) (b5 : A5) (b6 : A6) (b7 : A7) (b8 : A8) (b9 : A9), I b1 b2 b3 b4 b5 b6 b7 b8 b9 → μ b1 b2 b3 b4 b5 b6 b7 b8 b9 < μ a1 a2 a3 a4 a5 a6 a7 a8 a9 → rec b1 b2 b3 b4 b5 b6 b7 b8 b9) → F rec a1 a2 a3 a4 a5 a6 a7 a8 a9) : ∀ (a1 : A1) (a2 : A2) (a3 : A3) (a4 : A4) (a5 : A5) (a6 : A6) (a7 : A7) (a8 : A8) (a9 : A9), I a1 a2 a3 a4 a5 a6 a7 a8 a9 → ∃ n, fx9 F n a1 a2 a3 a4 a5 a6 a7 a8 a9 := by
  have key : ∀ (n : Nat) (a1 : A1) (a2 : A2) (a3 : A3) (a4 : A4) (a5 : A5) (a6 : A6) (a7 : A7) (a8 : A8) (a9 : A9), I a1 a2 a3 a4 a5 a6 a7 a8 a9 → μ a1 a2 a3 a4 a5 a6 a7 a8 a9 < n → fx9 F n a1 a2 a3 a4 a5 a6 a7 a8 a9 := by
    intro n
    induction n with
    | zero => intro a1 a2 a3 a4 a5 a6 a7 a8 a9 _ h0; exact absurd h0 (Nat.not_lt_zero _)
    | succ n ih => intro a1 a2 a3 a4 a5 a6 a7 a8 a9 hI hm; exact h _ a1 a2 a3 a4 a5 a6 a7 a8 a9 hI (fun b1 b2 b3 b4 b5 b6 b7 b8 b9 hb hlt => ih b1 b2 b3 b4 b5 b6 b7 b8 b9 hb (by omega))
  exact fun a1 a2 a3 a4 a5 a6 a7 a8 a9 hI => ⟨_, key _ a1 a2 a3 a4 a5 a6 a7 a8 a9 hI (Nat.lt_succ_self _)⟩
def fx10 {A1 A2 A3 A4 A5 A6 A7 A8 A9 A10 : Type} (F : (A1 → A2 → A3 → A4 → A5 → A6 → A7 → A8 → A9 → A10 → Prop) → A1 → A2 → A3 → A4 → A5 → A6 → A7 → A8 → A9 → A10 → Prop) : Nat → A1 → A2 → A3 → A4 → A5 → A6 → A7 → A8 → A9 → A10 → Prop
  | 0 => fun _ _ _ _ _ _ _ _ _ _ => False
  | n + 1 => F (fx10 F n)
/-- the loop's rule: an invariant and a measure that falls -/
theorem fx10_go {A1 A2 A3 A4 A5 A6 A7 A8 A9 A10 : Type} {F : (A1 → A2 → A3 → A4 → A5 → A6 → A7 → A8 → A9 → A10 → Prop) → A1 → A2 → A3 → A4 → A5 → A6 → A7 → A8 → A9 → A10 → Prop} (I : A1 → A2 → A3 → A4 → A5 → A6 → A7 → A8 → A9 → A10 → Prop) (μ : A1 → A2 → A3 → A4 → A5 → A6 → A7 → A8 → A9 → A10 → Nat)
    (h : ∀ (rec : A1 → A2 → A3 → A4 → A5 → A6 → A7 → A8 → A9 → A10 → Prop) (a1 : A1) (a2 : A2) (a3 : A3) (a4 : A4) (a5 : A5) (a6 : A6) (a7 : A7) (a8 : A8) (a9 : A9) (a10 : A10), I a1 a2 a3 a4 a5 a6 a7 a8 a9 a10 → (∀ (b1 : A1) (b2 : A2) (b3 : A3) (b4 : A4) (b5 : A5) (b6 : A6) (b7 : A7) (b8 : A8) (b9 : A9) (b10 : A10), I b1 b2 b3 b4 b5 b6 b7 b8 b9 b10 → μ b1 b2 b3 b4 b5 b6 b7 b8 b9 b10 < μ a1 a2 a3 a4 a5 a6 a7 a8 a9 a10 → rec b1 b2 b3 b4 b5 b6 b7 b8 b9 b10) → F rec a1 a2 a3 a4 a5 a6 a7 a8 a9 a10) : ∀ (a1 : A1) (a2 : A2) (a3 : A3) (a4 : A4) (a5 : A5) (a6 : A6) (a7 : A7) (a8 : A8) (a9 : A9) (a10 : A10), I a1 a2 a3 a4 a5 a6 a7 a8 a9 a10 → ∃ n, fx10 F n a1 a2 a3 a4 a5 a6 a7 a8 a9 a10 := by
  have key : ∀ (n : Nat) (a1 : A1) (a2 : A2) (a3 : A3) (a4 : A4) (a5 : A5) (a6 : A6) (a7 : A7) (a8 : A8) (a9 : A9) (a10 : A10), I a1 a2 a3 a4 a5 a6 a7 a8 a9 a10 → μ a1 a2 a3 a4 a5 a6 a7 a8 a9 a10 < n → fx10 F n a1 a2 a3 a4 a5 a6 a7 a8 a9 a10 := by
    intro n
    induction n with
    | zero => intro a1 a2 a3 a4 a5 a6 a7 a8 a9 a10 _ h0; exact absurd h0 (Nat.not_lt_zero _)
    | succ n ih => intro a1 a2 a3 a4 a5 a6 a7 a8 a9 a10 hI hm; exact h _ a1 a2 a3 a4 a5 a6 a7 a8 a9 a10 hI (fun b1 b2 b3 b4 b5 b6 b7 b8 b9 b10 hb hlt => ih b1 b2 b3 b4 b5 b6 b7 b8 b9 b10 hb (by omega))
  exact fun a1 a2 a3 a4 a5 a6 a7 a8 a9 a10 hI => ⟨_, key _ a1 a2 a3 a4 a5 a6 a7 a8 a9 a10 hI (Nat.lt_succ_self _)⟩
def fx11 {A1 A2 A3 A4 A5 A6 A7 A8 A9 A10 A11 : Type} (F : (A1 → A2 → A3 → A4 → A5 → A6 → A7 → A8 → A9 → A10 → A11 → Prop) → A1 → A2 → A3 → A4 → A5 → A6 → A7 → A8 → A9 → A10 → A11 → Prop) : Nat → A1 → A2 → A3 → A4 → A5 → A6 → A7 → A8 → A9 → A10 → A11 → Prop
  | 0 => fun _ _ _ _ _ _ _ _ _ _ _ => False
  | n + 1 => F (fx11 F n)
/-- the loop's rule: an invariant and a measure that falls -/
theorem fx11_go {A1 A2 A3 A4 A5 A6 A7 A8 A9 A10 A11 : Type} {F : (A1 → A2 → A3 → A4 → A5 → A6 → A7 → A8 → A9 → A10 → A11 → Prop) → A1 → A2 → A3 → A4 → A5 → A6 → A7 → A8 → A9 → A10 → A11 → Prop} (I : A1 → A2 → A3 → A4 → A5 → A6 → A7 → A8 → A9 → A10 → A11 → Prop) (μ : A1 → A2 → A3 → A4 → A5 → A6 → A7 → A8 → A9 → A10 → A11 → Nat)
    (h : ∀ (rec : A1 → A2 → A3 → A4 → A5 → A6 → A7 → A8 → A9 → A10 → A11 → Prop) (a1 : A1) (a2 : A2) (a3 : A3) (a4 : A4) (a5 : A5) (a6 : A6) (a7 : A7) (a8 : A8) (a9 : A9) (a10 : A10) (a11 : A11), I a1 a2 a3 a4 a5 a6 a7 a8 a9 a10 a11 → (∀ (b1 : A1) (b2 : A2) (b3 : A3) (b4 : A4) (b5 : A5) (b6 : A6) (b7 : A7) (b8 : A8) (b9 : A9) (b10 : A10) (b11 : A11), I b1 b2 b3 b4 b5 b6 b7 b8 b9 b10 b11 → μ b1 b2 b3 b4 b5 b6 b7 b8 b9 b10 b11 < μ a1 a2 a3 a4 a5 a6 a7 a8 a9 a10 a11 → rec b1 b2 b3 b4 b5 b6 b7 b8 b9 b10 b11) → F rec a1 a2 a3 a4 a5 a6 a7 a8 a9 a10 a11) : ∀ (a1 : A1) (a2 : A2) (a3 : A3) (a4 : A4) (a5 : A5) (a6 : A6) (a7 : A7) (a8 : A8) (a9 : A9) (a10 : A10) (a11 : A11), I a1 a2 a3 a4 a5 a6 a7 a8 a9 a10 a11 → ∃ n, fx11 F n a1 a2 a3 a4 a5 a6 a7 a8 a9 a10 a11 := by
  have key : ∀ (n : Nat) (a1 : A1) (a2 : A2) (a3 : A3) (a4 : A4) (a5 : A5) (a6 : A6) (a7 : A7) (a8 : A8) (a9 : A9) (a10 : A10) (a11 : A11), I a1 a2 a3 a4 a5 a6 a7 a8 a9 a10 a11 → μ a1 a2 a3 a4 a5 a6 a7 a8 a9 a10 a11 < n → fx11 F n a1 a2 a3 a4 a5 a6 a7 a8 a9 a10 a11 := by
    intro n
    induction n with
    | zero => intro a1 a2 a3 a4 a5 a6 a7 a8 a9 a10 a11 _ h0; exact absurd h0 (Nat.not_lt_zero _)
    | succ n ih => intro a1 a2 a3 a4 a5 a6 a7 a8 a9 a10 a11 hI hm; exact h _ a1 a2 a3 a4 a5 a6 a7 a8 a9 a10 a11 hI (fun b1 b2 b3 b4 b5 b6 b7 b8 b9 b10 b11 hb hlt => ih b1 b2 b3 b4 b5 b6 b7 b8 b9 b10 b11 hb (by omega))
  exact fun a1 a2 a3 a4 a5 a6 a7 a8 a9 a10 a11 hI => ⟨_, key _ a1 a2 a3 a4 a5 a6 a7 a8 a9 a10 a11 hI (Nat.lt_succ_self _)⟩
def fx12 {A1 A2 A3 A4 A5 A6 A7 A8 A9 A10 A11 A12 : Type} (F : (A1 → A2 → A3 → A4 → A5 → A6 → A7 → A8 → A9 → A10 → A11 → A12 → Prop) → A1 → A2 → A3 → A4 → A5 → A6 → A7 → A8 → A9 → A10 → A11 → A12 → Prop) : Nat → A1 → A2 → A3 → A4 → A5 → A6 → A7 → A8 → A9 → A10 → A11 → A12 → Prop
  | 0 => fun _ _ _ _ _ _ _ _ _ _ _ _ => False
  | n + 1 => F (fx12 F n)
/-- the loop's rule: an invariant and a measure that falls -/
theorem fx12_go {A1 A2 A3 A4 A5 A6 A7 A8 A9 A10 A11 A12 : Type} {F : (A1 → A2 → A3 → A4 → A5 → A6 → A7 → A8 → A9 → A10 → A11 → A12 → Prop) → A1 → A2 → A3 → A4 → A5 → A6 → A7 → A8 → A9 → A10 → A11 → A12 → Prop} (I : A1 → A2 → A3 → A4 → A5 → A6 → A7 → A8 → A9 → A10 → A11 → A12 → Prop) (μ : A1 → A2 → A3 → A4 → A5 → A6 → A7 → A8 → A9 → A10 → A11 → A12 → Nat)
    (h : ∀ (rec : A1 → A2 → A3 → A4 → A5 → A6 → A7 → A8 → A9 → A10 → A11 → A12 → Prop) (a1 : A1) (a2 : A2) (a3 : A3) (a4 : A4) (a5 : A5) (a6 : A6) (a7 : A7) (a8 : A8) (a9 : A9) (a10 : A10) (a11 : A11) (a12 : A12), I a1 a2 a3 a4 a5 a6 a7 a8 a9 a10 a11 a12 → (∀ (b1 : A1) (b2 : A2) (b3 : A3) (b4 : A4) (b5 : A5) (b6 : A6) (b7 : A7) (b8 : A8) (b9 : A9) (b10 : A10) (b11 : A11) (b12 : A12), I b1 b2 b3 b4 b5 b6 b7 b8 b9 b10 b11 b12 → μ b1 b2 b3 b4 b5 b6 b7 b8 b9 b10 b11 b12 < μ a1 a2 a3 a4 a5 a6 a7 a8 a9 a10 a11 a12 → rec b1 b2 b3 b4 b5 b6 b7 b8 b9 b10 b11 b12) → F rec a1 a2 a3 a4 a5 a6 a7 a8 a9 a10 a11 a12) : ∀ (a1 : A1) (a2 : A2) (a3 : A3) (a4 : A4) (a5 : A5) (a6 : A6) (a7 : A7) (a8 : A8) (a9 : A9) (a10 : A10) (a11 : A11) (a12 : A12), I a1 a2 a3 a4 a5 a6 a7 a8 a9 a10 a11 a12 → ∃ n, fx12 F n a1 a2 a3 a4 a5 a6 a7 a8 a9 a10 a11 a12 := by
  have key : ∀ (n : Nat) (a1 : A1) (a2 : A2) (a3 : A3) (a4 : A4) (a5 : A5) (a6 : A6) (a7 : A7) (a8 : A8) (a9 : A9) (a10 : A10) (a11 : A11) (a12 : A12), I a1 a2 a3 a4 a5 a6 a7 a8 a9 a10 a11 a12 → μ a1 a2 a3 a4 a5 a6 a7 a8 a9 a10 a11 a12 < n → fx12 F n a1 a2 a3 a4 a5 a6 a7 a8 a9 a10 a11 a12 := by
    intro n
    induction n with
    | zero => intro a1 a2 a3 a4 a5 a6 a7 a8 a9 a10 a11 a12 _ h0; exact absurd h0 (Nat.not_lt_zero _)
    | succ n ih => intro a1 a2 a3 a4 a5 a6 a7 a8 a9 a10 a11 a12 hI hm; exact h _ a1 a2 a3 a4 a5 a6 a7 a8 a9 a10 a11 a12 hI (fun b1 b2 b3 b4 b5 b6 b7 b8 b9 b10 b11 b12 hb hlt => ih b1 b2 b3 b4 b5 b6 b7 b8 b9 b10 b11 b12 hb (by omega))
  exact fun a1 a2 a3 a4 a5 a6 a7 a8 a9 a10 a11 a12 hI => ⟨_, key _ a1 a2 a3 a4 a5 a6 a7 a8 a9 a10 a11 a12 hI (Nat.lt_succ_self _)⟩
def fx13 {A1 A2 A3 A4 A5 A6 A7 A8 A9 A10 A11 A12 A13 : Type} (F : (A1 → A2 → A3 → A4 → A5 → A6 → A7 → A8 → A9 → A10 → A11 → A12 → A13 → Prop) → A1 → A2 → A3 → A4 → A5 → A6 → A7 → A8 → A9 → A10 → A11 → A12 → A13 → Prop) : Nat → A1 → A2 → A3 → A4 → A5 → A6 → A7 → A8 → A9 → A10 → A11 → A12 → A13 → Prop
  | 0 => fun _ _ _ _ _ _ _ _ _ _ _ _ _ => False
  | n + 1 => F (fx13 F n)
/-- the loop's rule: an invariant and a measure that falls -/
theorem fx13_go {A1 A2 A3 A4 A5 A6 A7 A8 A9 A10 A11 A12 A13 : Type} {F : (A1 → A2 → A3 → A4 → A5 → A6 → A7 → A8 → A9 → A10 → A11 → A12 → A13 → Prop) → A1 → A2 → A3 → A4 → A5 → A6 → A7 → A8 → A9 → A10 → A11 → A12 → A13 → Prop} (I : A1 → A2 → A3 → A4 → A5 → A6 → A7 → A8 → A9 → A10 → A11 → A12 → A13 → Prop) (μ : A1 → A2 → A3 → A4 → A5 → A6 → A7 → A8 → A9 → A10 → A11 → A12 → A13 → Nat)
    (h : ∀ (rec : A1 → A2 → A3 → A4 → A5 → A6 → A7 → A8 → A9 → A10 → A11 → A12 → A13 → Prop) (a1 : A1) (a2 : A2) (a3 : A3) (a4 : A4) (a5 : A5) (a6 : A6) (a7 : A7) (a8 : A8) (a9 : A9) (a10 : A10) (a11 : A11) (a12 : A12) (a13 : A13), I a1 a2 a3 a4 a5 a6 a7 a8 a9 a10 a11 a12 a13 → (∀ (b1 : A1) (b2 : A2) (b3 : A3) (b4 : A4) (b5 : A5) (b6 : A6) (b7 : A7) (b8 : A8) (b9 : A9) (b10 : A10) (b11 : A11) (b12 : A12) (b13 : A13), I b1 b2 b3 b4 b5 b6 b7 b8 b9 b10 b11 b12 b13 → μ b1 b2 b3 b4 b5 b6 b7 b8 b9 b10 b11 b12 b13 < μ a1 a2 a3 a4 a5 a6 a7 a8 a9 a10 a11 a12 a13 → rec b1 b2 b3 b4 b5 b6 b7 b8 b9 b10 b11 b12 b13) → F rec a1 a2 a3 a4 a5 a6 a7 a8 a9 a10 a11 a12 a13) : ∀ (a1 : A1) (a2 : A2) (a3 : A3) (a4 : A4) (a5 : A5) (a6 : A6) (a7 : A7) (a8 : A8) (a9 : A9) (a10 : A10) (a11 : A11) (a12 : A12) (a13 : A13), I a1 a2 a3 a4 a5 a6 a7 a8 a9 a10 a11 a12 a13 → ∃ n, fx13 F n a1 a2 a3 a4 a5 a6 a7 a8 a9 a10 a11 a12 a13 := by
  have key : ∀ (n : Nat) (a1 : A1) (a2 : A2) (a3 : A3) (a4 : A4) (a5 : A5) (a6 : A6) (a7 : A7) (a8 : A8) (a9 : A9) (a10 : A10) (a11 : A11) (a12 : A12) (a13 : A13), I a1 a2 a3 a4 a5 a6 a7 a8 a9 a10 a11 a12 a13 → μ a1 a2 a3 a4 a5 a6 a7 a8 a9 a10 a11 a12 a13 < n → fx13 F n a1 a2 a3 a4 a5 a6 a7 a8 a9 a10 a11 a12 a13 := by
    intro n
    induction n with
    | zero => intro a1 a2 a3 a4 a5 a6 a7 a8 a9 a10 a11 a12 a13 _ h0; exact absurd h0 (Nat.not_lt_zero _)
    | succ n ih => intro a1 a2 a3 a4 a5 a6 a7 a8 a9 a10 a11 a12 a13 hI hm; exact h _ a1 a2 a3 a4 a5 a6 a7 a8 a9 a10 a11 a12 a13 hI (fun b1 b2 b3 b4 b5 b6 b7 b8 b9 b10 b11 b12 b13 hb hlt => ih b1 b2 b3 b4 b5 b6 b7 b8 b9 b10 b11 b12 b13 hb (by omega))
  exact fun a1 a2 a3 a4 a5 a6 a7 a8 a9 a10 a11 a12 a13 hI => ⟨_, key _ a1 a2 a3 a4 a5 a6 a7 a8 a9 a10 a11 a12 a13 hI (Nat.lt_succ_self _)⟩
def fx14 {A1 A2 A3 A4 A5 A6 A7 A8 A9 A10 A11 A12 A13 A14 : Type} (F : (A1 → A2 → A3 → A4 → A5 → A6 → A7 → A8 → A9 → A10 → A11 → A12 → A13 → A14 → Prop) → A1 → A2 → A3 → A4 → A5 → A6 → A7 → A8 → A9 → A10 → A11 → A12 → A13 → A14 → Prop) : Nat → A1 → A2 → A3 → A4 → A5 → A6 → A7 → A8 → A9 → A10 → A11 → A12 → A13 → A14 → Prop
  | 0 => fun _ _ _ _ _ _ _ _ _ _ _ _ _ _ => False
  | n + 1 => F (fx14 F n)
/-- the loop's rule: an invariant and a measure that falls -/
theorem fx14_go {A1 A2 A3 A4 A5 A6 A7 A8 A9 A10 A11 A12 A13 A14 : Type} {F : (A1 → A2 → A3 → A4 → A5 → A6 → A7 → A8 → A9 → A10 → A11 → A12 → A13 → A14 → Prop) → A1 → A2 → A3 → A4 → A5 → A6 → A7 → A8 → A9 → A10 → A11 → A12 → A13 → A14 → Prop} (I : A1 → A2 → A3 → A4 → A5 → A6 → A7 → A8 → A9 → A10 → A11 → A12 → A13 → A14 → Prop) (μ : A1 → A2 → A3 → A4 → A5 → A6 → A7 → A8 → A9 → A10 → A11 → A12 → A13 → A14 → Nat)
    (h : ∀ (rec : A1 → A2 → A3 → A4 → A5 → A6 → A7 → A8 → A9 → A10 → A11 → A12 → A13 → A14 → Prop) (a1 : A1) (a2 : A2) (a3 : A3) (a4 : A4) (a5 : A5) (a6 : A6) (a7 : A7) (a8 : A8) (a9 : A9) (a10 : A10) (a11 : A11) (a12 : A12) (a13 : A13) (a14 : A14), I a1 a2 a3 a4 a5 a6 a7 a8 a9 a10 a11 a12 a13 a14 → (∀ (b1 : A1) (b2 : A2) (b3 : A3) (b4 : A4) (b5 : A5) (b6 : A6) (b7 : A7) (b8 : A8) (b9 : A9) (b10 : A10) (b11 : A11) (b12 : A12) (b13 : A13) (b14 : A14), I b1 b2 b3 b4 b5 b6 b7 b8 b9 b10 b11 b12 b13 b14 → μ b1 b2 b3 b4 b5 b6 b7 b8 b9 b10 b11 b12 b13 b14 < μ a1 a2 a3 a4 a5 a6 a7 a8 a9 a10 a11 a12 a13 a14 → rec b1 b2 b3 b4 b5 b6 b7 b8 b9 b10 b11 b12 b13 b14) → F rec a1 a2 a3 a4 a5 a6 a7 a8 a9 a10 a11 a12 a13 a14) : ∀ (a1 : A1) (a2 : A2) (a3 : A3) (a4 : A4) (a5 : A5) (a6 : A6) (a7 : A7) (a8 : A8) (a9 : A9) (a10 : A10) (a11 : A11) (a12 : A12) (a13 : A13) (a14 : A14), I a1 a2 a3 a4 a5 a6 a7 a8 a9 a10 a11 a12 a13 a14 → ∃ n, fx14 F n a1 a2 a3 a4 a5 a6 a7 a8 a9 a10 a11 a12 a13 a14 := by
  have key : ∀ (n : Nat) (a1 : A1) (a2 : A2) (a3 : A3) (a4 : A4) (a5 : A5) (a6 : A6) (a7 : A7) (a8 : A8) (a9 : A9) (a10 : A10) (a11 : A11) (a12 : A12) (a13 : A13) (a14 : A14), I a1 a2 a3 a4 a5 a6 a7 a8 a9 a10 a11 a12 a13 a14 → μ a1 a2 a3 a4 a5 a6 a7 a8 a9 a10 a11 a12 a13 a14 < n → fx14 F n a1 a2 a3 a4 a5 a6 a7 a8 a9 a10 a11 a12 a13 a14 := by
    intro n
    induction n with
    | zero => intro a1 a2 a3 a4 a5 a6 a7 a8 a9 a10 a11 a12 a13 a14 _ h0; exact absurd h0 (Nat.not_lt_zero _)
    | succ n ih => intro a1 a2 a3 a4 a5 a6 a7 a8 a9 a10 a11 a12 a13 a14 hI hm; exact h _ a1 a2 a3 a4 a5 a6 a7 a8 a9 a10 a11 a12 a13 a14 hI (fun b1 b2 b3 b4 b5 b6 b7 b8 b9 b10 b11 b12 b13 b14 hb hlt => ih b1 b2 b3 b4 b5 b6 b7 b8 b9 b10 b11 b12 b13 b14 hb (by omega))
  exact fun a1 a2 a3 a4 a5 a6 a7 a8 a9 a10 a11 a12 a13 a14 hI => ⟨_, key _ a1 a2 a3 a4 a5 a6 a7 a8 a9 a10 a11 a12 a13 a14 hI (Nat.lt_succ_self _)⟩
/-! fuel for loops; a method's start and end in one form; a call's side conditions -/
abbrev gT (cI cZ cB cG : ClassId) : List (ClassId × FieldType) := [(cI, .int), (cZ, .boolean), (cB, .byte), (cG, .object "ParityGame$Game")]
abbrev gX : Type := (Nat → Nat) × (Nat → Nat)
def gTx : List (Nat × String) := [(101, "the text has an error"), (154, "what out of range"), (177, "end out of range"), (220, "moves out of range"), (283, "there is such a move"), (285, "there are 60 moves"), (293, "a call is 9"), (295, "the move does not lead from the place of the token"), (303, "nothing is saved there"), (308, "there is no change to undo"), (332, "no such place"), (335, "no such move"), (337, "set out of range"), (339, "player out of range"), (341, "call out of range"), (343, "slot out of range"), (84, "the input buffer is full"), (94, "length out of range")]
def gWd : List (Nat × String × Nat) := [(53, "game", 0), (74, "even", 1), (79, "odd", 2), (81, "move", 3), (86, "token", 4)]
def gWl : List (Nat × String × Nat) := [(52, "game", 0), (61, ";even ", 5), (63, ";odd ", 6), (72, ";move ", 7), (77, ";token ", 8)]
def gDg : Nat → Int32 := fun j => Int32.ofNat (48 + j % 10)
def gNs : List (String × Nat × MethodName) := [(RX5, 11, yX1_init), (RX4, 11, yX1_init), (RX2, 17, yX1_init), (RX5, 46, yX0_init), (RX3, 51, yX5_has), (RX0, 54, yX5_has)]
def gXc : List String := ["java/lang/IllegalArgumentException", "java/lang/IllegalStateException", "java/util/NoSuchElementException"]
def gXd : List MethodName := [Bundle.initS "java/lang/RuntimeException", Bundle.initS "java/lang/Exception", Bundle.initS "java/lang/Throwable", Bundle.init0 "java/lang/RuntimeException", Bundle.init0 "java/lang/Exception", Bundle.init0 "java/lang/Throwable"]
def gXb : List Cond := gXc.map (fun q => Cond.castable q q) ++ gXd.map (fun q => Cond.declares q)
def gLen : List Nat := [4, 4, 3, 4, 5, 6, 5, 6, 7]
def gByt : List (List Int32) := [[103, 97, 109, 101], [101, 118, 101, 110], [111, 100, 100], [109, 111, 118, 101], [116, 111, 107, 101, 110], [59, 101, 118, 101, 110, 32], [59, 111, 100, 100, 32], [59, 109, 111, 118, 101, 32], [59, 116, 111, 107, 101, 110, 32]]
def gE2 (X : gX) (A : Nat → Prop) (U : State) (H : Heap) : Prop :=
  (∀ q ∈ gWl, vk_R RL q.1 q.2.1 (X.1 q.2.2) U) ∧ va_Nw (.castable "[B" "java/lang/Cloneable") U ∧ ∃ qo, va_Z "java/lang/Integer" "DigitOnes" "[B" (.ref qo) A U H ∧ va_T .byte qo 100 (fun j => .int (gDg j)) A U H
theorem gE2.calling {X : gX} {A : Nat → Prop} {U : State} {H : Heap} (g : JFrame) (mk : MethodId) (a : Array Value) (h : gE2 X A U H) : gE2 X A (U.calling g mk a) H :=
  ⟨fun q hq => vk_R.same (u := U) (U := U.calling g mk a) rfl (h.1 q hq), va_Nw.same (w := .castable "[B" "java/lang/Cloneable") rfl (u := U) (U := U.calling g mk a) rfl h.2.1, h.2.2.elim fun qo ho => ⟨qo, va_Z.moved (u := U) (U := U.calling g mk a) (Vm.Alike.refl U.vm) ho.1, va_T.moved (u := U) (U := U.calling g mk a) (Vm.Alike.refl U.vm) ho.2⟩⟩
theorem gE2.warm {X : gX} {A : Nat → Prop} {s U : State} {H : Heap} (hW : s.WarmedH U.vm) (h : gE2 X A s H) : gE2 X A U H :=
  ⟨fun q hq => vk_R.warm hW (h.1 q hq), va_Nw.warmC hW h.2.1, h.2.2.elim fun qo ho => ⟨qo, va_Z.moved hW.alike ho.1, va_T.moved hW.alike ho.2⟩⟩
theorem gE2.kept {X : gX} {A : Nat → Prop} {U : State} {H H1 : Heap} (h : gE2 X A U H) (hq : ∀ a : Nat, a < H.size → ¬ A a → H1[a]? = H[a]?) : gE2 X A U H1 :=
  ⟨h.1, h.2.1, h.2.2.elim fun qo ho => ⟨qo, ho.1.kept hq, ho.2.kept hq⟩⟩
theorem gE2.narrow {X : gX} {A B : Nat → Prop} {U : State} {H : Heap} (h : gE2 X A U H) (hAB : ∀ q, B q → A q) : gE2 X B U H :=
  ⟨h.1, h.2.1, h.2.2.elim fun qo ho => ⟨qo, ho.1.narrow hAB, ho.2.narrow hAB⟩⟩
/-- what holds around a world, and no method changes: links of nest mates, the statics of Throwable, the texts -/
def gE (X : gX) (A : Nat → Prop) (U : State) (H : Heap) : Prop :=
  (∀ q ∈ gNs, va_Nw (.methodLinkNest q.1 q.2.1 q.2.2 "ParityGame") U) ∧ vx_Zq Bundle.tN "UNASSIGNED_STACK" Bundle.steD A U H ∧ vx_Zq Bundle.tN "SUPPRESSED_SENTINEL" Bundle.listD A U H ∧
  (∀ q ∈ gTx, ∃ sa, vk_R RX5 q.1 q.2 sa U) ∧ (∀ q ∈ gWd, vk_R RX4 q.1 q.2.1 (X.1 q.2.2) U) ∧ vk_S 9 gLen gByt X.1 X.2 A U H ∧ (∀ q ∈ gXc, va_Nw (.castable q q) U) ∧ (∀ q ∈ gXd, va_Nw (.declares q) U) ∧
  va_Z "java/lang/String" "COMPACT_STRINGS" "Z" (.int 1) A U H ∧ va_Zq "jdk/internal/util/Preconditions" "SIOOBE_FORMATTER" "Ljava/util/function/BiFunction;" A U H ∧ gE2 X A U H
theorem gE.calling {X : gX} {A : Nat → Prop} {U : State} {H : Heap} (g : JFrame) (mk : MethodId) (a : Array Value) (h : gE X A U H) : gE X A (U.calling g mk a) H :=
  ⟨fun q hq => va_Nw.same (w := .methodLinkNest q.1 q.2.1 q.2.2 "ParityGame") rfl (u := U) (U := U.calling g mk a) rfl (h.1 q hq), vx_Zq.moved (u := U) (U := U.calling g mk a) (Vm.Alike.refl U.vm) h.2.1, vx_Zq.moved (u := U) (U := U.calling g mk a) (Vm.Alike.refl U.vm) h.2.2.1,
   fun q hq => (h.2.2.2.1 q hq).elim fun sa hs => ⟨sa, vk_R.same (u := U) (U := U.calling g mk a) rfl hs⟩, fun q hq => vk_R.same (u := U) (U := U.calling g mk a) rfl (h.2.2.2.2.1 q hq), vk_S.moved (u := U) (U := U.calling g mk a) (Vm.Alike.refl U.vm) h.2.2.2.2.2.1, fun q hq => va_Nw.same (w := .castable q q) rfl (u := U) (U := U.calling g mk a) rfl (h.2.2.2.2.2.2.1 q hq),
   fun q hq => va_Nw.same (w := .declares q) rfl (u := U) (U := U.calling g mk a) rfl (h.2.2.2.2.2.2.2.1 q hq), va_Z.moved (u := U) (U := U.calling g mk a) (Vm.Alike.refl U.vm) h.2.2.2.2.2.2.2.2.1, va_Zq.moved (u := U) (U := U.calling g mk a) (Vm.Alike.refl U.vm) h.2.2.2.2.2.2.2.2.2.1, gE2.calling g mk a h.2.2.2.2.2.2.2.2.2.2⟩
theorem gE.warm {X : gX} {A : Nat → Prop} {s U : State} {H : Heap} (hW : s.WarmedH U.vm) (h : gE X A s H) : gE X A U H :=
  ⟨fun q hq => va_Nw.warmM hW (h.1 q hq), vx_Zq.moved hW.alike h.2.1, vx_Zq.moved hW.alike h.2.2.1, fun q hq => (h.2.2.2.1 q hq).elim fun sa hs => ⟨sa, vk_R.warm hW hs⟩, fun q hq => vk_R.warm hW (h.2.2.2.2.1 q hq), vk_S.moved hW.alike h.2.2.2.2.2.1, fun q hq => va_Nw.warmC hW (h.2.2.2.2.2.2.1 q hq), fun q hq => va_Nw.warmD hW (h.2.2.2.2.2.2.2.1 q hq), va_Z.moved hW.alike h.2.2.2.2.2.2.2.2.1, va_Zq.moved hW.alike h.2.2.2.2.2.2.2.2.2.1, gE2.warm hW h.2.2.2.2.2.2.2.2.2.2⟩
theorem gE.kept {X : gX} {A : Nat → Prop} {U : State} {H H1 : Heap} (h : gE X A U H) (hq : ∀ a : Nat, a < H.size → ¬ A a → H1[a]? = H[a]?) : gE X A U H1 :=
  ⟨h.1, h.2.1.kept hq, h.2.2.1.kept hq, h.2.2.2.1, h.2.2.2.2.1, h.2.2.2.2.2.1.kept hq, h.2.2.2.2.2.2.1, h.2.2.2.2.2.2.2.1, h.2.2.2.2.2.2.2.2.1.kept hq, h.2.2.2.2.2.2.2.2.2.1.kept hq, h.2.2.2.2.2.2.2.2.2.2.kept hq⟩
theorem gE.narrow {X : gX} {A B : Nat → Prop} {U : State} {H : Heap} (h : gE X A U H) (hAB : ∀ q, B q → A q) : gE X B U H :=
  ⟨h.1, h.2.1.narrow hAB, h.2.2.1.narrow hAB, h.2.2.2.1, h.2.2.2.2.1, h.2.2.2.2.2.1.narrow hAB, h.2.2.2.2.2.2.1, h.2.2.2.2.2.2.2.1, h.2.2.2.2.2.2.2.2.1.narrow hAB, h.2.2.2.2.2.2.2.2.2.1.narrow hAB, h.2.2.2.2.2.2.2.2.2.2.narrow hAB⟩
theorem gE.xb {X : gX} {A : Nat → Prop} {U : State} {H : Heap} {args : Array Value} (h : gE X A U H) : ∀ w ∈ gXb, w.before args U = true := by
  intro w hw
  rcases List.mem_append.mp hw with q | q
  · obtain ⟨n, a, rfl⟩ := List.mem_map.mp q
    exact va_Nw.use rfl (h.2.2.2.2.2.2.1 n a)
  · obtain ⟨n, a, rfl⟩ := List.mem_map.mp q
    exact va_Nw.use rfl (h.2.2.2.2.2.2.2.1 n a)
abbrev gP (D : va_G) (X : gX) (tys : List (ClassId × FieldType)) (sz : Nat) (av : List Value) (ws : va_W) : Array Value → State → Prop := va_Pc av (fun U => U.heap.size = sz ∧ va_P D vwCl ws U.heap ∧ va_K D vwCl tys U ∧ va_D (fun _ => True) ws ∧ gE X (va_A ws sz) U U.heap)
abbrev gB (D : va_G) (tys : List (ClassId × FieldType)) (A : Nat → Prop) (ws : va_W) (t : State) : Prop := va_P D vwCl ws t.heap ∧ va_K D vwCl tys t ∧ va_D A ws
theorem g_blind {D : va_G} {X : gX} {tys : List (ClassId × FieldType)} {sz : Nat} {av : List Value} {ws : va_W} : FrameBlind (gP D X tys sz av ws) := fun a U g mk q => by
  obtain ⟨q0, q1, qP, qK, qD, qE⟩ := q
  exact ⟨q0, q1, qP, va_K.moved (u := U) (U := U.calling g mk a) (Vm.Alike.refl U.vm) qK, qD, qE.calling g mk a⟩
theorem g_side {D : va_G} {X : gX} {tys : List (ClassId × FieldType)} {av : List Value} {ws : va_W} {A A0 : Nat → Prop} {s U : State} {H : Heap} {locs : List Loc} (hU : U.heap = H) (hW : s.WarmedH U.vm) (hP : va_P D vwCl ws H) (hK : va_K D vwCl tys s) (hD : va_D A ws)
    (hE : gE X A0 s s.heap) (hS : va_S A0 s.heap H locs) (hF : ∀ q, va_A ws H.size q → A0 q) : gP D X tys H.size av ws av.toArray U :=
  ⟨rfl, by rw [hU], by rw [hU]; exact hP, va_K.moved hW.alike hK, hD.weaken (fun _ _ _ _ => trivial), by rw [hU]; exact ((hE.kept hS.2.1).narrow hF).warm hW⟩
/-- cells put back at their places -/
def g_sets : va_W → List Nat → va_W → va_W
  | ws, i :: is, c :: cs => g_sets (ws.set i c) is cs
  | ws, _, _ => ws
theorem g_sets_get : ∀ (is : List Nat) (ws w1 : va_W) (k : Nat) (q : Nat × va_E), is.length = w1.length → (g_sets ws is w1)[k]? = some q →
    (∃ j : Nat, is[j]? = some k ∧ w1[j]? = some q) ∨ (k ∉ is ∧ ws[k]? = some q)
  | [], ws, w1, k, q, _, h => by
    cases w1 <;> exact Or.inr ⟨List.not_mem_nil, h⟩
  | i :: is, ws, [], k, q, hl, _ => by simp at hl
  | i :: is, ws, c :: cs, k, q, hl, h => by
    rcases g_sets_get is (ws.set i c) cs k q (by simpa using hl) h with ⟨j, h1, h2⟩ | ⟨h1, h2⟩
    · exact Or.inl ⟨j + 1, by simpa using h1, by simpa using h2⟩
    · rw [List.getElem?_set] at h2
      by_cases hik : i = k
      · subst hik
        rw [if_pos rfl] at h2
        split at h2
        · cases h2
          exact Or.inl ⟨0, by simp, by simp⟩
        · cases h2
      · rw [if_neg hik] at h2
        refine Or.inr ⟨?_, h2⟩
        simp only [List.mem_cons, not_or]
        exact ⟨fun e => hik e.symm, h1⟩
/-- behind a call: the caller's world with the callee's cells as they now are -/
theorem g_back {A0 : Nat → Prop} {D : va_G} {cl : List vw_C} {ws wc w1 : va_W} {H H1 : Heap} (hP : va_P D cl ws H) (hD : va_D A0 ws) (isC : List Nat) (hC : isC.map (fun i => ws[i]?) = wc.map some) (ha : wc.map (fun q => q.1) = w1.map (fun q => q.1))
    (hk : ∀ q : Nat, q < H.size → ¬ va_A wc H.size q → H1[q]? = H[q]?) (hP1 : va_P D cl w1 H1) : va_P D cl (g_sets ws isC w1) H1 ∧ va_D A0 (g_sets ws isC w1) := by
  have hlen : isC.length = w1.length := by
    have h1 := congrArg List.length hC
    have h2 := congrArg List.length ha
    simp at h1 h2
    omega
  have hat : ∀ (j k : Nat) (q : Nat × va_E), isC[j]? = some k → w1[j]? = some q → ∃ q0, wc[j]? = some q0 ∧ ws[k]? = some q0 ∧ q0.1 = q.1 := by
    intro j k q h1 h2
    have h3 : (isC.map (fun i => ws[i]?))[j]? = some (ws[k]?) := by rw [List.getElem?_map, h1]; rfl
    have h4 : (w1.map (fun q => q.1))[j]? = some q.1 := by rw [List.getElem?_map, h2]; rfl
    rw [hC, List.getElem?_map] at h3
    rw [← ha, List.getElem?_map] at h4
    cases hw : wc[j]? with
    | none => rw [hw] at h3; cases h3
    | some q0 =>
      rw [hw] at h3 h4
      exact ⟨q0, rfl, (Option.some.inj h3).symm, Option.some.inj h4⟩
  have hold : ∀ (k : Nat) (q : Nat × va_E), (g_sets ws isC w1)[k]? = some q → ∃ q0, ws[k]? = some q0 ∧ q0.1 = q.1 := by
    intro k q h
    rcases g_sets_get isC ws w1 k q hlen h with ⟨j, h1, h2⟩ | ⟨-, h2⟩
    · obtain ⟨q0, -, h3, h4⟩ := hat j k q h1 h2
      exact ⟨q0, h3, h4⟩
    · exact ⟨q, h2, rfl⟩
  refine ⟨fun k q h => ?_, fun i j p q hp hq e => ?_, fun k q h => ?_⟩
  · rcases g_sets_get isC ws w1 k q hlen h with ⟨j, h1, h2⟩ | ⟨h1, h2⟩
    · exact hP1 j q h2
    · refine (hP k q h2).kept (hk q.1 (hP k q h2).lt ?_)
      rintro (⟨j, e, hj⟩ | hj)
      · have h3 : (isC.map (fun i => ws[i]?))[j]? = some (some (q.1, e)) := by rw [hC, List.getElem?_map, hj]; rfl
        rw [List.getElem?_map] at h3
        cases hi : isC[j]? with
        | none => rw [hi] at h3; cases h3
        | some i =>
          rw [hi] at h3
          have h4 : ws[i]? = some (q.1, e) := Option.some.inj h3
          have h5 : i = k := hD.1 i k _ _ h4 h2 rfl
          subst h5
          exact h1 (List.mem_of_getElem? hi)
      · have := (hP k q h2).lt
        omega
  · obtain ⟨p0, h1, h2⟩ := hold i p hp
    obtain ⟨q0, h3, h4⟩ := hold j q hq
    exact hD.1 i j p0 q0 h1 h3 (by rw [h2, h4, e])
  · obtain ⟨q0, h1, h2⟩ := hold k q h
    rw [← h2]
    exact hD.2 k q0 h1
theorem g_MetF {l : Launch} {y : MethodName} {ws ws' : List Cond} {rm : Room} {Pc : Array Value → State → Prop} {Qc : Array Value → State → Outcome → State → Prop} {mc ms : Nat} {free : Addr → Prop} {cc : ByteArray} {maxL : Nat} {ret : Option FieldType}
    (hy : plainFor y = true) (hw : ws = Cond.code y cc maxL ret :: ws')
    (body : ∀ p e s m args below meth c s₁, BodyLoose p l y (headSpec ws rm) cc maxL ret e s m args below meth c s₁ → c.maxLocals = maxL → Pc args s →
      W p l e (headSpec ws rm).room s m args below meth c s.heap [] 0 0 (MQ below Qc args s mc ms free) (entryFrame m args maxL)) : Met l y ws rm Pc Qc mc ms free := by
  refine MetFree.of_bodySF (code := cc) (maxLocals := maxL) (ret := ret) hy ?_ ?_
  · intro args s m h hn
    obtain ⟨meth, c, h1, h2, h3, h4, h5, h6, -, -⟩ := Cond.code_spec hn (atoms_spec (ws := ws) h _ (by rw [hw]; exact List.mem_cons_self))
    exact ⟨meth, c, h1, h2, h3, h4, h5, h6⟩
  · intro p e s m args below meth c s₁ B hml hP _
    have hh0 : s₁.heap = s.heap := by rw [B.state]; rfl
    obtain ⟨t, a1, o, b1, b2, b3⟩ := body p e s m args below meth c s₁ B hml hP s₁ hh0 (Stand.of_body B)
    exact ⟨t, o, a1, b1, b2, ⟨b3.1, b3.2⟩⟩
section GOF
variable {l : Launch} {y : MethodName} {ws ws' : List Cond} {rm : Room} {D : va_G} {X : gX} {tys : List (ClassId × FieldType)} {sz : Nat} {av : List Value} {W0 : va_W} {S : Type} {W1 : S → va_W} {cc : ByteArray} {maxL : Nat}
theorem g_ofWi {post : Int32 → S → Prop} (hy : plainFor y = true) (hlen : (lg_sl av).length ≤ maxL) (hw : ws = Cond.code y cc maxL (some .int) :: ws')
    (body : ∀ (p : Program) (e : Env) (s : State) (m : MethodId) (args : Array Value) (below : List Frame) (meth : Method) (c : Code) (A : Nat → Prop) (Q : State → Prop),
      p.tables.exec = Jvm.exec → c.code = cc → c.maxLocals = maxL → s.vm.findClass y.cls = some m.cls → (∀ w ∈ ws, w.before args s = true) → (∀ q : Nat, s.heap.size ≤ q → A q) → va_K D vwCl tys s → gE X A s s.heap → ∀ H : Heap, va_P D vwCl W0 H → va_D A W0 → va_S A s.heap H [] →
      ∀ ls : Array Slot, lv_has ls maxL (lv_args 0 av) →
      (∀ {H : Heap} {locs : List Loc} {pc : Nat} {ls : Array Slot} (r : Int32) (u : S), post r u → va_P D vwCl (W1 u) H → va_D A (W1 u) → va_S A s.heap H locs → decode cc pc = .ok (.ireturn, 1) → W p l e rm s m args below meth c H locs 0 0 Q (F0 m pc ls [.int r])) →
      W p l e rm s m args below meth c H [] 0 0 Q (F0 m 0 ls [])) :
    Met l y ws rm (gP D X tys sz av W0) (va_Qi post (fun u t => gB D tys (va_A W0 sz) (W1 u) t) (va_A W0 sz)) 0 0 (va_A W0 sz) := by
  refine g_MetF (cc := cc) (maxL := maxL) (ret := some .int) hy hw ?_
  intro p e s m args below meth c s₁ B hml hv
  obtain ⟨rfl, hsz, hP, hK, hD0, hE⟩ := hv
  have hts := atoms_spec (ws := ws) B.pre
  have hown : s.vm.findClass y.cls = some m.cls := findClass_of_methodNamed B.named
  have hlocks := B.notSynchronized
  subst hsz
  have hD := hD0.self (sz := s.heap.size)
  have hA : ∀ q : Nat, s.heap.size ≤ q → va_A W0 s.heap.size q := fun q h => Or.inr h
  have hl := lv_entry av (n := maxL) hlen
  rw [lg_entry_eq]
  generalize (lg_sl av ++ List.replicate (maxL - (lg_sl av).length) Slot.unset).toArray = ls at hl ⊢
  refine body p e s m _ below meth c _ _ B.exec B.bytes hml hown hts hA hK hE _ hP hD va_S.rf ls hl ?_
  intro H locs pc ls r u hp hP hD hS hdg
  exact W.iret B.exec B.bytes B.returns (fun t ht hW => ⟨⟨r, u, rfl, hp, by rw [ht]; exact hP, va_K.moved hW.alike hK, hD⟩, hS.F ht⟩) hS.2.2 hdg
theorem g_ofWz {post : Int32 → S → Prop} (hy : plainFor y = true) (hlen : (lg_sl av).length ≤ maxL) (hw : ws = Cond.code y cc maxL (some .boolean) :: ws')
    (body : ∀ (p : Program) (e : Env) (s : State) (m : MethodId) (args : Array Value) (below : List Frame) (meth : Method) (c : Code) (A : Nat → Prop) (Q : State → Prop),
      p.tables.exec = Jvm.exec → c.code = cc → c.maxLocals = maxL → s.vm.findClass y.cls = some m.cls → (∀ w ∈ ws, w.before args s = true) → (∀ q : Nat, s.heap.size ≤ q → A q) → va_K D vwCl tys s → gE X A s s.heap → ∀ H : Heap, va_P D vwCl W0 H → va_D A W0 → va_S A s.heap H [] →
      ∀ ls : Array Slot, lv_has ls maxL (lv_args 0 av) →
      (∀ {H : Heap} {locs : List Loc} {pc : Nat} {ls : Array Slot} (r : Int32) (u : S), narrow .boolean (.int r) = .int r → post r u → va_P D vwCl (W1 u) H → va_D A (W1 u) → va_S A s.heap H locs → decode cc pc = .ok (.ireturn, 1) → W p l e rm s m args below meth c H locs 0 0 Q (F0 m pc ls [.int r])) →
      W p l e rm s m args below meth c H [] 0 0 Q (F0 m 0 ls [])) :
    Met l y ws rm (gP D X tys sz av W0) (va_Qi (fun r u => narrow .boolean (.int r) = .int r ∧ post r u) (fun u t => gB D tys (va_A W0 sz) (W1 u) t) (va_A W0 sz)) 0 0 (va_A W0 sz) := by
  refine g_MetF (cc := cc) (maxL := maxL) (ret := some .boolean) hy hw ?_
  intro p e s m args below meth c s₁ B hml hv
  obtain ⟨rfl, hsz, hP, hK, hD0, hE⟩ := hv
  have hts := atoms_spec (ws := ws) B.pre
  have hown : s.vm.findClass y.cls = some m.cls := findClass_of_methodNamed B.named
  have hlocks := B.notSynchronized
  subst hsz
  have hD := hD0.self (sz := s.heap.size)
  have hA : ∀ q : Nat, s.heap.size ≤ q → va_A W0 s.heap.size q := fun q h => Or.inr h
  have hl := lv_entry av (n := maxL) hlen
  rw [lg_entry_eq]
  generalize (lg_sl av ++ List.replicate (maxL - (lg_sl av).length) Slot.unset).toArray = ls at hl ⊢
  refine body p e s m _ below meth c _ _ B.exec B.bytes hml hown hts hA hK hE _ hP hD va_S.rf ls hl ?_
  intro H locs pc ls r u hn hp hP hD hS hdg
  exact W.zret B.exec B.bytes B.returns hn (fun t ht hW => ⟨⟨r, u, rfl, ⟨hn, hp⟩, by rw [ht]; exact hP, va_K.moved hW.alike hK, hD⟩, hS.F ht⟩) hS.2.2 hdg
theorem g_ofWv {post : S → Prop} (hy : plainFor y = true) (hlen : (lg_sl av).length ≤ maxL) (hw : ws = Cond.code y cc maxL none :: ws')
    (body : ∀ (p : Program) (e : Env) (s : State) (m : MethodId) (args : Array Value) (below : List Frame) (meth : Method) (c : Code) (A : Nat → Prop) (Q : State → Prop),
      p.tables.exec = Jvm.exec → c.code = cc → c.maxLocals = maxL → s.vm.findClass y.cls = some m.cls → (∀ w ∈ ws, w.before args s = true) → (∀ q : Nat, s.heap.size ≤ q → A q) → va_K D vwCl tys s → gE X A s s.heap → ∀ H : Heap, va_P D vwCl W0 H → va_D A W0 → va_S A s.heap H [] →
      ∀ ls : Array Slot, lv_has ls maxL (lv_args 0 av) →
      (∀ {H : Heap} {locs : List Loc} {pc : Nat} {ls : Array Slot} (u : S), post u → va_P D vwCl (W1 u) H → va_D A (W1 u) → va_S A s.heap H locs → decode cc pc = .ok (.return_, 1) → W p l e rm s m args below meth c H locs 0 0 Q (F0 m pc ls [])) →
      W p l e rm s m args below meth c H [] 0 0 Q (F0 m 0 ls [])) :
    Met l y ws rm (gP D X tys sz av W0) (va_Qv post (fun u t => gB D tys (va_A W0 sz) (W1 u) t) (va_A W0 sz)) 0 0 (va_A W0 sz) := by
  refine g_MetF (cc := cc) (maxL := maxL) (ret := none) hy hw ?_
  intro p e s m args below meth c s₁ B hml hv
  obtain ⟨rfl, hsz, hP, hK, hD0, hE⟩ := hv
  have hts := atoms_spec (ws := ws) B.pre
  have hown : s.vm.findClass y.cls = some m.cls := findClass_of_methodNamed B.named
  have hlocks := B.notSynchronized
  subst hsz
  have hD := hD0.self (sz := s.heap.size)
  have hA : ∀ q : Nat, s.heap.size ≤ q → va_A W0 s.heap.size q := fun q h => Or.inr h
  have hl := lv_entry av (n := maxL) hlen
  rw [lg_entry_eq]
  generalize (lg_sl av ++ List.replicate (maxL - (lg_sl av).length) Slot.unset).toArray = ls at hl ⊢
  refine body p e s m _ below meth c _ _ B.exec B.bytes hml hown hts hA hK hE _ hP hD va_S.rf ls hl ?_
  intro H locs pc ls u hp hP hD hS hdg
  exact W.vret B.exec B.bytes B.returns (fun t ht hW => ⟨⟨u, rfl, hp, by rw [ht]; exact hP, va_K.moved hW.alike hK, hD⟩, hS.F ht⟩) hS.2.2 hdg
end GOF
theorem g_rec1 {a d : Nat} : (a + d) + 1 ≤ a + (d + 1) := Nat.le_refl _
theorem g_rec2 {L a d : Nat} (h : L ≤ 21 := by decide) : 8 + (L) + (a + 40 * d) ≤ a + 40 * (d + 1) := by omega
theorem g_rec3 {x a b : Nat} (h : x ≤ a) : x ≤ a + b := Nat.le_trans h (Nat.le_add_right _ _)
theorem g_case2 {i : Int32} (h : vp_in i 2) : i = (0 : Int32) ∨ i = (1 : Int32) := by
  obtain ⟨j, hj, rfl⟩ := vp_in_of h (by decide)
  have : j = 0 ∨ j = 1 := by omega
  rcases this with rfl | rfl <;> simp [nI] <;> decide
theorem g_case10 {i : Int32} (h : vp_in i 10) : i = (0 : Int32) ∨ i = (1 : Int32) ∨ i = (2 : Int32) ∨ i = (3 : Int32) ∨ i = (4 : Int32) ∨ i = (5 : Int32) ∨ i = (6 : Int32) ∨ i = (7 : Int32) ∨ i = (8 : Int32) ∨ i = (9 : Int32) := by
  obtain ⟨j, hj, rfl⟩ := vp_in_of h (by decide)
  have : j = 0 ∨ j = 1 ∨ j = 2 ∨ j = 3 ∨ j = 4 ∨ j = 5 ∨ j = 6 ∨ j = 7 ∨ j = 8 ∨ j = 9 := by omega
  rcases this with rfl | rfl | rfl | rfl | rfl | rfl | rfl | rfl | rfl | rfl <;> simp [nI] <;> decide
theorem g_sw5 (x : Int32) : x = (0 : Int32) ∨ x = (1 : Int32) ∨ x = (2 : Int32) ∨ x = (3 : Int32) ∨ x = (4 : Int32) ∨ (x.toInt < 0 ∨ 4 < x.toInt) := by
  by_cases h : x.toInt < 0 ∨ 4 < x.toInt
  · exact Or.inr (Or.inr (Or.inr (Or.inr (Or.inr (h)))))
  · have hx : x = Int32.ofInt x.toInt := (Int32.ofInt_toInt x).symm
    have : x.toInt = 0 ∨ x.toInt = 1 ∨ x.toInt = 2 ∨ x.toInt = 3 ∨ x.toInt = 4 := by omega
    rcases this with h0 | h0 | h0 | h0 | h0 <;> (rw [h0] at hx; subst hx; decide)
theorem g_sw8 (x : Int32) : x = (0 : Int32) ∨ x = (1 : Int32) ∨ x = (2 : Int32) ∨ x = (3 : Int32) ∨ x = (4 : Int32) ∨ x = (5 : Int32) ∨ x = (6 : Int32) ∨ x = (7 : Int32) ∨ (x.toInt < 0 ∨ 7 < x.toInt) := by
  by_cases h : x.toInt < 0 ∨ 7 < x.toInt
  · exact Or.inr (Or.inr (Or.inr (Or.inr (Or.inr (Or.inr (Or.inr (Or.inr (h))))))))
  · have hx : x = Int32.ofInt x.toInt := (Int32.ofInt_toInt x).symm
    have : x.toInt = 0 ∨ x.toInt = 1 ∨ x.toInt = 2 ∨ x.toInt = 3 ∨ x.toInt = 4 ∨ x.toInt = 5 ∨ x.toInt = 6 ∨ x.toInt = 7 := by omega
    rcases this with h0 | h0 | h0 | h0 | h0 | h0 | h0 | h0 <;> (rw [h0] at hx; subst hx; decide)
theorem g_ldcwf {p : Program} {l : Launch} {e : Env} {R : Room} {s : State} {m : MethodId} {args : Array Value} {below : List Frame} {meth : Method} {c : Code} {H : Heap} {locs : List Loc} {cells slots : Nat} {Q : State → Prop} {cc : ByteArray} {pc : Nat} {ls : Array Slot} {rest : List Value}
    (hexec : p.tables.exec = Jvm.exec) (hb : c.code = cc) {own : String} {index : Nat} {v : UInt32} (hown : s.vm.findClass own = some m.cls) (hconst : (Jvm.Cond.constantFloat own index v).before args s = true) (hdg : decode cc pc = .ok (.ldc_w index, 3))
    (k : W p l e R s m args below meth c H locs cells slots Q (F0 m (pc + 3) ls (.float v :: rest))) : W p l e R s m args below meth c H locs cells slots Q (F0 m pc ls rest) := by
  intro T hT X
  obtain ⟨t, a, b⟩ := k T hT X
  refine ⟨t, ?_, b⟩
  subst hb
  obtain ⟨k0, cf, hk, hcf, hcp⟩ := Cond.constantFloat_spec hown hconst
  obtain ⟨k', hk', he⟩ := X.warmed.alike.2.2 _ _ hk
  jvm_step X.here [X.here.top, hexec, hdg, ldc_w.wp_float (s := T) (f := F0 m pc ls rest) X.here.top hk' (by rw [he]; exact hcf) hcp]
  exact a
section GOX
variable {l : Launch} {y : MethodName} {ws ws' : List Cond} {rm : Room} {D : va_G} {X : gX} {tys : List (ClassId × FieldType)} {sz : Nat} {av : List Value} {W0 : va_W} {S : Type} {W1 : S → va_W} {cc : ByteArray} {maxL mc ms : Nat} {postX : String → S → Prop}
/-- what a method that throws leaves -/
abbrev gXX (D : va_G) (tys : List (ClassId × FieldType)) (A : Nat → Prop) {S : Type} (postX : String → S → Prop) (W1 : S → va_W) : String → State → State → Prop :=
  vx_X (fun u : String × S => postX u.1 u.2) (fun E u t => E = u.1 ∧ gB D tys A (W1 u.2) t) A
theorem g_ofWf {post : UInt32 → S → Prop} (hy : plainFor y = true) (hlen : (lg_sl av).length ≤ maxL) (hw : ws = Cond.code y cc maxL (some .float) :: ws')
    (body : ∀ (p : Program) (e : Env) (s : State) (m : MethodId) (args : Array Value) (below : List Frame) (meth : Method) (c : Code) (A : Nat → Prop) (Q : State → Prop),
      p.tables.exec = Jvm.exec → c.code = cc → c.maxLocals = maxL → s.vm.findClass y.cls = some m.cls → (∀ w ∈ ws, w.before args s = true) → (∀ q : Nat, s.heap.size ≤ q → A q) → va_K D vwCl tys s → gE X A s s.heap → ∀ H : Heap, va_P D vwCl W0 H → va_D A W0 → va_S A s.heap H [] →
      ∀ ls : Array Slot, lv_has ls maxL (lv_args 0 av) →
      (∀ {H : Heap} {locs : List Loc} {pc : Nat} {ls : Array Slot} (r : UInt32) (u : S), post r u → va_P D vwCl (W1 u) H → va_D A (W1 u) → va_S A s.heap H locs → decode cc pc = .ok (.freturn, 1) → W p l e rm s m args below meth c H locs 0 0 Q (F0 m pc ls [.float r])) →
      W p l e rm s m args below meth c H [] 0 0 Q (F0 m 0 ls [])) :
    Met l y ws rm (gP D X tys sz av W0) (va_Qf post (fun u t => gB D tys (va_A W0 sz) (W1 u) t) (va_A W0 sz)) 0 0 (va_A W0 sz) := by
  refine g_MetF (cc := cc) (maxL := maxL) (ret := some .float) hy hw ?_
  intro p e s m args below meth c s₁ B hml hv
  obtain ⟨rfl, hsz, hP, hK, hD0, hE⟩ := hv
  have hts := atoms_spec (ws := ws) B.pre
  have hown : s.vm.findClass y.cls = some m.cls := findClass_of_methodNamed B.named
  have hlocks := B.notSynchronized
  subst hsz
  have hD := hD0.self (sz := s.heap.size)
  have hA : ∀ q : Nat, s.heap.size ≤ q → va_A W0 s.heap.size q := fun q h => Or.inr h
  have hl := lv_entry av (n := maxL) hlen
  rw [lg_entry_eq]
  generalize (lg_sl av ++ List.replicate (maxL - (lg_sl av).length) Slot.unset).toArray = ls at hl ⊢
  refine body p e s m _ below meth c _ _ B.exec B.bytes hml hown hts hA hK hE _ hP hD va_S.rf ls hl ?_
  intro H locs pc ls r u hp hP hD hS hdg
  exact W.fret B.exec B.bytes B.returns (fun t ht hW => ⟨⟨r, u, rfl, hp, by rw [ht]; exact hP, va_K.moved hW.alike hK, hD⟩, hS.F ht⟩) hS.2.2 hdg

theorem g_ofWd {post : UInt64 → S → Prop} (hy : plainFor y = true) (hlen : (lg_sl av).length ≤ maxL) (hw : ws = Cond.code y cc maxL (some .double) :: ws')
    (body : ∀ (p : Program) (e : Env) (s : State) (m : MethodId) (args : Array Value) (below : List Frame) (meth : Method) (c : Code) (A : Nat → Prop) (Q : State → Prop),
      p.tables.exec = Jvm.exec → c.code = cc → c.maxLocals = maxL → s.vm.findClass y.cls = some m.cls → (∀ w ∈ ws, w.before args s = true) → (∀ q : Nat, s.heap.size ≤ q → A q) → va_K D vwCl tys s → gE X A s s.heap → ∀ H : Heap, va_P D vwCl W0 H → va_D A W0 → va_S A s.heap H [] →
      ∀ ls : Array Slot, lv_has ls maxL (lv_args 0 av) →
      (∀ {H : Heap} {locs : List Loc} {pc : Nat} {ls : Array Slot} (r : UInt64) (u : S), post r u → va_P D vwCl (W1 u) H → va_D A (W1 u) → va_S A s.heap H locs → decode cc pc = .ok (.dreturn, 1) → W p l e rm s m args below meth c H locs 0 0 Q (F0 m pc ls [.double r])) →
      W p l e rm s m args below meth c H [] 0 0 Q (F0 m 0 ls [])) :
    Met l y ws rm (gP D X tys sz av W0) (va_Qd post (fun u t => gB D tys (va_A W0 sz) (W1 u) t) (va_A W0 sz)) 0 0 (va_A W0 sz) := by
  refine g_MetF (cc := cc) (maxL := maxL) (ret := some .double) hy hw ?_
  intro p e s m args below meth c s₁ B hml hv
  obtain ⟨rfl, hsz, hP, hK, hD0, hE⟩ := hv
  have hts := atoms_spec (ws := ws) B.pre
  have hown : s.vm.findClass y.cls = some m.cls := findClass_of_methodNamed B.named
  have hlocks := B.notSynchronized
  subst hsz
  have hD := hD0.self (sz := s.heap.size)
  have hA : ∀ q : Nat, s.heap.size ≤ q → va_A W0 s.heap.size q := fun q h => Or.inr h
  have hl := lv_entry av (n := maxL) hlen
  rw [lg_entry_eq]
  generalize (lg_sl av ++ List.replicate (maxL - (lg_sl av).length) Slot.unset).toArray = ls at hl ⊢
  refine body p e s m _ below meth c _ _ B.exec B.bytes hml hown hts hA hK hE _ hP hD va_S.rf ls hl ?_
  intro H locs pc ls r u hp hP hD hS hdg
  exact W.dret B.exec B.bytes B.returns (fun t ht hW => ⟨⟨r, u, rfl, hp, by rw [ht]; exact hP, va_K.moved hW.alike hK, hD⟩, hS.F ht⟩) hS.2.2 hdg

theorem g_ofXi {post : Int32 → S → Prop} (hy : plainName y.cls = true) (hlen : (lg_sl av).length ≤ maxL) (hw : ws = Cond.code y cc maxL (some .int) :: ws')
    (hlf : l.stackTraces = false)
    (body : ∀ (p : Program) (e : Env) (s : State) (m : MethodId) (args : Array Value) (below : List Frame) (meth : Method) (c : Code) (A : Nat → Prop) (Q : State → Prop),
      p.tables.exec = Jvm.exec → c.code = cc → c.maxLocals = maxL → s.vm.findClass y.cls = some m.cls → (∀ w ∈ ws, w.before args s = true) → (∀ q : Nat, s.heap.size ≤ q → A q) → va_K D vwCl tys s → gE X A s s.heap → ∀ H : Heap, va_P D vwCl W0 H → va_D A W0 → va_S A s.heap H [] →
      ∀ ls : Array Slot, lv_has ls maxL (lv_args 0 av) →
      (∀ {H : Heap} {locs : List Loc} {pc : Nat} {ls : Array Slot} {k n : Nat} (r : Int32) (u : S), k ≤ mc → n ≤ ms → post r u → va_P D vwCl (W1 u) H → va_D A (W1 u) → va_S A s.heap H locs → decode cc pc = .ok (.ireturn, 1) → W p l e rm s m args below meth c H locs k n Q (F0 m pc ls [.int r])) →
      (∀ {H : Heap} {locs : List Loc} {pc : Nat} {ls : Array Slot} {rest : List Value} {k n ik is ic sa : Nat} {cls text : String} {names : List String} (u : S), postX cls u → k + 1 ≤ mc → n + 6 ≤ ms → k + 1 ≤ rm.cells → n + 6 ≤ rm.slots → Bundle.fit cls = true → (∀ z ∈ names, Bundle.fit z = true) →
        (Cond.classLink y.cls ik cls).before args s = true → (Cond.initialized cls).before args s = true → vk_R y.cls is text sa s → (∀ w ∈ vx_atS y.cls ic cls names, w.before args s = true) → (∀ w ∈ Cond.classLink y.cls ik cls :: Cond.initialized cls :: vx_atS y.cls ic cls names, vx_ot w = true) →
        ls.size = maxL → decode cc pc = .ok (.new ik, 3) → decode cc (pc + 3) = .ok (.dup, 1) → decode cc (pc + 4) = .ok (.ldc is, 2) → decode cc (pc + 6) = .ok (.invokespecial ic, 3) → decode cc (pc + 9) = .ok (.athrow, 1) →
        names.length + 3 < rm.frames → (rest.map fun v => v.category).sum + (13 * (names.length + 1) + 43) ≤ rm.locals →
        va_P D vwCl (W1 u) H → va_D A (W1 u) → va_S A s.heap H locs → W p l e rm s m args below meth c H locs k n Q (F0 m pc ls rest)) →
      (∀ {H : Heap} {locs : List Loc} {pc : Nat} {ls : Array Slot} {rest : List Value} {k n ik is ic sa : Nat} {cls text : String} {names : List String} (u : S), postX cls u → k + 1 ≤ mc → n + 6 ≤ ms → k + 1 ≤ rm.cells → n + 6 ≤ rm.slots → Bundle.fit cls = true → (∀ z ∈ names, Bundle.fit z = true) →
        (Cond.classLink y.cls ik cls).before args s = true → (Cond.initialized cls).before args s = true → vk_R y.cls is text sa s → (∀ w ∈ vx_atS y.cls ic cls names, w.before args s = true) → (∀ w ∈ Cond.classLink y.cls ik cls :: Cond.initialized cls :: vx_atS y.cls ic cls names, vx_ot w = true) →
        ls.size = maxL → decode cc pc = .ok (.new ik, 3) → decode cc (pc + 3) = .ok (.dup, 1) → decode cc (pc + 4) = .ok (.ldc_w is, 3) → decode cc (pc + 7) = .ok (.invokespecial ic, 3) → decode cc (pc + 10) = .ok (.athrow, 1) →
        names.length + 3 < rm.frames → (rest.map fun v => v.category).sum + (13 * (names.length + 1) + 43) ≤ rm.locals →
        va_P D vwCl (W1 u) H → va_D A (W1 u) → va_S A s.heap H locs → W p l e rm s m args below meth c H locs k n Q (F0 m pc ls rest)) →
      (∀ {H : Heap} {locs : List Loc} {pc : Nat} {ls : Array Slot} {rest : List Value} {k n : Nat} {E : String} {ce : Cell} {q9 : Addr} (u : S), postX E u → k ≤ mc → n ≤ ms → H[q9]? = some ce → ce.vm = .none → s.vm.findClass E = some ce.cls → va_P D vwCl (W1 u) H → va_D A (W1 u) → va_S A s.heap H locs → vx_W p l e rm s m args below meth c H locs k n Q (F0 m pc ls rest) q9) →
      W p l e rm s m args below meth c H [] 0 0 Q (F0 m 0 ls [])) :
    vx_Met l y ws rm (gP D X tys sz av W0) (va_Qi post (fun u t => gB D tys (va_A W0 sz) (W1 u) t) (va_A W0 sz)) (gXX D tys (va_A W0 sz) postX W1) mc ms (va_A W0 sz) := by
  refine vx_ofW (cc := cc) (maxL := maxL) (ret := some .int) hy hw ?_
  intro p e s m args below meth c s₁ B hml htab hv
  obtain ⟨rfl, hsz, hP, hK, hD0, hE⟩ := hv
  have hts := atoms_spec (ws := ws) B.pre
  have hown : s.vm.findClass y.cls = some m.cls := findClass_of_methodNamed B.named
  have hlocks := B.notSynchronized
  subst hsz
  have hD := hD0.self (sz := s.heap.size)
  have hA : ∀ q : Nat, s.heap.size ≤ q → va_A W0 s.heap.size q := fun q h => Or.inr h
  have hl := lv_entry av (n := maxL) hlen
  rw [lg_entry_eq]
  generalize (lg_sl av ++ List.replicate (maxL - (lg_sl av).length) Slot.unset).toArray = ls at hl ⊢
  refine body p e s m _ below meth c _ _ B.exec B.bytes hml hown hts hA hK hE _ hP hD va_S.rf ls hl ?_ ?_ ?_ ?_
  · intro H locs pc ls k n r u hk hn9 hp hP hD hS hdg
    exact vx_ret (W.widen hk hn9 (W.iret B.exec B.bytes B.returns (fun t ht hW => ⟨⟨r, u, rfl, hp, by rw [ht]; exact hP, va_K.moved hW.alike hK, hD⟩, hS.F ht⟩) hS.2.2 hdg))
  · intro H locs pc ls rest k n ik is ic sa cls text names u hp hk hn9 hk2 hn2 hcls hnames hkk hini hstr hat hgood hsl d0 d3 d4 d6 d9 hf1 hl1 hP hD hS
    exact vx_throwS B.exec B.bytes hlf hown hcls hnames hkk hini hstr hat hgood hE.2.1 hE.2.2.1 hS (hsl.trans hml.symm) d0 d3 d4 d6 d9 (fun z hz => (htab z hz).elim) hf1 hl1 hk2 hn2 hlocks
      (fun t hal hsz hq => ⟨(cls, u), hp, ⟨rfl, va_P.kept hP (fun k9 q9 h9 => hq _ (vx_lt hP h9)), va_K.moved hal hK, hD⟩, ⟨Nat.le_trans hS.1 hsz, fun q h1 h2 => (hq q (Nat.lt_of_lt_of_le h1 hS.1)).trans (hS.2.1 q h1 h2)⟩⟩) hS.2.2 hk hn9
  · intro H locs pc ls rest k n ik is ic sa cls text names u hp hk hn9 hk2 hn2 hcls hnames hkk hini hstr hat hgood hsl d0 d3 d4 d6 d9 hf1 hl1 hP hD hS
    exact vx_throwSW B.exec B.bytes hlf hown hcls hnames hkk hini hstr hat hgood hE.2.1 hE.2.2.1 hS (hsl.trans hml.symm) d0 d3 d4 d6 d9 (fun z hz => (htab z hz).elim) hf1 hl1 hk2 hn2 hlocks
      (fun t hal hsz hq => ⟨(cls, u), hp, ⟨rfl, va_P.kept hP (fun k9 q9 h9 => hq _ (vx_lt hP h9)), va_K.moved hal hK, hD⟩, ⟨Nat.le_trans hS.1 hsz, fun q h1 h2 => (hq q (Nat.lt_of_lt_of_le h1 hS.1)).trans (hS.2.1 q h1 h2)⟩⟩) hS.2.2 hk hn9
  · intro H locs pc ls rest k n E ce q9 u hp hk hn9 hcell hv hcl hP hD hS
    exact vx_out (fun z hz => (htab z hz).elim) hlocks hcell hv hcl (fun t ht hal => ⟨(E, u), hp, ⟨rfl, by rw [ht]; exact hP, va_K.moved hal hK, hD⟩, hS.F ht⟩) hS.2.2 hk hn9

theorem g_ofXz {post : Int32 → S → Prop} (hy : plainName y.cls = true) (hlen : (lg_sl av).length ≤ maxL) (hw : ws = Cond.code y cc maxL (some .boolean) :: ws')
    (hlf : l.stackTraces = false)
    (body : ∀ (p : Program) (e : Env) (s : State) (m : MethodId) (args : Array Value) (below : List Frame) (meth : Method) (c : Code) (A : Nat → Prop) (Q : State → Prop),
      p.tables.exec = Jvm.exec → c.code = cc → c.maxLocals = maxL → s.vm.findClass y.cls = some m.cls → (∀ w ∈ ws, w.before args s = true) → (∀ q : Nat, s.heap.size ≤ q → A q) → va_K D vwCl tys s → gE X A s s.heap → ∀ H : Heap, va_P D vwCl W0 H → va_D A W0 → va_S A s.heap H [] →
      ∀ ls : Array Slot, lv_has ls maxL (lv_args 0 av) →
      (∀ {H : Heap} {locs : List Loc} {pc : Nat} {ls : Array Slot} {k n : Nat} (r : Int32) (u : S), k ≤ mc → n ≤ ms → narrow .boolean (.int r) = .int r → post r u → va_P D vwCl (W1 u) H → va_D A (W1 u) → va_S A s.heap H locs → decode cc pc = .ok (.ireturn, 1) → W p l e rm s m args below meth c H locs k n Q (F0 m pc ls [.int r])) →
      (∀ {H : Heap} {locs : List Loc} {pc : Nat} {ls : Array Slot} {rest : List Value} {k n ik is ic sa : Nat} {cls text : String} {names : List String} (u : S), postX cls u → k + 1 ≤ mc → n + 6 ≤ ms → k + 1 ≤ rm.cells → n + 6 ≤ rm.slots → Bundle.fit cls = true → (∀ z ∈ names, Bundle.fit z = true) →
        (Cond.classLink y.cls ik cls).before args s = true → (Cond.initialized cls).before args s = true → vk_R y.cls is text sa s → (∀ w ∈ vx_atS y.cls ic cls names, w.before args s = true) → (∀ w ∈ Cond.classLink y.cls ik cls :: Cond.initialized cls :: vx_atS y.cls ic cls names, vx_ot w = true) →
        ls.size = maxL → decode cc pc = .ok (.new ik, 3) → decode cc (pc + 3) = .ok (.dup, 1) → decode cc (pc + 4) = .ok (.ldc is, 2) → decode cc (pc + 6) = .ok (.invokespecial ic, 3) → decode cc (pc + 9) = .ok (.athrow, 1) →
        names.length + 3 < rm.frames → (rest.map fun v => v.category).sum + (13 * (names.length + 1) + 43) ≤ rm.locals →
        va_P D vwCl (W1 u) H → va_D A (W1 u) → va_S A s.heap H locs → W p l e rm s m args below meth c H locs k n Q (F0 m pc ls rest)) →
      (∀ {H : Heap} {locs : List Loc} {pc : Nat} {ls : Array Slot} {rest : List Value} {k n ik is ic sa : Nat} {cls text : String} {names : List String} (u : S), postX cls u → k + 1 ≤ mc → n + 6 ≤ ms → k + 1 ≤ rm.cells → n + 6 ≤ rm.slots → Bundle.fit cls = true → (∀ z ∈ names, Bundle.fit z = true) →
        (Cond.classLink y.cls ik cls).before args s = true → (Cond.initialized cls).before args s = true → vk_R y.cls is text sa s → (∀ w ∈ vx_atS y.cls ic cls names, w.before args s = true) → (∀ w ∈ Cond.classLink y.cls ik cls :: Cond.initialized cls :: vx_atS y.cls ic cls names, vx_ot w = true) →
        ls.size = maxL → decode cc pc = .ok (.new ik, 3) → decode cc (pc + 3) = .ok (.dup, 1) → decode cc (pc + 4) = .ok (.ldc_w is, 3) → decode cc (pc + 7) = .ok (.invokespecial ic, 3) → decode cc (pc + 10) = .ok (.athrow, 1) →
        names.length + 3 < rm.frames → (rest.map fun v => v.category).sum + (13 * (names.length + 1) + 43) ≤ rm.locals →
        va_P D vwCl (W1 u) H → va_D A (W1 u) → va_S A s.heap H locs → W p l e rm s m args below meth c H locs k n Q (F0 m pc ls rest)) →
      (∀ {H : Heap} {locs : List Loc} {pc : Nat} {ls : Array Slot} {rest : List Value} {k n : Nat} {E : String} {ce : Cell} {q9 : Addr} (u : S), postX E u → k ≤ mc → n ≤ ms → H[q9]? = some ce → ce.vm = .none → s.vm.findClass E = some ce.cls → va_P D vwCl (W1 u) H → va_D A (W1 u) → va_S A s.heap H locs → vx_W p l e rm s m args below meth c H locs k n Q (F0 m pc ls rest) q9) →
      W p l e rm s m args below meth c H [] 0 0 Q (F0 m 0 ls [])) :
    vx_Met l y ws rm (gP D X tys sz av W0) (va_Qi (fun r u => narrow .boolean (.int r) = .int r ∧ post r u) (fun u t => gB D tys (va_A W0 sz) (W1 u) t) (va_A W0 sz)) (gXX D tys (va_A W0 sz) postX W1) mc ms (va_A W0 sz) := by
  refine vx_ofW (cc := cc) (maxL := maxL) (ret := some .boolean) hy hw ?_
  intro p e s m args below meth c s₁ B hml htab hv
  obtain ⟨rfl, hsz, hP, hK, hD0, hE⟩ := hv
  have hts := atoms_spec (ws := ws) B.pre
  have hown : s.vm.findClass y.cls = some m.cls := findClass_of_methodNamed B.named
  have hlocks := B.notSynchronized
  subst hsz
  have hD := hD0.self (sz := s.heap.size)
  have hA : ∀ q : Nat, s.heap.size ≤ q → va_A W0 s.heap.size q := fun q h => Or.inr h
  have hl := lv_entry av (n := maxL) hlen
  rw [lg_entry_eq]
  generalize (lg_sl av ++ List.replicate (maxL - (lg_sl av).length) Slot.unset).toArray = ls at hl ⊢
  refine body p e s m _ below meth c _ _ B.exec B.bytes hml hown hts hA hK hE _ hP hD va_S.rf ls hl ?_ ?_ ?_ ?_
  · intro H locs pc ls k n r u hk hn9 hn hp hP hD hS hdg
    exact vx_ret (W.widen hk hn9 (W.zret B.exec B.bytes B.returns hn (fun t ht hW => ⟨⟨r, u, rfl, ⟨hn, hp⟩, by rw [ht]; exact hP, va_K.moved hW.alike hK, hD⟩, hS.F ht⟩) hS.2.2 hdg))
  · intro H locs pc ls rest k n ik is ic sa cls text names u hp hk hn9 hk2 hn2 hcls hnames hkk hini hstr hat hgood hsl d0 d3 d4 d6 d9 hf1 hl1 hP hD hS
    exact vx_throwS B.exec B.bytes hlf hown hcls hnames hkk hini hstr hat hgood hE.2.1 hE.2.2.1 hS (hsl.trans hml.symm) d0 d3 d4 d6 d9 (fun z hz => (htab z hz).elim) hf1 hl1 hk2 hn2 hlocks
      (fun t hal hsz hq => ⟨(cls, u), hp, ⟨rfl, va_P.kept hP (fun k9 q9 h9 => hq _ (vx_lt hP h9)), va_K.moved hal hK, hD⟩, ⟨Nat.le_trans hS.1 hsz, fun q h1 h2 => (hq q (Nat.lt_of_lt_of_le h1 hS.1)).trans (hS.2.1 q h1 h2)⟩⟩) hS.2.2 hk hn9
  · intro H locs pc ls rest k n ik is ic sa cls text names u hp hk hn9 hk2 hn2 hcls hnames hkk hini hstr hat hgood hsl d0 d3 d4 d6 d9 hf1 hl1 hP hD hS
    exact vx_throwSW B.exec B.bytes hlf hown hcls hnames hkk hini hstr hat hgood hE.2.1 hE.2.2.1 hS (hsl.trans hml.symm) d0 d3 d4 d6 d9 (fun z hz => (htab z hz).elim) hf1 hl1 hk2 hn2 hlocks
      (fun t hal hsz hq => ⟨(cls, u), hp, ⟨rfl, va_P.kept hP (fun k9 q9 h9 => hq _ (vx_lt hP h9)), va_K.moved hal hK, hD⟩, ⟨Nat.le_trans hS.1 hsz, fun q h1 h2 => (hq q (Nat.lt_of_lt_of_le h1 hS.1)).trans (hS.2.1 q h1 h2)⟩⟩) hS.2.2 hk hn9
  · intro H locs pc ls rest k n E ce q9 u hp hk hn9 hcell hv hcl hP hD hS
    exact vx_out (fun z hz => (htab z hz).elim) hlocks hcell hv hcl (fun t ht hal => ⟨(E, u), hp, ⟨rfl, by rw [ht]; exact hP, va_K.moved hal hK, hD⟩, hS.F ht⟩) hS.2.2 hk hn9

theorem g_ofXv {post : S → Prop} (hy : plainName y.cls = true) (hlen : (lg_sl av).length ≤ maxL) (hw : ws = Cond.code y cc maxL (none) :: ws')
    (hlf : l.stackTraces = false)
    (body : ∀ (p : Program) (e : Env) (s : State) (m : MethodId) (args : Array Value) (below : List Frame) (meth : Method) (c : Code) (A : Nat → Prop) (Q : State → Prop),
      p.tables.exec = Jvm.exec → c.code = cc → c.maxLocals = maxL → s.vm.findClass y.cls = some m.cls → (∀ w ∈ ws, w.before args s = true) → (∀ q : Nat, s.heap.size ≤ q → A q) → va_K D vwCl tys s → gE X A s s.heap → ∀ H : Heap, va_P D vwCl W0 H → va_D A W0 → va_S A s.heap H [] →
      ∀ ls : Array Slot, lv_has ls maxL (lv_args 0 av) →
      (∀ {H : Heap} {locs : List Loc} {pc : Nat} {ls : Array Slot} {k n : Nat} (u : S), k ≤ mc → n ≤ ms → post u → va_P D vwCl (W1 u) H → va_D A (W1 u) → va_S A s.heap H locs → decode cc pc = .ok (.return_, 1) → W p l e rm s m args below meth c H locs k n Q (F0 m pc ls [])) →
      (∀ {H : Heap} {locs : List Loc} {pc : Nat} {ls : Array Slot} {rest : List Value} {k n ik is ic sa : Nat} {cls text : String} {names : List String} (u : S), postX cls u → k + 1 ≤ mc → n + 6 ≤ ms → k + 1 ≤ rm.cells → n + 6 ≤ rm.slots → Bundle.fit cls = true → (∀ z ∈ names, Bundle.fit z = true) →
        (Cond.classLink y.cls ik cls).before args s = true → (Cond.initialized cls).before args s = true → vk_R y.cls is text sa s → (∀ w ∈ vx_atS y.cls ic cls names, w.before args s = true) → (∀ w ∈ Cond.classLink y.cls ik cls :: Cond.initialized cls :: vx_atS y.cls ic cls names, vx_ot w = true) →
        ls.size = maxL → decode cc pc = .ok (.new ik, 3) → decode cc (pc + 3) = .ok (.dup, 1) → decode cc (pc + 4) = .ok (.ldc is, 2) → decode cc (pc + 6) = .ok (.invokespecial ic, 3) → decode cc (pc + 9) = .ok (.athrow, 1) →
        names.length + 3 < rm.frames → (rest.map fun v => v.category).sum + (13 * (names.length + 1) + 43) ≤ rm.locals →
        va_P D vwCl (W1 u) H → va_D A (W1 u) → va_S A s.heap H locs → W p l e rm s m args below meth c H locs k n Q (F0 m pc ls rest)) →
      (∀ {H : Heap} {locs : List Loc} {pc : Nat} {ls : Array Slot} {rest : List Value} {k n ik is ic sa : Nat} {cls text : String} {names : List String} (u : S), postX cls u → k + 1 ≤ mc → n + 6 ≤ ms → k + 1 ≤ rm.cells → n + 6 ≤ rm.slots → Bundle.fit cls = true → (∀ z ∈ names, Bundle.fit z = true) →
        (Cond.classLink y.cls ik cls).before args s = true → (Cond.initialized cls).before args s = true → vk_R y.cls is text sa s → (∀ w ∈ vx_atS y.cls ic cls names, w.before args s = true) → (∀ w ∈ Cond.classLink y.cls ik cls :: Cond.initialized cls :: vx_atS y.cls ic cls names, vx_ot w = true) →
        ls.size = maxL → decode cc pc = .ok (.new ik, 3) → decode cc (pc + 3) = .ok (.dup, 1) → decode cc (pc + 4) = .ok (.ldc_w is, 3) → decode cc (pc + 7) = .ok (.invokespecial ic, 3) → decode cc (pc + 10) = .ok (.athrow, 1) →
        names.length + 3 < rm.frames → (rest.map fun v => v.category).sum + (13 * (names.length + 1) + 43) ≤ rm.locals →
        va_P D vwCl (W1 u) H → va_D A (W1 u) → va_S A s.heap H locs → W p l e rm s m args below meth c H locs k n Q (F0 m pc ls rest)) →
      (∀ {H : Heap} {locs : List Loc} {pc : Nat} {ls : Array Slot} {rest : List Value} {k n : Nat} {E : String} {ce : Cell} {q9 : Addr} (u : S), postX E u → k ≤ mc → n ≤ ms → H[q9]? = some ce → ce.vm = .none → s.vm.findClass E = some ce.cls → va_P D vwCl (W1 u) H → va_D A (W1 u) → va_S A s.heap H locs → vx_W p l e rm s m args below meth c H locs k n Q (F0 m pc ls rest) q9) →
      W p l e rm s m args below meth c H [] 0 0 Q (F0 m 0 ls [])) :
    vx_Met l y ws rm (gP D X tys sz av W0) (va_Qv post (fun u t => gB D tys (va_A W0 sz) (W1 u) t) (va_A W0 sz)) (gXX D tys (va_A W0 sz) postX W1) mc ms (va_A W0 sz) := by
  refine vx_ofW (cc := cc) (maxL := maxL) (ret := none) hy hw ?_
  intro p e s m args below meth c s₁ B hml htab hv
  obtain ⟨rfl, hsz, hP, hK, hD0, hE⟩ := hv
  have hts := atoms_spec (ws := ws) B.pre
  have hown : s.vm.findClass y.cls = some m.cls := findClass_of_methodNamed B.named
  have hlocks := B.notSynchronized
  subst hsz
  have hD := hD0.self (sz := s.heap.size)
  have hA : ∀ q : Nat, s.heap.size ≤ q → va_A W0 s.heap.size q := fun q h => Or.inr h
  have hl := lv_entry av (n := maxL) hlen
  rw [lg_entry_eq]
  generalize (lg_sl av ++ List.replicate (maxL - (lg_sl av).length) Slot.unset).toArray = ls at hl ⊢
  refine body p e s m _ below meth c _ _ B.exec B.bytes hml hown hts hA hK hE _ hP hD va_S.rf ls hl ?_ ?_ ?_ ?_
  · intro H locs pc ls k n u hk hn9 hp hP hD hS hdg
    exact vx_ret (W.widen hk hn9 (W.vret B.exec B.bytes B.returns (fun t ht hW => ⟨⟨u, rfl, hp, by rw [ht]; exact hP, va_K.moved hW.alike hK, hD⟩, hS.F ht⟩) hS.2.2 hdg))
  · intro H locs pc ls rest k n ik is ic sa cls text names u hp hk hn9 hk2 hn2 hcls hnames hkk hini hstr hat hgood hsl d0 d3 d4 d6 d9 hf1 hl1 hP hD hS
    exact vx_throwS B.exec B.bytes hlf hown hcls hnames hkk hini hstr hat hgood hE.2.1 hE.2.2.1 hS (hsl.trans hml.symm) d0 d3 d4 d6 d9 (fun z hz => (htab z hz).elim) hf1 hl1 hk2 hn2 hlocks
      (fun t hal hsz hq => ⟨(cls, u), hp, ⟨rfl, va_P.kept hP (fun k9 q9 h9 => hq _ (vx_lt hP h9)), va_K.moved hal hK, hD⟩, ⟨Nat.le_trans hS.1 hsz, fun q h1 h2 => (hq q (Nat.lt_of_lt_of_le h1 hS.1)).trans (hS.2.1 q h1 h2)⟩⟩) hS.2.2 hk hn9
  · intro H locs pc ls rest k n ik is ic sa cls text names u hp hk hn9 hk2 hn2 hcls hnames hkk hini hstr hat hgood hsl d0 d3 d4 d6 d9 hf1 hl1 hP hD hS
    exact vx_throwSW B.exec B.bytes hlf hown hcls hnames hkk hini hstr hat hgood hE.2.1 hE.2.2.1 hS (hsl.trans hml.symm) d0 d3 d4 d6 d9 (fun z hz => (htab z hz).elim) hf1 hl1 hk2 hn2 hlocks
      (fun t hal hsz hq => ⟨(cls, u), hp, ⟨rfl, va_P.kept hP (fun k9 q9 h9 => hq _ (vx_lt hP h9)), va_K.moved hal hK, hD⟩, ⟨Nat.le_trans hS.1 hsz, fun q h1 h2 => (hq q (Nat.lt_of_lt_of_le h1 hS.1)).trans (hS.2.1 q h1 h2)⟩⟩) hS.2.2 hk hn9
  · intro H locs pc ls rest k n E ce q9 u hp hk hn9 hcell hv hcl hP hD hS
    exact vx_out (fun z hz => (htab z hz).elim) hlocks hcell hv hcl (fun t ht hal => ⟨(E, u), hp, ⟨rfl, by rw [ht]; exact hP, va_K.moved hal hK, hD⟩, hS.F ht⟩) hS.2.2 hk hn9

theorem g_ofXf {post : UInt32 → S → Prop} (hy : plainName y.cls = true) (hlen : (lg_sl av).length ≤ maxL) (hw : ws = Cond.code y cc maxL (some .float) :: ws')
    (hlf : l.stackTraces = false)
    (body : ∀ (p : Program) (e : Env) (s : State) (m : MethodId) (args : Array Value) (below : List Frame) (meth : Method) (c : Code) (A : Nat → Prop) (Q : State → Prop),
      p.tables.exec = Jvm.exec → c.code = cc → c.maxLocals = maxL → s.vm.findClass y.cls = some m.cls → (∀ w ∈ ws, w.before args s = true) → (∀ q : Nat, s.heap.size ≤ q → A q) → va_K D vwCl tys s → gE X A s s.heap → ∀ H : Heap, va_P D vwCl W0 H → va_D A W0 → va_S A s.heap H [] →
      ∀ ls : Array Slot, lv_has ls maxL (lv_args 0 av) →
      (∀ {H : Heap} {locs : List Loc} {pc : Nat} {ls : Array Slot} {k n : Nat} (r : UInt32) (u : S), k ≤ mc → n ≤ ms → post r u → va_P D vwCl (W1 u) H → va_D A (W1 u) → va_S A s.heap H locs → decode cc pc = .ok (.freturn, 1) → W p l e rm s m args below meth c H locs k n Q (F0 m pc ls [.float r])) →
      (∀ {H : Heap} {locs : List Loc} {pc : Nat} {ls : Array Slot} {rest : List Value} {k n ik is ic sa : Nat} {cls text : String} {names : List String} (u : S), postX cls u → k + 1 ≤ mc → n + 6 ≤ ms → k + 1 ≤ rm.cells → n + 6 ≤ rm.slots → Bundle.fit cls = true → (∀ z ∈ names, Bundle.fit z = true) →
        (Cond.classLink y.cls ik cls).before args s = true → (Cond.initialized cls).before args s = true → vk_R y.cls is text sa s → (∀ w ∈ vx_atS y.cls ic cls names, w.before args s = true) → (∀ w ∈ Cond.classLink y.cls ik cls :: Cond.initialized cls :: vx_atS y.cls ic cls names, vx_ot w = true) →
        ls.size = maxL → decode cc pc = .ok (.new ik, 3) → decode cc (pc + 3) = .ok (.dup, 1) → decode cc (pc + 4) = .ok (.ldc is, 2) → decode cc (pc + 6) = .ok (.invokespecial ic, 3) → decode cc (pc + 9) = .ok (.athrow, 1) →
        names.length + 3 < rm.frames → (rest.map fun v => v.category).sum + (13 * (names.length + 1) + 43) ≤ rm.locals →
        va_P D vwCl (W1 u) H → va_D A (W1 u) → va_S A s.heap H locs → W p l e rm s m args below meth c H locs k n Q (F0 m pc ls rest)) →
      (∀ {H : Heap} {locs : List Loc} {pc : Nat} {ls : Array Slot} {rest : List Value} {k n ik is ic sa : Nat} {cls text : String} {names : List String} (u : S), postX cls u → k + 1 ≤ mc → n + 6 ≤ ms → k + 1 ≤ rm.cells → n + 6 ≤ rm.slots → Bundle.fit cls = true → (∀ z ∈ names, Bundle.fit z = true) →
        (Cond.classLink y.cls ik cls).before args s = true → (Cond.initialized cls).before args s = true → vk_R y.cls is text sa s → (∀ w ∈ vx_atS y.cls ic cls names, w.before args s = true) → (∀ w ∈ Cond.classLink y.cls ik cls :: Cond.initialized cls :: vx_atS y.cls ic cls names, vx_ot w = true) →
        ls.size = maxL → decode cc pc = .ok (.new ik, 3) → decode cc (pc + 3) = .ok (.dup, 1) → decode cc (pc + 4) = .ok (.ldc_w is, 3) → decode cc (pc + 7) = .ok (.invokespecial ic, 3) → decode cc (pc + 10) = .ok (.athrow, 1) →
        names.length + 3 < rm.frames → (rest.map fun v => v.category).sum + (13 * (names.length + 1) + 43) ≤ rm.locals →
        va_P D vwCl (W1 u) H → va_D A (W1 u) → va_S A s.heap H locs → W p l e rm s m args below meth c H locs k n Q (F0 m pc ls rest)) →
      (∀ {H : Heap} {locs : List Loc} {pc : Nat} {ls : Array Slot} {rest : List Value} {k n : Nat} {E : String} {ce : Cell} {q9 : Addr} (u : S), postX E u → k ≤ mc → n ≤ ms → H[q9]? = some ce → ce.vm = .none → s.vm.findClass E = some ce.cls → va_P D vwCl (W1 u) H → va_D A (W1 u) → va_S A s.heap H locs → vx_W p l e rm s m args below meth c H locs k n Q (F0 m pc ls rest) q9) →
      W p l e rm s m args below meth c H [] 0 0 Q (F0 m 0 ls [])) :
    vx_Met l y ws rm (gP D X tys sz av W0) (va_Qf post (fun u t => gB D tys (va_A W0 sz) (W1 u) t) (va_A W0 sz)) (gXX D tys (va_A W0 sz) postX W1) mc ms (va_A W0 sz) := by
  refine vx_ofW (cc := cc) (maxL := maxL) (ret := some .float) hy hw ?_
  intro p e s m args below meth c s₁ B hml htab hv
  obtain ⟨rfl, hsz, hP, hK, hD0, hE⟩ := hv
  have hts := atoms_spec (ws := ws) B.pre
  have hown : s.vm.findClass y.cls = some m.cls := findClass_of_methodNamed B.named
  have hlocks := B.notSynchronized
  subst hsz
  have hD := hD0.self (sz := s.heap.size)
  have hA : ∀ q : Nat, s.heap.size ≤ q → va_A W0 s.heap.size q := fun q h => Or.inr h
  have hl := lv_entry av (n := maxL) hlen
  rw [lg_entry_eq]
  generalize (lg_sl av ++ List.replicate (maxL - (lg_sl av).length) Slot.unset).toArray = ls at hl ⊢
  refine body p e s m _ below meth c _ _ B.exec B.bytes hml hown hts hA hK hE _ hP hD va_S.rf ls hl ?_ ?_ ?_ ?_
  · intro H locs pc ls k n r u hk hn9 hp hP hD hS hdg
    exact vx_ret (W.widen hk hn9 (W.fret B.exec B.bytes B.returns (fun t ht hW => ⟨⟨r, u, rfl, hp, by rw [ht]; exact hP, va_K.moved hW.alike hK, hD⟩, hS.F ht⟩) hS.2.2 hdg))
  · intro H locs pc ls rest k n ik is ic sa cls text names u hp hk hn9 hk2 hn2 hcls hnames hkk hini hstr hat hgood hsl d0 d3 d4 d6 d9 hf1 hl1 hP hD hS
    exact vx_throwS B.exec B.bytes hlf hown hcls hnames hkk hini hstr hat hgood hE.2.1 hE.2.2.1 hS (hsl.trans hml.symm) d0 d3 d4 d6 d9 (fun z hz => (htab z hz).elim) hf1 hl1 hk2 hn2 hlocks
      (fun t hal hsz hq => ⟨(cls, u), hp, ⟨rfl, va_P.kept hP (fun k9 q9 h9 => hq _ (vx_lt hP h9)), va_K.moved hal hK, hD⟩, ⟨Nat.le_trans hS.1 hsz, fun q h1 h2 => (hq q (Nat.lt_of_lt_of_le h1 hS.1)).trans (hS.2.1 q h1 h2)⟩⟩) hS.2.2 hk hn9
  · intro H locs pc ls rest k n ik is ic sa cls text names u hp hk hn9 hk2 hn2 hcls hnames hkk hini hstr hat hgood hsl d0 d3 d4 d6 d9 hf1 hl1 hP hD hS
    exact vx_throwSW B.exec B.bytes hlf hown hcls hnames hkk hini hstr hat hgood hE.2.1 hE.2.2.1 hS (hsl.trans hml.symm) d0 d3 d4 d6 d9 (fun z hz => (htab z hz).elim) hf1 hl1 hk2 hn2 hlocks
      (fun t hal hsz hq => ⟨(cls, u), hp, ⟨rfl, va_P.kept hP (fun k9 q9 h9 => hq _ (vx_lt hP h9)), va_K.moved hal hK, hD⟩, ⟨Nat.le_trans hS.1 hsz, fun q h1 h2 => (hq q (Nat.lt_of_lt_of_le h1 hS.1)).trans (hS.2.1 q h1 h2)⟩⟩) hS.2.2 hk hn9
  · intro H locs pc ls rest k n E ce q9 u hp hk hn9 hcell hv hcl hP hD hS
    exact vx_out (fun z hz => (htab z hz).elim) hlocks hcell hv hcl (fun t ht hal => ⟨(E, u), hp, ⟨rfl, by rw [ht]; exact hP, va_K.moved hal hK, hD⟩, hS.F ht⟩) hS.2.2 hk hn9

theorem g_ofXd {post : UInt64 → S → Prop} (hy : plainName y.cls = true) (hlen : (lg_sl av).length ≤ maxL) (hw : ws = Cond.code y cc maxL (some .double) :: ws')
    (hlf : l.stackTraces = false)
    (body : ∀ (p : Program) (e : Env) (s : State) (m : MethodId) (args : Array Value) (below : List Frame) (meth : Method) (c : Code) (A : Nat → Prop) (Q : State → Prop),
      p.tables.exec = Jvm.exec → c.code = cc → c.maxLocals = maxL → s.vm.findClass y.cls = some m.cls → (∀ w ∈ ws, w.before args s = true) → (∀ q : Nat, s.heap.size ≤ q → A q) → va_K D vwCl tys s → gE X A s s.heap → ∀ H : Heap, va_P D vwCl W0 H → va_D A W0 → va_S A s.heap H [] →
      ∀ ls : Array Slot, lv_has ls maxL (lv_args 0 av) →
      (∀ {H : Heap} {locs : List Loc} {pc : Nat} {ls : Array Slot} {k n : Nat} (r : UInt64) (u : S), k ≤ mc → n ≤ ms → post r u → va_P D vwCl (W1 u) H → va_D A (W1 u) → va_S A s.heap H locs → decode cc pc = .ok (.dreturn, 1) → W p l e rm s m args below meth c H locs k n Q (F0 m pc ls [.double r])) →
      (∀ {H : Heap} {locs : List Loc} {pc : Nat} {ls : Array Slot} {rest : List Value} {k n ik is ic sa : Nat} {cls text : String} {names : List String} (u : S), postX cls u → k + 1 ≤ mc → n + 6 ≤ ms → k + 1 ≤ rm.cells → n + 6 ≤ rm.slots → Bundle.fit cls = true → (∀ z ∈ names, Bundle.fit z = true) →
        (Cond.classLink y.cls ik cls).before args s = true → (Cond.initialized cls).before args s = true → vk_R y.cls is text sa s → (∀ w ∈ vx_atS y.cls ic cls names, w.before args s = true) → (∀ w ∈ Cond.classLink y.cls ik cls :: Cond.initialized cls :: vx_atS y.cls ic cls names, vx_ot w = true) →
        ls.size = maxL → decode cc pc = .ok (.new ik, 3) → decode cc (pc + 3) = .ok (.dup, 1) → decode cc (pc + 4) = .ok (.ldc is, 2) → decode cc (pc + 6) = .ok (.invokespecial ic, 3) → decode cc (pc + 9) = .ok (.athrow, 1) →
        names.length + 3 < rm.frames → (rest.map fun v => v.category).sum + (13 * (names.length + 1) + 43) ≤ rm.locals →
        va_P D vwCl (W1 u) H → va_D A (W1 u) → va_S A s.heap H locs → W p l e rm s m args below meth c H locs k n Q (F0 m pc ls rest)) →
      (∀ {H : Heap} {locs : List Loc} {pc : Nat} {ls : Array Slot} {rest : List Value} {k n ik is ic sa : Nat} {cls text : String} {names : List String} (u : S), postX cls u → k + 1 ≤ mc → n + 6 ≤ ms → k + 1 ≤ rm.cells → n + 6 ≤ rm.slots → Bundle.fit cls = true → (∀ z ∈ names, Bundle.fit z = true) →
        (Cond.classLink y.cls ik cls).before args s = true → (Cond.initialized cls).before args s = true → vk_R y.cls is text sa s → (∀ w ∈ vx_atS y.cls ic cls names, w.before args s = true) → (∀ w ∈ Cond.classLink y.cls ik cls :: Cond.initialized cls :: vx_atS y.cls ic cls names, vx_ot w = true) →
        ls.size = maxL → decode cc pc = .ok (.new ik, 3) → decode cc (pc + 3) = .ok (.dup, 1) → decode cc (pc + 4) = .ok (.ldc_w is, 3) → decode cc (pc + 7) = .ok (.invokespecial ic, 3) → decode cc (pc + 10) = .ok (.athrow, 1) →
        names.length + 3 < rm.frames → (rest.map fun v => v.category).sum + (13 * (names.length + 1) + 43) ≤ rm.locals →
        va_P D vwCl (W1 u) H → va_D A (W1 u) → va_S A s.heap H locs → W p l e rm s m args below meth c H locs k n Q (F0 m pc ls rest)) →
      (∀ {H : Heap} {locs : List Loc} {pc : Nat} {ls : Array Slot} {rest : List Value} {k n : Nat} {E : String} {ce : Cell} {q9 : Addr} (u : S), postX E u → k ≤ mc → n ≤ ms → H[q9]? = some ce → ce.vm = .none → s.vm.findClass E = some ce.cls → va_P D vwCl (W1 u) H → va_D A (W1 u) → va_S A s.heap H locs → vx_W p l e rm s m args below meth c H locs k n Q (F0 m pc ls rest) q9) →
      W p l e rm s m args below meth c H [] 0 0 Q (F0 m 0 ls [])) :
    vx_Met l y ws rm (gP D X tys sz av W0) (va_Qd post (fun u t => gB D tys (va_A W0 sz) (W1 u) t) (va_A W0 sz)) (gXX D tys (va_A W0 sz) postX W1) mc ms (va_A W0 sz) := by
  refine vx_ofW (cc := cc) (maxL := maxL) (ret := some .double) hy hw ?_
  intro p e s m args below meth c s₁ B hml htab hv
  obtain ⟨rfl, hsz, hP, hK, hD0, hE⟩ := hv
  have hts := atoms_spec (ws := ws) B.pre
  have hown : s.vm.findClass y.cls = some m.cls := findClass_of_methodNamed B.named
  have hlocks := B.notSynchronized
  subst hsz
  have hD := hD0.self (sz := s.heap.size)
  have hA : ∀ q : Nat, s.heap.size ≤ q → va_A W0 s.heap.size q := fun q h => Or.inr h
  have hl := lv_entry av (n := maxL) hlen
  rw [lg_entry_eq]
  generalize (lg_sl av ++ List.replicate (maxL - (lg_sl av).length) Slot.unset).toArray = ls at hl ⊢
  refine body p e s m _ below meth c _ _ B.exec B.bytes hml hown hts hA hK hE _ hP hD va_S.rf ls hl ?_ ?_ ?_ ?_
  · intro H locs pc ls k n r u hk hn9 hp hP hD hS hdg
    exact vx_ret (W.widen hk hn9 (W.dret B.exec B.bytes B.returns (fun t ht hW => ⟨⟨r, u, rfl, hp, by rw [ht]; exact hP, va_K.moved hW.alike hK, hD⟩, hS.F ht⟩) hS.2.2 hdg))
  · intro H locs pc ls rest k n ik is ic sa cls text names u hp hk hn9 hk2 hn2 hcls hnames hkk hini hstr hat hgood hsl d0 d3 d4 d6 d9 hf1 hl1 hP hD hS
    exact vx_throwS B.exec B.bytes hlf hown hcls hnames hkk hini hstr hat hgood hE.2.1 hE.2.2.1 hS (hsl.trans hml.symm) d0 d3 d4 d6 d9 (fun z hz => (htab z hz).elim) hf1 hl1 hk2 hn2 hlocks
      (fun t hal hsz hq => ⟨(cls, u), hp, ⟨rfl, va_P.kept hP (fun k9 q9 h9 => hq _ (vx_lt hP h9)), va_K.moved hal hK, hD⟩, ⟨Nat.le_trans hS.1 hsz, fun q h1 h2 => (hq q (Nat.lt_of_lt_of_le h1 hS.1)).trans (hS.2.1 q h1 h2)⟩⟩) hS.2.2 hk hn9
  · intro H locs pc ls rest k n ik is ic sa cls text names u hp hk hn9 hk2 hn2 hcls hnames hkk hini hstr hat hgood hsl d0 d3 d4 d6 d9 hf1 hl1 hP hD hS
    exact vx_throwSW B.exec B.bytes hlf hown hcls hnames hkk hini hstr hat hgood hE.2.1 hE.2.2.1 hS (hsl.trans hml.symm) d0 d3 d4 d6 d9 (fun z hz => (htab z hz).elim) hf1 hl1 hk2 hn2 hlocks
      (fun t hal hsz hq => ⟨(cls, u), hp, ⟨rfl, va_P.kept hP (fun k9 q9 h9 => hq _ (vx_lt hP h9)), va_K.moved hal hK, hD⟩, ⟨Nat.le_trans hS.1 hsz, fun q h1 h2 => (hq q (Nat.lt_of_lt_of_le h1 hS.1)).trans (hS.2.1 q h1 h2)⟩⟩) hS.2.2 hk hn9
  · intro H locs pc ls rest k n E ce q9 u hp hk hn9 hcell hv hcl hP hD hS
    exact vx_out (fun z hz => (htab z hz).elim) hlocks hcell hv hcl (fun t ht hal => ⟨(E, u), hp, ⟨rfl, by rw [ht]; exact hP, va_K.moved hal hK, hD⟩, hS.F ht⟩) hS.2.2 hk hn9

end GOX
