theorem stay_congr {ow : Nat → Nat} {E : Nat → Nat → Prop} {i : Nat} {X Y : Nat → Prop} (h : ∀ v, X v ↔ Y v) (v : Nat) : stay ow E i X v ↔ stay ow E i Y v := by
  have : X = Y := funext fun v => propext (h v)
  rw [this]
