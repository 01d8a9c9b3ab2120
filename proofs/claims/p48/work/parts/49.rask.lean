/-! what is asked: the reference -/
section ASK6
variable {pl mv : List (Nat × Nat)} {a b c t0 t1 t2 t3 : Int32} {live measure now weight planned came rank : Nat → Int32}
  {post2 : Int32 → Int32 → Prop} {postR : Int32 → Int32 → (Nat → Int32) → Prop} {post3 : Int32 → Int32 → Int32 → (Nat → Int32) → (Nat → Int32) → (Nat → Int32) → Prop}
  {post4 : Int32 → Int32 → Int32 → (Nat → Int32) → (Nat → Int32) → (Nat → Int32) → (Nat → Int32) → Prop}
  {postY : Int32 → Int32 → Int32 → Int32 → Int32 → Int32 → (Nat → Int32) → (Nat → Int32) → (Nat → Int32) → (Nat → Int32) → (Nat → Int32) → Prop}
end ASK6
