/-! the texts: the reference's reader: moves -/
section RD6B
variable {T : Nat → Nat} {n : Nat} {inp keys now0 : Nat → Int32} {t : Tk} {k s e v fa : Int32} {P M : List (Nat × Nat)}
end RD6B
