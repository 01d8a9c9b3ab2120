/-! the texts: the reference's reader: the whole text -/
section RD6D
variable {T : Nat → Nat} {n : Nat} {inp keys : Nat → Int32} {k s e v fa : Int32}
end RD6D
