/-! what would be: the reference -/
theorem upd_back {f : Nat → Int32} {k : Nat} {x : Int32} : upd (upd f k x) k (f k) = f := funext fun j => by
  rw [upd_get]
  by_cases z : j = k
  · rw [if_pos z, z]
  · rw [if_neg z, pk_un z]
theorem i_1sub {o : Nat} (h : o < 2) : (1 : Int32) - nI o = nI (1 - o) := i_subn (a := 1) (by omega)
theorem i_11 (x : Int32) : (1 : Int32) - (1 - x) = x := by
  rw [Int32.sub_eq_add_neg 1 (1 - x), Int32.neg_sub, Int32.add_comm, Int32.sub_add_cancel]
section WHAT6
variable {pl mv : List (Nat × Nat)} {a c p s t0 : Int32} {live measure now weight : Nat → Int32} {post : Int32 → Int32 → Int32 → (Nat → Int32) → (Nat → Int32) → (Nat → Int32) → (Nat → Int32) → Prop} {post3 : Int32 → Int32 → Int32 → (Nat → Int32) → (Nat → Int32) → (Nat → Int32) → Prop}
end WHAT6
theorem RMv_less {mv : List (Nat × Nat)} {q : Nat × Nat} {now : Nat → Int32} (h : RMv (mv ++ [q]) now) (hm : mv.length ≤ 60) : RMv mv (upd now 1 (now 1 - 1)) := by
  refine ⟨?_, fun k hk => ?_⟩
  · rw [pk_us, h.1, List.length_append, List.length_singleton]
    exact i_sub1
  · have := h.2 k (by rw [List.length_append]; omega)
    rw [pk_un (by omega), pk_un (by omega), this.1, this.2, lA_app.1, lA_app.2, if_neg (by omega), if_neg (by omega)]
    exact ⟨rfl, rfl⟩
