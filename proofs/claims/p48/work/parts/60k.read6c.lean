/-! the texts: the reference's reader: line, text -/
def O6a (T : Nat → Nat) (n : Nat) (R : RdA) (k s e v f fa : Int32) (now : Nat → Int32) : Prop :=
  (∃ t P M L, R = .ok (t, P, M, L) ∧ f = 0 ∧ RTk n t k s e v ∧ tkOk T n t ∧ RMp P now ∧ RMv M now ∧ lOk P M L ∧ now 2 = nI L) ∨ (∃ a b, R = .error (a, b) ∧ 0 < a ∧ a < 7 ∧ b ≤ n ∧ f = nI a ∧ fa = nI b)
def O6t (n : Nat) (R : RdT) (f fa : Int32) (now : Nat → Int32) : Prop :=
  (∃ P M L, R = .ok (P, M, L) ∧ f = 0 ∧ gOk (P, M, L, 0, hdLay P L) ∧ RM (P, M, L, 0, hdLay P L) now) ∨ (∃ a b, R = .error (a, b) ∧ 0 < a ∧ a < 7 ∧ b ≤ n ∧ f = nI a ∧ fa = nI b)
section RD6C
variable {T : Nat → Nat} {n : Nat} {inp keys now0 : Nat → Int32} {t : Tk} {k s e v fa : Int32} {P M : List (Nat × Nat)} {L : Nat}
theorem O6_pl {o : Nat} {f : Int32} {now : Nat → Int32} (h : O6p T n (rdPlaces T n o t P) now0 k s e v f fa now) (hv : RMv M now0) (hg : lOk P M L) (hl : now0 2 = nI L) : O6a T n (rdMp (rdPlaces T n o t P) M L) k s e v f fa now := by
  rcases h with ⟨t', P', h1, h2, h3, h4, h5, h6, h7⟩ | ⟨a, b, h1, h2, h3, h4, h5, h6⟩
  · have hlen := rdPlaces_len h1
    exact Or.inl ⟨t', P', M, L, by rw [h1]; rfl, h2, h3, h4, h5, RMv_of (by have := hg.1.2.1; omega) hv (h7 1 (by decide) (by omega)) (fun i c1 c2 => h7 i (by omega) (by omega)), ⟨gOk0_up hg.1 h6 hlen, hg.2.elim Or.inl (fun z => Or.inr (Nat.lt_of_lt_of_le z hlen))⟩, (h7 2 (by decide) (by omega)).trans hl⟩
  · exact Or.inr ⟨a, b, by rw [h1]; rfl, h2, h3, h4, h5, h6⟩
theorem O6_mv {f : Int32} {now : Nat → Int32} (h : O6m T n P (rdMoves T n P.length t M) now0 k s e v f fa now) (hg : lOk P M L) (hl : now0 2 = nI L) : O6a T n (rdMm (rdMoves T n P.length t M) P L) k s e v f fa now := by
  rcases h with ⟨t', M', h1, h2, h3, h4, h5, h6, h7, h8⟩ | ⟨a, b, h1, h2, h3, h4, h5, h6⟩
  · exact Or.inl ⟨t', P, M', L, by rw [h1]; rfl, h2, h3, h4, h5, h6, ⟨h7, hg.2⟩, (h8 2 (by decide) (by omega)).trans hl⟩
  · exact Or.inr ⟨a, b, by rw [h1]; rfl, h2, h3, h4, h5, h6⟩
end RD6C
