/-! a move of a place's loser changes no winner -/
theorem p_loser {n C p : Nat} {ow ca : Nat → Nat} {E E' : Nat → Nat → Prop} (ho : ∀ v, ow v < 2) (hC : ∀ v, ca v < C) (hE : ∀ v w, E v w → v < n ∧ w < n) (hs : ∀ v w, E' v w → E v w) (hne : ∀ v w, v ≠ p → E v w → E' v w) (hp : pWin ow ca E (1 - ow p) p) (u : Nat) (hu : u < n) : pWin ow ca E' 0 u ↔ pWin ow ca E 0 u := by
  obtain ⟨Sp, rp, hcp, hsp⟩ := hp
  have hop := ho p
  have key : ∀ i, i < 2 → pWin ow ca E i u → pWin ow ca E' i u := by
    rintro i hi ⟨S, r, hc, hsu⟩
    refine ⟨S, r, fun v hv => ?_, hsu⟩
    obtain ⟨c1, c2⟩ := hc v hv
    refine ⟨fun q => ?_, fun q w hw => c2 q w (hs v w hw)⟩
    obtain ⟨w, a, b⟩ := c1 q
    refine ⟨w, hne v w (fun e => ?_) a, b⟩
    -- the owner of p doesn't win p
    rcases (show ow p = 0 ∨ ow p = 1 by omega) with z | z
    · rw [z] at hcp
      have hi0 : i = 0 := by rw [← q, e, z]
      subst hi0
      exact p_apart ho hC hc hcp hv (by rw [e]; exact hsp)
    · rw [z] at hcp
      have hi1 : i = 1 := by rw [← q, e, z]
      subst hi1
      exact p_apart ho hC hcp hc (by rw [e]; exact hsp) hv
  have hE' : ∀ v w, E' v w → v < n ∧ w < n := fun v w h => hE v w (hs v w h)
  refine ⟨fun h => ?_, key 0 (by decide)⟩
  refine Classical.byContradiction fun z => ?_
  have h1 := (p_det ho hC hE u hu).mp z
  exact (p_det ho hC hE' u hu).mpr (key 1 (by decide) h1) h
/-- of equal moves there is but one -/
theorem lA_inj {mv : List (Nat × Nat)} (h : mv.Nodup) {j k : Nat} (hj : j < mv.length) (hk : k < mv.length) (ha : lA mv j = lA mv k) (hb : lB mv j = lB mv k) : j = k := by
  have e : mv[j] = mv[k] := by
    have e1 : mv.getD j (0, 0) = mv[j] := by rw [List.getD_eq_getElem?_getD, List.getElem?_eq_getElem hj]; rfl
    have e2 : mv.getD k (0, 0) = mv[k] := by rw [List.getD_eq_getElem?_getD, List.getElem?_eq_getElem hk]; rfl
    rw [← e1, ← e2]
    exact Prod.ext ha hb
  exact (List.getElem_inj h).mp e
/-- all moves but k -/
def lvBut (k : Nat) : Nat → Bool := fun j => decide (j ≠ k)
theorem gL_but {mv : List (Nat × Nat)} (h : mv.Nodup) {k v w : Nat} (hk : k < mv.length) : gL mv (lvBut k) v w ↔ gEd mv v w ∧ ¬ (v = lA mv k ∧ w = lB mv k) := by
  constructor
  · rintro ⟨j, a, b, c, d⟩
    refine ⟨⟨j, a, c, d⟩, fun ⟨e, f⟩ => ?_⟩
    have := lA_inj h a hk (by rw [c, e]) (by rw [d, f])
    unfold lvBut at b
    rw [decide_eq_true_eq] at b
    exact b this
  · rintro ⟨⟨j, a, c, d⟩, e⟩
    refine ⟨j, a, ?_, c, d⟩
    unfold lvBut
    rw [decide_eq_true_eq]
    rintro rfl
    exact e ⟨c.symm, d.symm⟩
/-! the reference's trap -/
def trapAt (pl mv : List (Nat × Nat)) (i : Nat) (x : Int32) (u : Nat) : Prop := (lA pl u = i → ∀ w, gEd mv u w → bt x w = true) ∧ (lA pl u ≠ i → ∃ w, gEd mv u w ∧ bt x w = true)
