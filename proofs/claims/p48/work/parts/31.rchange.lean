/-! the reference's row: changes -/
theorem RMp_of {pl : List (Nat × Nat)} {now now' : Nat → Int32} (hn : pl.length ≤ 20) (h : RMp pl now) (e0 : now' 0 = now 0) (e : ∀ i, 4 ≤ i → i < 44 → now' i = now i) : RMp pl now' :=
  ⟨by rw [e0]; exact h.1, fun u hu => by
    rw [e (4 + u) (by omega) (by omega), e (24 + u) (by omega) (by omega)]
    exact h.2 u hu⟩
theorem RMv_of {mv : List (Nat × Nat)} {now now' : Nat → Int32} (hm : mv.length ≤ 61) (h : RMv mv now) (e1 : now' 1 = now 1) (e : ∀ i, 44 ≤ i → i < 166 → now' i = now i) : RMv mv now' :=
  ⟨by rw [e1]; exact h.1, fun u hu => by
    rw [e (44 + u) (by omega) (by omega), e (105 + u) (by omega) (by omega)]
    exact h.2 u hu⟩
theorem RMt_of {tk : Nat} {md : Int32} {hd now now' : Nat → Int32} (h : RMt tk md hd now) (e2 : now' 2 = now 2) (e3 : now' 3 = now 3) (e : ∀ i, 166 ≤ i → i < 176 → now' i = now i) : RMt tk md hd now' :=
  ⟨by rw [e2]; exact h.1, by rw [e3]; exact h.2.1, fun u hu => by
    rw [e (166 + u) (by omega) (by omega)]
    exact h.2.2 u hu⟩
theorem RM_of {g : gm} {now now' : Nat → Int32} (hg : g.1.length ≤ 20 ∧ g.2.1.length ≤ 60) (h : RM g now) (e : ∀ i, i < 176 → now' i = now i) : RM g now' :=
  ⟨RMp_of hg.1 h.1 (e 0 (by decide)) (fun i _ _ => e i (by omega)), RMv_of (by omega) h.2.1 (e 1 (by decide)) (fun i _ _ => e i (by omega)), RMt_of h.2.2 (e 2 (by decide)) (e 3 (by decide)) (fun i _ a => e i a)⟩
