/-! the changes that the law makes, and what wins behind them -/
section ACTM
variable {pl mv : List (Nat × Nat)}
theorem gEd_in {l : List (Nat × Nat)} {v w : Nat} : gEd l v w ↔ (v, w) ∈ l := by
  constructor
  · rintro ⟨k, hk, ha, hb⟩
    have := lAt hk
    rwa [show l.getD k (0, 0) = (v, w) from Prod.ext ha hb] at this
  · intro h
    obtain ⟨k, hk, e⟩ := List.getElem_of_mem h
    have e2 : l.getD k (0, 0) = (v, w) := by rw [List.getD_eq_getElem?_getD, List.getElem?_eq_getElem hk]; exact e
    exact ⟨k, hk, congrArg Prod.fst e2, congrArg Prod.snd e2⟩
theorem lA_el {l : List (Nat × Nat)} {k : Nat} (hk : k < l.length) : l[k] = (lA l k, lB l k) := by
  have e2 : l.getD k (0, 0) = l[k] := by rw [List.getD_eq_getElem?_getD, List.getElem?_eq_getElem hk]; rfl
  unfold lA lB
  rw [e2]
theorem gEd_rem {l : List (Nat × Nat)} (h : l.Nodup) {k : Nat} (hk : k < l.length) {v w : Nat} : gEd (l.eraseIdx k) v w ↔ gEd l v w ∧ ¬ (v = lA l k ∧ w = lB l k) := by
  rw [gEd_in, gEd_in, List.mem_eraseIdx_iff_getElem?]
  have ek := lA_el hk
  constructor
  · rintro ⟨i, hi, e⟩
    obtain ⟨hil, e2⟩ := List.getElem?_eq_some_iff.mp e
    refine ⟨by rw [← e2]; exact List.getElem_mem hil, fun q => hi ?_⟩
    have : l[i] = l[k] := by rw [e2, ek, q.1, q.2]
    have hp := List.pairwise_iff_getElem.mp h
    rcases Nat.lt_trichotomy i k with y | y | y
    · exact absurd this (hp i k hil hk y)
    · exact y
    · exact absurd this.symm (hp k i hk hil y)
  · rintro ⟨h1, h2⟩
    obtain ⟨i, hi, e⟩ := List.getElem_of_mem h1
    refine ⟨i, fun q => ?_, by rw [List.getElem?_eq_getElem hi, e]⟩
    subst q
    rw [ek] at e
    exact h2 ⟨(congrArg Prod.fst e).symm, (congrArg Prod.snd e).symm⟩
theorem gEd_add {l : List (Nat × Nat)} {a b v w : Nat} : gEd (l ++ [(a, b)]) v w ↔ gEd l v w ∨ (v = a ∧ w = b) := by
  rw [gEd_in, gEd_in, List.mem_append, List.mem_singleton]
  constructor
  · rintro (h | h)
    · exact Or.inl h
    · exact Or.inr ⟨congrArg Prod.fst h, congrArg Prod.snd h⟩
  · rintro (h | ⟨rfl, rfl⟩)
    · exact Or.inl h
    · exact Or.inr rfl
theorem gEd_pref {l : List (Nat × Nat)} {k : Nat} (hk : k < l.length) {v w : Nat} : gEd (lFront l k) v w ↔ gEd l v w := by
  rw [gEd_in, gEd_in]
  refine ⟨mem_front hk, fun h => ?_⟩
  obtain ⟨i, hi, e⟩ := List.getElem_of_mem h
  unfold lFront
  by_cases q : i = k
  · subst q
    have e2 : l.getD i (0, 0) = (v, w) := by rw [List.getD_eq_getElem?_getD, List.getElem?_eq_getElem hi]; exact e
    rw [e2]
    exact List.mem_cons_self
  · exact List.mem_cons_of_mem _ (List.mem_eraseIdx_iff_getElem?.mpr ⟨i, q, by rw [List.getElem?_eq_getElem hi, e]⟩)
theorem gW_rem (h : mv.Nodup) {k i u : Nat} (hk : k < mv.length) : gW pl (mv.eraseIdx k) allL i u ↔ gW pl mv (lvBut k) i u := by
  have e : gL (mv.eraseIdx k) allL = gL mv (lvBut k) := funext fun v => funext fun w => propext (by rw [gL_all, gEd_rem h hk, gL_but h hk])
  unfold gW
  rw [e]
theorem gW_add {a b i u : Nat} : gW pl (mv ++ [(a, b)]) allL i u ↔ gWj pl mv a b i u := by
  have e : gL (mv ++ [(a, b)]) allL = fun v w => gEd mv v w ∨ (v = a ∧ w = b) := funext fun v => funext fun w => propext (by rw [gL_all, gEd_add])
  unfold gW gWj
  rw [e]
theorem gW_same {a b i u : Nat} (h : gEd mv a b) : gW pl mv allL i u ↔ gWj pl mv a b i u := by
  have e : gL mv allL = fun v w => gEd mv v w ∨ (v = a ∧ w = b) := funext fun v => funext fun w => propext (by
    rw [gL_all]
    exact ⟨Or.inl, fun q => q.elim id (fun ⟨x, y⟩ => by rw [x, y]; exact h)⟩)
  unfold gW gWj
  rw [e]
theorem gW_pref {k i u : Nat} (hk : k < mv.length) : gW pl (lFront mv k) allL i u ↔ gW pl mv allL i u := by
  have e : gL (lFront mv k) allL = gL mv allL := funext fun v => funext fun w => propext (by rw [gL_all, gL_all, gEd_pref hk])
  unfold gW
  rw [e]
/-- players exchanged: who won for one wins for the other -/
theorem gW_exch1 (hg : gOk0 pl mv) {i u : Nat} (hi : i < 2) (h : gW pl mv allL i u) : gW (pl.map exP) mv allL (1 - i) u := by
  obtain ⟨hu, S, r, hc, hs⟩ := h
  refine ⟨by rw [List.length_map]; exact hu, fun v => S v ∧ v < pl.length, fun p v => r (p - 1) v, ?_, hs, hu⟩
  rintro v ⟨hv, hvn⟩
  obtain ⟨e1, e2⟩ := lMapE hvn
  have ho := (gOk0_ow hg v).1
  have ok : ∀ w, pOk (lB pl) i r v w → pOk (lB (pl.map exP)) (1 - i) (fun p v => r (p - 1) v) v w := by
    intro w hk p hp hle
    rw [e2] at hle ⊢
    have := hk (p - 1) (by omega) (by omega)
    by_cases q : lB pl v = p - 1
    · rw [if_pos q] at this
      rw [if_pos (by omega)]
      exact this
    · rw [if_neg q] at this
      rw [if_neg (by omega)]
      exact this
  refine ⟨fun q => ?_, fun q w e => ?_⟩
  · obtain ⟨w, e, hw, hk⟩ := (hc v hv).1 (by omega)
    have e' := e
    rw [gL_all] at e'
    exact ⟨w, e, ⟨hw, (gEd_lt hg e').2⟩, ok w hk⟩
  · have e' := e
    rw [gL_all] at e'
    obtain ⟨hw, hk⟩ := (hc v hv).2 (by omega) w e
    exact ⟨⟨hw, (gEd_lt hg e').2⟩, ok w hk⟩
theorem gW_exch (hg : gOk0 pl mv) (hg2 : gOk0 (pl.map exP) mv) {u : Nat} : gW (pl.map exP) mv allL 0 u ↔ gW pl mv allL 1 u := by
  refine ⟨fun h => ?_, fun h => gW_exch1 (i := 1) hg (by decide) h⟩
  have hu : u < pl.length := by
    have := h.1
    rwa [List.length_map] at this
  by_cases q : gW pl mv allL 1 u
  · exact q
  · have h0 : gW pl mv allL 0 u := by
      by_cases y : gW pl mv allL 0 u
      · exact y
      · exact absurd ((gW_det hg hu).mp y) q
    exact absurd h ((gW_det hg2 h.1).mpr (gW_exch1 (i := 0) hg (by decide) h0))
/-- running -/
theorem rnEnd_ex (pl mv : List (Nat × Nat)) (s : Nat) : ∀ m, ∃ j, rnEnd pl mv s m j
  | 0 => ⟨0, Nat.le_refl _, fun i hi => absurd hi (Nat.not_lt_zero _), Or.inl rfl⟩
  | m + 1 => by
    obtain ⟨j, h1, h2, h3⟩ := rnEnd_ex pl mv s m
    rcases h3 with h3 | h3
    · subst h3
      by_cases q : plV pl mv (plTr pl mv s j) = -1
      · exact ⟨j, by omega, h2, Or.inr q⟩
      · exact ⟨j + 1, Nat.le_refl _, foGo_one h2 q, Or.inl rfl⟩
    · exact ⟨j, by omega, h2, Or.inr h3⟩
theorem rnJ_ok (pl mv : List (Nat × Nat)) (s m : Nat) : rnEnd pl mv s m (rnJ pl mv s m) := Classical.epsilon_spec (rnEnd_ex pl mv s m)
theorem rnJ_all {s m : Nat} (h : foGo pl mv s m) : rnJ pl mv s m = m := rnJ_eq ⟨Nat.le_refl _, h, Or.inl rfl⟩
theorem rnJ_not {s m : Nat} (h : ¬ foGo pl mv s m) : rnJ pl mv s m < m := by
  have e := rnJ_ok pl mv s m
  rcases Nat.lt_or_ge (rnJ pl mv s m) m with q | q
  · exact q
  · exact absurd (by
      have := e.2.1
      rwa [show rnJ pl mv s m = m from Nat.le_antisymm e.1 q] at this) h
theorem sz_5 {g : gm} : szV g 5 = nI (pMax (lB g.1) g.1.length) := (if_neg (by decide)).trans ((if_neg (by decide)).trans ((if_neg (by decide)).trans ((if_neg (by decide)).trans ((if_neg (by decide)).trans (if_pos rfl)))))
theorem sz_6 {g : gm} : szV g 6 = nI g.2.2.1 := (if_neg (by decide)).trans ((if_neg (by decide)).trans ((if_neg (by decide)).trans ((if_neg (by decide)).trans ((if_neg (by decide)).trans ((if_neg (by decide)).trans (if_pos rfl))))))
theorem sz_7 {g : gm} : szV g 7 = g.2.2.2.1 := (if_neg (by decide)).trans ((if_neg (by decide)).trans ((if_neg (by decide)).trans ((if_neg (by decide)).trans ((if_neg (by decide)).trans ((if_neg (by decide)).trans (if_neg (by decide)))))))
end ACTM
