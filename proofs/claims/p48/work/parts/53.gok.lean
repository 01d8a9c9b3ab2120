/-! THE CHANGES: what each makes of a game -/
abbrev hT : Type := (Nat → Int32) → (Nat → Int32) → (Nat → Int32) → (Nat → Int32) → (Nat → Int32) → (Nat → Nat → Int32) → (Nat → Nat → Int32) → (Nat → Nat → Int32) → (Nat → Nat → Int32) → Prop
def gAddPlace (g : gm) (o c : Nat) : gm := (g.1 ++ [(o, c)], g.2.1, g.2.2)
def gRemPlace (g : gm) (p : Nat) : gm := (g.1.eraseIdx p, (g.2.1.filter (keepP p)).map (dcP p), 0, 0, hdLay (g.1.eraseIdx p) 0)
def gSetOwner (g : gm) (p o : Nat) : gm := (g.1.set p (o, lB g.1 p), g.2.1, g.2.2)
def gSetCall (g : gm) (p c : Nat) : gm := (g.1.set p (lA g.1 p, c), g.2.1, g.2.2)
def gAddMove (g : gm) (a b : Nat) : gm := (g.1, g.2.1 ++ [(a, b)], g.2.2)
def gRemMove (g : gm) (k : Nat) : gm := (g.1, g.2.1.eraseIdx k, g.2.2)
def gPref (g : gm) (k : Nat) : gm := (g.1, lFront g.2.1 k, g.2.2)
def gExch (g : gm) : gm := (g.1.map exP, g.2.1, 0, 0, hdLay (g.1.map exP) 0)
def gLay (g : gm) (p : Nat) : gm := (g.1, g.2.1, p, 0, hdLay g.1 p)
def gGo (g : gm) (k : Nat) : gm := (g.1, g.2.1, lB g.2.1 k, g.2.2.2.1 + 1, hdStep g.1 (lB g.2.1 k) g.2.2.2.2)
theorem gOk_pl {g : gm} (h : gOk g) (u : Nat) : lA g.1 u < 2 ∧ lB g.1 u < 10 := gOk0_ow h.1 u
theorem gOk_addPlace {g : gm} {o c : Nat} (h : gOk g) (hn : g.1.length < 20) (ho : o < 2) (hc : c < 10) : gOk (gAddPlace g o c) := by
  obtain ⟨⟨h1, h2, h3, h4, h5⟩, h6, h7⟩ := h
  refine ⟨⟨?_, h2, fun q hq => ?_, fun q hq => ?_, h5⟩, ?_, ?_⟩
  · show (g.1 ++ [(o, c)]).length ≤ 20
    rw [List.length_append, List.length_singleton]; omega
  · rcases List.mem_append.mp hq with y | y
    · exact h3 q y
    · rw [List.mem_singleton.mp y]; exact ⟨ho, hc⟩
  · have := h4 q hq
    show q.1 < (g.1 ++ [(o, c)]).length ∧ q.2 < (g.1 ++ [(o, c)]).length
    rw [List.length_append, List.length_singleton]
    omega
  · show 1 ≤ (g.1 ++ [(o, c)]).length
    rw [List.length_append, List.length_singleton]; omega
  · show g.2.2.1 < (g.1 ++ [(o, c)]).length
    rw [List.length_append, List.length_singleton]; omega
theorem gOk_set {g : gm} {p : Nat} {q : Nat × Nat} (h : gOk g) (h1 : q.1 < 2) (h2 : q.2 < 10) : gOk (g.1.set p q, g.2.1, g.2.2) :=
  ⟨gOk0_set h.1 h1 h2, by show 1 ≤ (g.1.set p q).length; rw [List.length_set]; exact h.2.1, by show g.2.2.1 < (g.1.set p q).length; rw [List.length_set]; exact h.2.2⟩
theorem dcP_lt {p n : Nat} {q : Nat × Nat} (hk : keepP p q = true) (h : q.1 < n + 1 ∧ q.2 < n + 1) (hp : p < n + 1) : (dcP p q).1 < n ∧ (dcP p q).2 < n := by
  unfold keepP at hk
  rw [Bool.and_eq_true, Bool.not_eq_true', Bool.not_eq_true', decide_eq_false_iff_not, decide_eq_false_iff_not] at hk
  unfold dcP dcN
  refine ⟨?_, ?_⟩
  · show (if p < q.1 then q.1 - 1 else q.1) < n
    split <;> omega
  · show (if p < q.2 then q.2 - 1 else q.2) < n
    split <;> omega
theorem dcP_inj {p : Nat} {q q' : Nat × Nat} (hk : keepP p q = true) (hk' : keepP p q' = true) (h : dcP p q = dcP p q') : q = q' := by
  unfold keepP at hk hk'
  rw [Bool.and_eq_true, Bool.not_eq_true', Bool.not_eq_true', decide_eq_false_iff_not, decide_eq_false_iff_not] at hk hk'
  unfold dcP dcN at h
  have h1 := congrArg Prod.fst h
  have h2 := congrArg Prod.snd h
  have h1 : (if p < q.1 then q.1 - 1 else q.1) = (if p < q'.1 then q'.1 - 1 else q'.1) := h1
  have h2 : (if p < q.2 then q.2 - 1 else q.2) = (if p < q'.2 then q'.2 - 1 else q'.2) := h2
  refine Prod.ext ?_ ?_
  · split at h1 <;> split at h1 <;> omega
  · split at h2 <;> split at h2 <;> omega
theorem nodup_map {f : Nat × Nat → Nat × Nat} : ∀ {l : List (Nat × Nat)}, l.Nodup → (∀ x ∈ l, ∀ y ∈ l, f x = f y → x = y) → (l.map f).Nodup
  | [], _, _ => List.nodup_nil
  | a :: l, h, hi => by
    rw [List.map_cons, List.nodup_cons]
    rw [List.nodup_cons] at h
    refine ⟨fun q => ?_, nodup_map h.2 (fun x hx y hy e => hi x (List.mem_cons_of_mem _ hx) y (List.mem_cons_of_mem _ hy) e)⟩
    obtain ⟨x, hx, e⟩ := List.mem_map.mp q
    have := hi x (List.mem_cons_of_mem _ hx) a List.mem_cons_self e
    rw [this] at hx
    exact h.1 hx
theorem gOk_remPlace {g : gm} {p : Nat} (h : gOk g) (hn : ¬ g.1.length = 1) (hp : p < g.1.length) : gOk (gRemPlace g p) := by
  obtain ⟨⟨h1, h2, h3, h4, h5⟩, h6, h7⟩ := h
  obtain ⟨n, hN⟩ : ∃ n, g.1.length = n + 1 := ⟨g.1.length - 1, by omega⟩
  have hl : (g.1.eraseIdx p).length = n := by rw [List.length_eraseIdx, if_pos hp, hN]; rfl
  refine ⟨⟨?_, ?_, fun q hq => h3 q (List.mem_of_mem_eraseIdx hq), fun q hq => ?_, ?_⟩, ?_, ?_⟩
  · show (g.1.eraseIdx p).length ≤ 20
    omega
  · show ((g.2.1.filter (keepP p)).map (dcP p)).length ≤ 60
    rw [List.length_map]
    exact Nat.le_trans (List.length_filter_le _ _) h2
  · obtain ⟨x, hx, rfl⟩ := List.mem_map.mp hq
    obtain ⟨hx, hk⟩ := List.mem_filter.mp hx
    have := h4 x hx
    show (dcP p x).1 < (g.1.eraseIdx p).length ∧ (dcP p x).2 < (g.1.eraseIdx p).length
    rw [hl]
    exact dcP_lt hk (by omega) (by omega)
  · exact nodup_map (List.Nodup.sublist List.filter_sublist h5) (fun x hx y hy e => dcP_inj (List.mem_filter.mp hx).2 (List.mem_filter.mp hy).2 e)
  · show 1 ≤ (g.1.eraseIdx p).length
    omega
  · show 0 < (g.1.eraseIdx p).length
    omega
theorem gOk_addMove {g : gm} {a b : Nat} (h : gOk g) (hm : g.2.1.length < 60) (ha : a < g.1.length) (hb : b < g.1.length) (hno : ¬ gEd g.2.1 a b) : gOk (gAddMove g a b) := by
  obtain ⟨⟨h1, h2, h3, h4, h5⟩, h6, h7⟩ := h
  refine ⟨⟨h1, ?_, h3, fun q hq => ?_, ?_⟩, h6, h7⟩
  · show (g.2.1 ++ [(a, b)]).length ≤ 60
    rw [List.length_append, List.length_singleton]; omega
  · rcases List.mem_append.mp hq with y | y
    · exact h4 q y
    · rw [List.mem_singleton.mp y]; exact ⟨ha, hb⟩
  · show (g.2.1 ++ [(a, b)]).Nodup
    rw [List.nodup_append]
    refine ⟨h5, List.nodup_cons.mpr ⟨List.not_mem_nil, List.nodup_nil⟩, fun x hx y hy e => ?_⟩
    rw [List.mem_singleton.mp hy] at e
    rw [e] at hx
    obtain ⟨k, hk, e2⟩ := List.getElem_of_mem hx
    refine hno ⟨k, hk, ?_, ?_⟩
    · unfold lA; rw [List.getD_eq_getElem?_getD, List.getElem?_eq_getElem hk, e2]; rfl
    · unfold lB; rw [List.getD_eq_getElem?_getD, List.getElem?_eq_getElem hk, e2]; rfl
theorem gOk_remMove {g : gm} {k : Nat} (h : gOk g) : gOk (gRemMove g k) := by
  obtain ⟨⟨h1, h2, h3, h4, h5⟩, h6, h7⟩ := h
  refine ⟨⟨h1, ?_, h3, fun q hq => h4 q (List.mem_of_mem_eraseIdx hq), ?_⟩, h6, h7⟩
  · show (g.2.1.eraseIdx k).length ≤ 60
    exact Nat.le_trans (List.length_eraseIdx_le _ _) h2
  · exact List.Nodup.sublist (List.eraseIdx_sublist _ _) h5
theorem mem_front {l : List (Nat × Nat)} {d : Nat} {q : Nat × Nat} (hd : d < l.length) (h : q ∈ lFront l d) : q ∈ l := by
  rcases List.mem_cons.mp h with y | y
  · rw [y]; exact lAt hd
  · exact List.mem_of_mem_eraseIdx y
theorem nodup_front : ∀ {l : List (Nat × Nat)} {d : Nat}, d < l.length → l.Nodup → (lFront l d).Nodup := by
  intro l d hd h
  refine List.nodup_cons.mpr ⟨fun q => ?_, List.Nodup.sublist (List.eraseIdx_sublist _ _) h⟩
  have e : l.getD d (0, 0) = l[d] := by rw [List.getD_eq_getElem?_getD, List.getElem?_eq_getElem hd]; rfl
  rw [e] at q
  obtain ⟨i, hne, hi⟩ := List.mem_eraseIdx_iff_getElem?.mp q
  have hlt : i < l.length := by
    rcases Nat.lt_or_ge i l.length with z | z
    · exact z
    · rw [List.getElem?_eq_none z] at hi; cases hi
  rw [List.getElem?_eq_getElem hlt] at hi
  exact hne (lA_inj h hlt hd (by unfold lA; rw [List.getD_eq_getElem?_getD, List.getD_eq_getElem?_getD, List.getElem?_eq_getElem hlt, List.getElem?_eq_getElem hd, Option.some.inj hi]) (by unfold lB; rw [List.getD_eq_getElem?_getD, List.getD_eq_getElem?_getD, List.getElem?_eq_getElem hlt, List.getElem?_eq_getElem hd, Option.some.inj hi]))
theorem gOk_pref {g : gm} {k : Nat} (h : gOk g) (hk : k < g.2.1.length) : gOk (gPref g k) := by
  obtain ⟨⟨h1, h2, h3, h4, h5⟩, h6, h7⟩ := h
  refine ⟨⟨h1, ?_, h3, fun q hq => h4 q (mem_front hk hq), nodup_front hk h5⟩, h6, h7⟩
  show (lFront g.2.1 k).length ≤ 60
  rw [lFront_len hk]; exact h2
theorem pMax_ge {f : Nat → Nat} : ∀ n k, k < n → f k ≤ pMax f n
  | 0, k, h => absurd h (Nat.not_lt_zero k)
  | n + 1, k, h => by
    simp only [pMax]
    rcases Nat.lt_or_ge k n with z | z
    · have := pMax_ge (f := f) n k z
      split <;> omega
    · have : k = n := by omega
      subst this
      split <;> omega
theorem gOk_exch {g : gm} (h : gOk g) (hc : pMax (lB g.1) g.1.length < 9) : gOk (gExch g) := by
  obtain ⟨⟨h1, h2, h3, h4, h5⟩, h6, h7⟩ := h
  refine ⟨⟨?_, h2, fun q hq => ?_, fun q hq => ?_, h5⟩, ?_, ?_⟩
  · show (g.1.map exP).length ≤ 20
    rw [List.length_map]; exact h1
  · obtain ⟨x, hx, rfl⟩ := List.mem_map.mp hq
    have := h3 x hx
    obtain ⟨k, hk, e2⟩ := List.getElem_of_mem hx
    have hle : lB g.1 k ≤ pMax (lB g.1) g.1.length := pMax_ge _ k hk
    have e3 : lB g.1 k = x.2 := by unfold lB; rw [List.getD_eq_getElem?_getD, List.getElem?_eq_getElem hk, e2]; rfl
    exact ⟨by show 1 - x.1 < 2; omega, by show x.2 + 1 < 10; omega⟩
  · have := h4 q hq
    show q.1 < (g.1.map exP).length ∧ q.2 < (g.1.map exP).length
    rw [List.length_map]; exact this
  · show 1 ≤ (g.1.map exP).length
    rw [List.length_map]; exact h6
  · show 0 < (g.1.map exP).length
    rw [List.length_map]; exact h6
theorem gOk_lay {g : gm} {p : Nat} (h : gOk g) (hp : p < g.1.length) : gOk (gLay g p) := ⟨h.1, h.2.1, hp⟩
theorem gOk_go {g : gm} {k : Nat} (h : gOk g) (hk : k < g.2.1.length) : gOk (gGo g k) := ⟨h.1, h.2.1, (gOk0_mv h.1 hk).2⟩
