/-! WHAT IS KEPT FOR UNDO: the games, the oldest first -/
def hPush (hs : List gm) (g : gm) : List gm := (if hs.length = 10 then hs.tail else hs) ++ [g]
theorem hPush_len {hs : List gm} {g : gm} (h : hs.length ≤ 10) : (hPush hs g).length ≤ 10 ∧ (hPush hs g).length = if hs.length = 10 then 10 else hs.length + 1 := by
  unfold hPush
  split
  · rw [List.length_append, List.length_tail, List.length_singleton]
    omega
  · rw [List.length_append, List.length_singleton]
    omega
theorem hPush_ok {hs : List gm} {g : gm} (h : ∀ q ∈ hs, gOk q) (hg : gOk g) : ∀ q ∈ hPush hs g, gOk q := by
  intro q hq
  unfold hPush at hq
  rcases List.mem_append.mp hq with y | y
  · split at y
    · exact h q (List.mem_of_mem_tail y)
    · exact h q y
  · rw [List.mem_singleton.mp y]; exact hg
theorem hPush_get {hs : List gm} {g q : gm} {j : Nat} (hl : hs.length ≤ 10) (h : (hPush hs g)[j]? = some q) : (q = g ∧ (hPush hs g).length = j + 1) ∨ (hs[if hs.length = 10 then j + 1 else j]? = some q ∧ j + 1 < (hPush hs g).length) := by
  have hlen := (hPush_len (g := g) hl).2
  unfold hPush at h
  by_cases z : hs.length = 10
  · rw [if_pos z] at hlen h ⊢
    by_cases y : j < 9
    · rw [List.getElem?_append_left (by rw [List.length_tail]; omega), List.getElem?_tail] at h
      exact Or.inr ⟨h, by omega⟩
    · rw [List.getElem?_append_right (by rw [List.length_tail]; omega), List.length_tail, z] at h
      by_cases x : j = 9
      · subst x
        exact Or.inl ⟨(Option.some.inj h).symm, hlen⟩
      · rw [List.getElem?_eq_none (by rw [List.length_singleton]; omega)] at h
        cases h
  · rw [if_neg z] at hlen h ⊢
    by_cases y : j < hs.length
    · rw [List.getElem?_append_left y] at h
      exact Or.inr ⟨h, by omega⟩
    · rw [List.getElem?_append_right (by omega)] at h
      by_cases x : j = hs.length
      · subst x
        rw [Nat.sub_self] at h
        exact Or.inl ⟨(Option.some.inj h).symm, hlen⟩
      · rw [List.getElem?_eq_none (by rw [List.length_singleton]; omega)] at h
        cases h
theorem i_subn {a b : Nat} (h : b ≤ a) : nI a - nI b = nI (a - b) := by
  rw [show nI a = nI (a - b) + nI b by rw [nI_add, Nat.sub_add_cancel h], Int32.add_sub_cancel]
theorem i_mul (a b : Nat) : nI a * nI b = nI (a * b) := (Int32.ofNat_mul a b).symm
/-- the reference's -/
def RHm (hs : List gm) (many : Int32) (old : Nat → Int32) : Prop := many = nI hs.length ∧ hs.length ≤ 10 ∧ (∀ q ∈ hs, gOk q) ∧ ∀ j q, hs[j]? = some q → RM q (fun k => old (j * 176 + k))
theorem gOk_sz {g : gm} (h : gOk g) : g.1.length ≤ 20 ∧ g.2.1.length ≤ 60 := ⟨h.1.1, h.1.2.1⟩
/-- the class's: a ring of ten -/
def RHc (hs : List gm) (first kept : Int32) (rp ro rm rt rd : Nat → Int32) (rc rf rh re : Nat → Nat → Int32) : Prop :=
  (∃ f, f < 10 ∧ first = nI f ∧ kept = nI hs.length ∧ ∀ j q, hs[j]? = some q → RG q (rp ((f + j) % 10)) (ro ((f + j) % 10)) (rm ((f + j) % 10)) (rt ((f + j) % 10)) (rd ((f + j) % 10)) (rc ((f + j) % 10)) (rf ((f + j) % 10)) (rh ((f + j) % 10)) (re ((f + j) % 10))) ∧ hs.length ≤ 10 ∧ ∀ q ∈ hs, gOk q
theorem x2_keep {hs : List gm} {g : gm} {places odd moves token made first kept : Int32} {calls fr heard to : Nat → Int32} {rp ro rm rt rd : Nat → Int32} {rc rf rh re : Nat → Nat → Int32} {post : Int32 → Int32 → (Nat → Int32) → (Nat → Int32) → (Nat → Int32) → (Nat → Int32) → (Nat → Int32) → (Nat → Nat → Int32) → (Nat → Nat → Int32) → (Nat → Nat → Int32) → (Nat → Nat → Int32) → Prop}
    (hH : RHc hs first kept rp ro rm rt rd rc rf rh re) (hg : gOk g) (hr : RG g places odd moves token made calls fr heard to)
    (h : ∀ f' k' p' o' m' t' d' c' r' h' e', RHc (hPush hs g) f' k' p' o' m' t' d' c' r' h' e' → post f' k' p' o' m' t' d' c' r' h' e') : wp_X2_keep places odd moves token made first kept calls fr heard to rp ro rm rt rd rc rf rh re post := by
  obtain ⟨⟨f, hf, rfl, rfl, hring⟩, hl, hok⟩ := hH
  have hlen := hPush_len (g := g) hl
  have hrem : ∀ x, x < 100 → nI x - nI x / (10 : Int32) * (10 : Int32) = nI (x % 10) := fun x hx => pk_rem (d := 10) (by omega) (by decide) (by decide)
  unfold wp_X2_keep
  rw [nI_add, nI_1, nI_1, hrem _ (by omega), hrem _ (by omega)]
  have key : ∀ s, s < 10 → nI ((f + hs.length) % 10) = nI s → wp_X1_copy places odd moves token made calls fr heard to (rc s) (rf s) (rh s) (re s) (fun p1 o1 m1 t1 d1 c1 r1 h1 e1 =>
      ((nI 10 ≤ nI hs.length → post (nI ((f + 1) % 10)) (nI hs.length) (va_up rp s p1) (va_up ro s o1) (va_up rm s m1) (va_up rt s t1) (va_up rd s d1) (va_up rc s c1) (va_up rf s r1) (va_up rh s h1) (va_up re s e1)) ∧
        (¬ nI 10 ≤ nI hs.length → post (nI f) (nI (hs.length + 1)) (va_up rp s p1) (va_up ro s o1) (va_up rm s m1) (va_up rt s t1) (va_up rd s d1) (va_up rc s c1) (va_up rf s r1) (va_up rh s h1) (va_up re s e1)))) := by
    intro s hs10 es
    have es := (nI_eq (by omega) (by omega)).mp es
    refine x1_copy (gOk_sz hg) hr (fun p1 o1 m1 t1 d1 c1 r1 h1 e1 hnew => ⟨fun q => h _ _ _ _ _ _ _ _ _ _ _ ?_, fun q => h _ _ _ _ _ _ _ _ _ _ _ ?_⟩)
    · have he : hs.length = 10 := by
        have := (nI_leI (a := 10) (b := hs.length) (by decide) (by omega)).mp q
        omega
      refine ⟨⟨(f + 1) % 10, by omega, rfl, by rw [hlen.2, if_pos he, he], fun j y hy => ?_⟩, hlen.1, hPush_ok hok hg⟩
      rcases hPush_get hl hy with ⟨rfl, e⟩ | ⟨e, e2⟩
      · rw [hlen.2, if_pos he] at e
        have ej : ((f + 1) % 10 + j) % 10 = s := by omega
        rw [ej]
        simp only [va_up_self]
        exact hnew
      · rw [if_pos he] at e
        rw [hlen.2, if_pos he] at e2
        have ej : ((f + 1) % 10 + j) % 10 = (f + (j + 1)) % 10 := by omega
        have ne : (f + (j + 1)) % 10 ≠ s := by omega
        rw [ej]
        simp only [va_up_ne _ _ ne]
        exact hring (j + 1) y e
    · have hne : ¬ hs.length = 10 := fun e => q (by rw [e]; exact Int32.le_refl _)
      refine ⟨⟨f, hf, rfl, by rw [hlen.2, if_neg hne], fun j y hy => ?_⟩, hlen.1, hPush_ok hok hg⟩
      rcases hPush_get hl hy with ⟨rfl, e⟩ | ⟨e, e2⟩
      · rw [hlen.2, if_neg hne] at e
        have ej : (f + j) % 10 = s := by
          have : j = hs.length := by omega
          rw [this]; exact es
        rw [ej]
        simp only [va_up_self]
        exact hnew
      · rw [if_neg hne] at e
        rw [hlen.2, if_neg hne] at e2
        have ne : (f + j) % 10 ≠ s := by omega
        simp only [va_up_ne _ _ ne]
        exact hring j y e
  refine ⟨vp_in_nI (by omega) (by decide), fun q => key 0 (by decide) q, fun q => key 1 (by decide) q, fun q => key 2 (by decide) q, fun q => key 3 (by decide) q, fun q => key 4 (by decide) q, fun q => key 5 (by decide) q, fun q => key 6 (by decide) q, fun q => key 7 (by decide) q, fun q => key 8 (by decide) q, fun q => key 9 (by decide) q⟩
theorem x2_takeLatest {hs : List gm} {g : gm} {places odd moves token made first kept : Int32} {calls fr heard to : Nat → Int32} {rp ro rm rt rd : Nat → Int32} {rc rf rh re : Nat → Nat → Int32} {post : Int32 → Int32 → Int32 → Int32 → Int32 → Int32 → (Nat → Int32) → (Nat → Int32) → (Nat → Int32) → (Nat → Int32) → Prop}
    (hH : RHc (hs ++ [g]) first kept rp ro rm rt rd rc rf rh re) 
    (h : ∀ p1 o1 m1 t1 d1 k' c1 r1 h1 e1, RG g p1 o1 m1 t1 d1 c1 r1 h1 e1 → RHc hs first k' rp ro rm rt rd rc rf rh re → post p1 o1 m1 t1 d1 k' c1 r1 h1 e1) : wp_X2_takeLatest places odd moves token made first kept calls fr heard to rp ro rm rt rd rc rf rh re post := by
  obtain ⟨⟨f, hf, rfl, rfl, hring⟩, hl, hok⟩ := hH
  rw [List.length_append, List.length_singleton] at hl
  have hg : gOk g := hok g (List.mem_append.mpr (Or.inr (List.mem_singleton.mpr rfl)))
  have hrem : ∀ x, x < 100 → nI x - nI x / (10 : Int32) * (10 : Int32) = nI (x % 10) := fun x hx => pk_rem (d := 10) (by omega) (by decide) (by decide)
  have hnew : RHc hs (nI f) (nI hs.length) rp ro rm rt rd rc rf rh re := ⟨⟨f, hf, rfl, rfl, fun j q hq => hring j q (by
    have hj : j < hs.length := by
      rcases Nat.lt_or_ge j hs.length with y | y
      · exact y
      · rw [List.getElem?_eq_none y] at hq; cases hq
    rw [List.getElem?_append_left hj]; exact hq)⟩, by omega, fun q hq => hok q (List.mem_append.mpr (Or.inl hq))⟩
  have hgl := hring hs.length g (by rw [List.getElem?_append_right (Nat.le_refl _), Nat.sub_self]; rfl)
  unfold wp_X2_takeLatest
  rw [List.length_append, List.length_singleton, i_sub1, nI_add, hrem _ (by omega)]
  refine ⟨fun q => absurd q (nI_ge (Nat.succ_pos _) (by omega)), fun _ => ?_⟩
  have key : ∀ s, s < 10 → nI ((f + hs.length) % 10) = nI s → wp_X1_copy (rp s) (ro s) (rm s) (rt s) (rd s) (rc s) (rf s) (rh s) (re s) calls fr heard to (fun p1 o1 m1 t1 d1 c1 r1 h1 e1 => post p1 o1 m1 t1 d1 (nI hs.length) c1 r1 h1 e1) := by
    intro s hs10 es
    have es := (nI_eq (by omega) (by omega)).mp es
    rw [es] at hgl
    exact x1_copy (gOk_sz hg) hgl (fun p1 o1 m1 t1 d1 c1 r1 h1 e1 hn => h _ _ _ _ _ _ _ _ _ _ hn hnew)
  refine ⟨vp_in_nI (by omega) (by decide), fun q => key 0 (by decide) q, fun q => key 1 (by decide) q, fun q => key 2 (by decide) q, fun q => key 3 (by decide) q, fun q => key 4 (by decide) q, fun q => key 5 (by decide) q, fun q => key 6 (by decide) q, fun q => key 7 (by decide) q, fun q => key 8 (by decide) q, fun q => key 9 (by decide) q⟩
