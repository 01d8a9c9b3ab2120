/-! the texts: what they lay; the class's reader -/
abbrev Tk : Type := Nat × Nat × Nat × Nat
def tkN (T : Nat → Nat) (n : Nat) (t : Tk) : Tk := (tokK T n t.1 t.2.2.1, tokS T n t.2.2.1, tokE T n t.2.2.1, tokV T n t.2.2.1)
def RTk (n : Nat) (t : Tk) (k s e v : Int32) : Prop := k = nI t.1 ∧ s = nI t.2.1 ∧ (∃ b, b ≤ n ∧ e = nI b ∧ (t.1 ≠ 4 → b = t.2.2.1)) ∧ (t.1 = 2 → v = nI t.2.2.2)
def tkOk (T : Nat → Nat) (n : Nat) (t : Tk) : Prop := t.1 < 5 ∧ t.2.1 ≤ n ∧ (t.1 ≠ 4 → t.2.2.1 ≤ n) ∧ (t.1 ≠ 0 → t.1 ≠ 4 → t.2.1 < t.2.2.1) ∧ (t.1 = 1 → ∀ j, t.2.1 ≤ j → j < t.2.2.1 → isLe (T j) = true) ∧ (t.1 = 2 → t.2.2.2 < 1000) ∧ (t.1 = 0 → t.2.2.1 = t.2.1)
theorem tokB_le {T : Nat → Nat} {n s : Nat} (h : (tokB T n s).1 = 1) : ∀ j, s ≤ j → j < (tokB T n s).2 → isLe (T j) = true := by
  intro j h1 h2
  unfold tokB at h h2
  by_cases e0 : n ≤ s
  · rw [if_pos e0] at h; exact absurd h (nn rfl)
  · rw [if_neg e0] at h h2
    by_cases e1 : T s = 59
    · rw [if_pos e1] at h; exact absurd h (nn rfl)
    · rw [if_neg e1] at h h2
      by_cases e2 : s < rn (fun j => isLe (T j)) n s
      · rw [if_pos e2] at h2; exact rn_in (p := fun j => isLe (T j)) h1 h2
      · rw [if_neg e2] at h
        by_cases e3 : s < rn (fun j => isDi (T j)) n s ∧ rn (fun j => isDi (T j)) n s - s ≤ 3
        · rw [if_pos e3] at h; exact absurd h (nn rfl)
        · rw [if_neg e3] at h; exact absurd h (nn rfl)
theorem tokB_di {T : Nat → Nat} {n s : Nat} (h : (tokB T n s).1 = 2) : (tokB T n s).2 - s ≤ 3 ∧ s ≤ (tokB T n s).2 ∧ ∀ j, s ≤ j → j < (tokB T n s).2 → isDi (T j) = true := by
  unfold tokB at h ⊢
  by_cases e0 : n ≤ s
  · rw [if_pos e0] at h; exact absurd h (nn rfl)
  · rw [if_neg e0] at h ⊢
    by_cases e1 : T s = 59
    · rw [if_pos e1] at h; exact absurd h (nn rfl)
    · rw [if_neg e1] at h ⊢
      by_cases e2 : s < rn (fun j => isLe (T j)) n s
      · rw [if_pos e2] at h; exact absurd h (nn rfl)
      · rw [if_neg e2] at h ⊢
        by_cases e3 : s < rn (fun j => isDi (T j)) n s ∧ rn (fun j => isDi (T j)) n s - s ≤ 3
        · rw [if_pos e3]; exact ⟨e3.2, Nat.le_of_lt e3.1, fun j h1 h2 => rn_in (p := fun j => isDi (T j)) h1 h2⟩
        · rw [if_neg e3] at h; exact absurd h (nn rfl)
theorem tkN_ok {T : Nat → Nat} {n : Nat} {t : Tk} (he : t.2.2.1 ≤ n) : tkOk T n (tkN T n t) ∧ t.2.2.1 ≤ (tkN T n t).2.1 := by
  have hs := tokS_le (T := T) he
  have hg := tokS_ge (T := T) (n := n) (e := t.2.2.1)
  obtain ⟨b1, b2, b3, b4, b5, b6⟩ := tokB_lt (T := T) hs
  have hK : tokK T n t.1 t.2.2.1 = 4 ∨ tokK T n t.1 t.2.2.1 = (tokB T n (tokS T n t.2.2.1)).1 := by
    unfold tokK
    by_cases g : tokG T n t.1 t.2.2.1
    · rw [if_pos g]; exact Or.inl rfl
    · rw [if_neg g]; exact Or.inr rfl
  refine ⟨⟨?_, hs, fun _ => b1, fun z1 z2 => ?_, fun z => ?_, fun z => ?_, fun z => ?_⟩, hg⟩
  · show tokK T n t.1 t.2.2.1 < 5
    rcases hK with q | q <;> omega
  · rcases hK with q | q
    · exact absurd q z2
    · exact b4 (fun y => z1 (q.trans y))
  · have z' : tokK T n t.1 t.2.2.1 = 1 := z
    rcases hK with q | q
    · omega
    · exact tokB_le (q.symm.trans z')
  · have z' : tokK T n t.1 t.2.2.1 = 2 := z
    rcases hK with q | q
    · omega
    · obtain ⟨d1, d2, d3⟩ := tokB_di (q.symm.trans z')
      have h9 := vaF_lt (T := T) (s := tokS T n t.2.2.1) ((tokB T n (tokS T n t.2.2.1)).2 - tokS T n t.2.2.1) (fun j y1 y2 => d3 j y1 (by omega))
      have h8 : 10 ^ ((tokB T n (tokS T n t.2.2.1)).2 - tokS T n t.2.2.1) ≤ 10 ^ 3 := Nat.pow_le_pow_right (by decide) d1
      exact Nat.lt_of_lt_of_le h9 h8
  · have z' : tokK T n t.1 t.2.2.1 = 0 := z
    rcases hK with q | q
    · omega
    · have h9 := b5.mp (q.symm.trans z')
      show (tokB T n (tokS T n t.2.2.1)).2 = tokS T n t.2.2.1
      omega
def rdOk (P : List (Nat × Nat)) : Prop := P.length ≤ 20 ∧ ∀ q ∈ P, q.1 < 2 ∧ q.2 < 10
abbrev RdP : Type := Except (Nat × Nat) (Tk × List (Nat × Nat))
/-- the calls behind 'even' or 'odd' -/
def rdPl (T : Nat → Nat) (n o : Nat) : Nat → Tk → List (Nat × Nat) → RdP
  | 0, t, P => .ok (t, P)
  | f + 1, t, P => if t.1 ≠ 2 then .ok (t, P) else if 10 ≤ t.2.2.2 then .error (2, t.2.1) else if P.length = 20 then .error (5, t.2.1) else rdPl T n o f (tkN T n t) (P ++ [(o, t.2.2.2)])
def rdPlaces (T : Nat → Nat) (n o : Nat) (t : Tk) (P : List (Nat × Nat)) : RdP :=
  if (tkN T n t).1 ≠ 2 then .error (1, (tkN T n t).2.1) else rdPl T n o (n + 1) (tkN T n t) P
theorem rdPl_no {T : Nat → Nat} {n o : Nat} {t : Tk} {P : List (Nat × Nat)} (h : t.1 ≠ 2) : ∀ f, rdPl T n o f t P = .ok (t, P)
  | 0 => rfl
  | f + 1 => by simp only [rdPl]; rw [if_pos h]
def O5p (T : Nat → Nat) (n : Nat) (R : RdP) (er ea k s e v p q : Int32) (c : Nat → Int32) : Prop :=
  (∃ t P, R = .ok (t, P) ∧ er = 0 ∧ ea = -1 ∧ RTk n t k s e v ∧ tkOk T n t ∧ RP P p q c ∧ rdOk P) ∨ (∃ a b, R = .error (a, b) ∧ 0 < a ∧ a < 7 ∧ b ≤ n ∧ er = nI a ∧ ea = nI b ∧ ∃ x, x ≤ n ∧ e = nI x)
section RD5
variable {T : Nat → Nat} {n : Nat} {text : Nat → Int32} {t : Tk} {k s e v : Int32}
theorem x5_adv {post : Int32 → Int32 → Int32 → Int32 → Prop} {v0 : Int32} (hn : n ≤ 600) (hT : ∀ j, j < n → text j = nI (T j) ∧ T j < 256) (ht : tkOk T n t) (h4 : t.1 ≠ 4) (hR : RTk n t k s e v)
    (h : ∀ k' s' e' v', RTk n (tkN T n t) k' s' e' v' → tkOk T n (tkN T n t) → t.2.2.1 ≤ (tkN T n t).2.1 → post k' s' e' v') : wp_X4_advance (nI n) k e v0 text post := by
  obtain ⟨rfl, rfl, ⟨b, hb, rfl, hb2⟩, _⟩ := hR
  have e1 := hb2 h4
  subst e1
  have hO := tkN_ok (T := T) (t := t) hb
  exact x5_advance hn hb ht.1 hT (fun k' s' e' v' hr => h k' s' e' v' hr hO.1 hO.2)
theorem RTk_k {x : Nat} (ht : tkOk T n t) (hR : RTk n t k s e v) (hx : x < 5) : k = nI x ↔ t.1 = x := by
  rw [hR.1]
  exact nI_eq (by have := ht.1; omega) (by omega)
theorem x5_lpPl {o : Nat} {R : RdP} {K : Int32 → Int32 → Int32 → Int32 → Int32 → Int32 → Int32 → Int32 → Int32 → (Nat → Int32) → Prop} (ho : o < 2) (hn : n ≤ 600) (hT : ∀ j, j < n → text j = nI (T j) ∧ T j < 256)
    (hK : ∀ v2 er ea k s e v p q c, O5p T n R er ea k s e v p q c → K v2 er ea k s e v p q c) {er ea p q : Int32} {c : Nat → Int32}
    (h0 : (∃ t P f, rdPl T n o f t P = R ∧ er = 0 ∧ ea = -1 ∧ RTk n t k s e v ∧ tkOk T n t ∧ RP P p q c ∧ rdOk P ∧ (t.1 = 2 → n < f + t.2.2.1)) ∨ (∃ a b, R = .error (a, b) ∧ 0 < a ∧ a < 7 ∧ b ≤ n ∧ er = nI a ∧ ea = nI b ∧ ∃ x, x ≤ n ∧ e = nI x)) :
    ∃ m, fx10 (F_X4_readPlaces_19 (nI o) (nI n) text K) m (0 : Int32) er ea k s e v p q c := by
  refine fx10_go (fun v2 er ea k s e v p q c => ∃ i, i ≤ n ∧ v2 = nI i ∧ ((∃ t P f, rdPl T n o f t P = R ∧ er = 0 ∧ ea = -1 ∧ RTk n t k s e v ∧ tkOk T n t ∧ RP P p q c ∧ rdOk P ∧ (t.1 = 2 → n < f + t.2.2.1 ∧ i < t.2.2.1)) ∨ (∃ a b, R = .error (a, b) ∧ 0 < a ∧ a < 7 ∧ b ≤ n ∧ er = nI a ∧ ea = nI b ∧ ∃ x, x ≤ n ∧ e = nI x))) (fun v2 _ _ _ _ _ _ _ _ _ => n - v2.toNatClampNeg) ?_ _ _ _ _ _ _ _ _ _ _ ⟨0, Nat.zero_le _, rfl, ?_⟩
  · rintro rec v2 er ea k s e v p q c ⟨i, hi, rfl, hI⟩ hrec
    unfold F_X4_readPlaces_19
    have hexit : (n ≤ i ∨ ¬ er = 0 ∨ ¬ k = 2) → O5p T n R er ea k s e v p q c := by
      intro hx
      rcases hI with ⟨t, P, f, h1, h2, h3, h4, h5, h6, h7, h8⟩ | hI
      · have nt : t.1 ≠ 2 := by
          intro z
          rcases hx with x | x | x
          · have := (h8 z).2; have := h5.2.2.1 (by omega); omega
          · exact x h2
          · exact x ((RTk_k h5 h4 (x := 2) (by decide)).mpr z)
        rw [rdPl_no nt] at h1
        exact Or.inl ⟨t, P, h1.symm, h2, h3, h4, h5, h6, h7⟩
      · exact Or.inr hI
    refine ⟨fun z => hK _ _ _ _ _ _ _ _ _ _ (hexit (Or.inl ((nI_leI (by omega) (by omega)).mp z))), fun z => ⟨fun z2 => hK _ _ _ _ _ _ _ _ _ _ (hexit (Or.inr (Or.inl z2))), fun z2 => ⟨fun z3 => hK _ _ _ _ _ _ _ _ _ _ (hexit (Or.inr (Or.inr z3))), fun z3 => ?_⟩⟩⟩
    have hin : i < n := by have := mt (nI_leI (a := n) (b := i) (by omega) (by omega)).mpr z; omega
    rcases hI with ⟨t, P, f, h1, h2, h3, h4, h5, h6, h7, h8⟩ | ⟨a, b, _, ha, ha7, _, he, _⟩
    · have t2 := (RTk_k h5 h4 (x := 2) (by decide)).mp z3
      obtain ⟨h8, h9⟩ := h8 t2
      have hen := h5.2.2.1 (by omega)
      obtain ⟨f', rfl⟩ : ∃ f', f = f' + 1 := ⟨f - 1, by omega⟩
      simp only [rdPl] at h1
      rw [if_neg (fun y => y t2)] at h1
      have hv := h4.2.2.2 t2
      have hv9 := h5.2.2.2.2.2.1 t2
      have hs := h4.2.1
      subst h2
      have hadv : ∀ {er' ea' p' q' : Int32} {c' : Nat → Int32}, (∀ k' s' e' v', RTk n (tkN T n t) k' s' e' v' → tkOk T n (tkN T n t) → t.2.2.1 ≤ (tkN T n t).2.1 → rec (nI i + 1) er' ea' k' s' e' v' p' q' c') → wp_X4_advance (nI n) k e v text (fun k' s' e' v' => rec (nI i + (1 : Int32)) er' ea' k' s' e' v' p' q' c') := fun hh => x5_adv hn hT h5 (by omega) h4 hh
      have hdec : n - (nI i + 1).toNatClampNeg < n - (nI i).toNatClampNeg := by rw [nI_1, nI_clamp (by omega), nI_clamp (by omega)]; omega
      have hbad : ∀ a, 0 < a → a < 7 → R = .error (a, t.2.1) → wp_X4_fail (nI a) (0 : Int32) ea s (fun er' ea' => wp_X4_advance (nI n) k e v text (fun k' s' e' v' => rec (nI i + (1 : Int32)) er' ea' k' s' e' v' p q c)) := by
        intro a a1 a2 a3
        unfold wp_X4_fail
        refine ⟨fun y => absurd rfl y, fun _ => hadv (fun k' s' e' v' hr _ _ => hrec _ _ _ _ _ _ _ _ _ _ ⟨i + 1, by omega, nI_1 i, Or.inr ⟨a, t.2.1, a3, a1, a2, h5.2.1, rfl, hs, ?_⟩⟩ hdec)⟩
        obtain ⟨b, hb, hb2, _⟩ := hr.2.2.1
        exact ⟨b, hb, hb2⟩
      unfold wp_X4_readCall
      rw [hv]
      refine ⟨fun y => ⟨fun y2 => ?_, fun y2 => ?_⟩, fun y => ?_⟩
      · have y' := (nI_ltI (b := 10) (by omega) (by decide)).mp y
        have y2' : P.length < 20 := by rw [h6.1] at y2; exact (nI_ltI (b := 20) (by have := h7.1; omega) (by decide)).mp y2
        rw [if_neg (by omega), if_neg (by omega)] at h1
        refine x1_appendPlace h6 y2' ho (fun p' q' c' h6' => ?_)
        rw [← hv]
        refine hadv (fun k' s' e' v' hr ho' hge => hrec _ _ _ _ _ _ _ _ _ _ ⟨i + 1, by omega, nI_1 i, Or.inl ⟨tkN T n t, _, f', h1, rfl, h3, hr, ho', h6', ⟨by rw [List.length_append, List.length_singleton]; omega, fun x hx => ?_⟩, fun x => ?_⟩⟩ hdec)
        · rcases List.mem_append.mp hx with hx | hx
          · exact h7.2 x hx
          · rw [List.mem_singleton.mp hx]; exact ⟨ho, y'⟩
        · have := ho'.2.2.2.1 (by omega) (by omega)
          omega
      · have y' := (nI_ltI (b := 10) (by omega) (by decide)).mp y
        have y2' : P.length = 20 := by
          have : ¬ P.length < 20 := fun x => y2 (by rw [h6.1]; exact (nI_ltI (b := 20) (by omega) (by decide)).mpr x)
          have := h7.1
          omega
        rw [if_neg (by omega), if_pos y2'] at h1
        rw [← hv]
        exact hbad 5 (by decide) (by decide) h1.symm
      · have y' : 10 ≤ t.2.2.2 := by have := mt (nI_ltI (a := t.2.2.2) (b := 10) (by omega) (by decide)).mpr y; omega
        rw [if_pos y'] at h1
        rw [← hv]
        exact hbad 2 (by decide) (by decide) h1.symm
    · exact absurd z2 (by rw [he]; exact nI_ne0 ha (by omega))
  · rcases h0 with ⟨t, P, f, h1, h2, h3, h4, h5, h6, h7, h8⟩ | h0
    · refine Or.inl ⟨t, P, f, h1, h2, h3, h4, h5, h6, h7, fun z => ⟨h8 z, ?_⟩⟩
      have := h5.2.2.2.1 (by omega) (by omega)
      omega
    · exact Or.inr h0
theorem x5_readPlaces {o : Nat} {post : Int32 → Int32 → Int32 → Int32 → Int32 → Int32 → Int32 → Int32 → (Nat → Int32) → Prop} {P : List (Nat × Nat)} {p q v0 : Int32} {c : Nat → Int32} (ho : o < 2) (hn : n ≤ 600) (hT : ∀ j, j < n → text j = nI (T j) ∧ T j < 256) (ht : tkOk T n t) (h4 : t.1 ≠ 4) (hR : RTk n t k s e v) (hp : RP P p q c) (hpo : rdOk P)
    (h : ∀ er ea k s e v p q c, O5p T n (rdPlaces T n o t P) er ea k s e v p q c → post er ea k s e v p q c) : wp_X4_readPlaces (nI o) (0 : Int32) (-1 : Int32) (nI n) k e v0 p q text c post := by
  unfold wp_X4_readPlaces
  refine x5_adv hn hT ht h4 hR (fun k' s' e' v' hr ho' hge => ⟨fun z => ?_, fun z => ?_⟩)
  · have z2 := (RTk_k ho' hr (x := 2) (by decide)).mp z
    refine x5_lpPl (R := rdPlaces T n o t P) ho hn hT (fun v2 er ea k s e v p q c hO => h er ea k s e v p q c hO) (Or.inl ⟨tkN T n t, P, n + 1, ?_, rfl, rfl, hr, ho', hp, hpo, fun _ => by omega⟩)
    unfold rdPlaces
    rw [if_neg (fun y => y z2)]
  · have z2 : (tkN T n t).1 ≠ 2 := fun y => z ((RTk_k ho' hr (x := 2) (by decide)).mpr y)
    unfold wp_X4_fail
    refine ⟨fun y => absurd rfl y, fun _ => x5_lpPl (R := rdPlaces T n o t P) ho hn hT (fun v2 er ea k s e v p q c hO => h er ea k s e v p q c hO) (Or.inr ⟨1, (tkN T n t).2.1, ?_, by decide, by decide, ho'.2.1, rfl, hr.2.1, ?_⟩)⟩
    · unfold rdPlaces
      rw [if_pos z2]
    · obtain ⟨b, hb, hb2, _⟩ := hr.2.2.1
      exact ⟨b, hb, hb2⟩
end RD5
