/-! the texts: the class's reader: token, line, text -/
abbrev RdA : Type := Except (Nat × Nat) (Tk × List (Nat × Nat) × List (Nat × Nat) × Nat)
def wdAt (T : Nat → Nat) (w : Nat) (t : Tk) : Prop := t.1 = 1 ∧ wordAt T w t.2.1 t.2.2.1
def rdToken (T : Nat → Nat) (n : Nat) (t : Tk) (P M : List (Nat × Nat)) : RdA :=
  if (tkN T n t).1 ≠ 2 then .error (1, (tkN T n t).2.1) else if ¬ (tkN T n t).2.2.2 < P.length then .error (3, (tkN T n t).2.1) else .ok (tkN T n (tkN T n t), P, M, (tkN T n t).2.2.2)
def rdMp (R : RdP) (M : List (Nat × Nat)) (L : Nat) : RdA := match R with
  | .ok r => .ok (r.1, r.2, M, L)
  | .error x => .error x
def rdMm (R : RdM) (P : List (Nat × Nat)) (L : Nat) : RdA := match R with
  | .ok r => .ok (r.1, P, r.2, L)
  | .error x => .error x
noncomputable def rdLine (T : Nat → Nat) (n : Nat) (t : Tk) (P M : List (Nat × Nat)) (L : Nat) : RdA :=
  if pD (wdAt T 1 t) = true then rdMp (rdPlaces T n 0 t P) M L else if pD (wdAt T 2 t) = true then rdMp (rdPlaces T n 1 t P) M L
  else if pD (wdAt T 3 t) = true then rdMm (rdMoves T n P.length t M) P L else if pD (wdAt T 4 t) = true then rdToken T n t P M else .error (1, t.2.1)
abbrev RdT : Type := Except (Nat × Nat) (List (Nat × Nat) × List (Nat × Nat) × Nat)
noncomputable def rdAll (T : Nat → Nat) (n : Nat) : Nat → Tk → List (Nat × Nat) → List (Nat × Nat) → Nat → RdT
  | 0, t, _, _, _ => .error (1, t.2.1)
  | f + 1, t, P, M, L => if t.1 = 3 then (match rdLine T n (tkN T n t) P M L with
      | .ok r => rdAll T n f r.1 r.2.1 r.2.2.1 r.2.2.2
      | .error x => .error x)
    else if t.1 ≠ 0 then .error (1, t.2.1) else if P.length = 0 then .error (6, t.2.1) else .ok (P, M, L)
/-- what a text of n bytes lays: places, moves, the token's place; or its fault and where -/
noncomputable def rdText (T : Nat → Nat) (n : Nat) : RdT :=
  if pD (wdAt T 0 (tkN T n (0, 0, 0, 0))) = true then rdAll T n (n + 2) (tkN T n (tkN T n (0, 0, 0, 0))) [] [] 0 else .error (1, (tkN T n (0, 0, 0, 0)).2.1)
def lOk (P M : List (Nat × Nat)) (L : Nat) : Prop := gOk0 P M ∧ (L = 0 ∨ L < P.length)
def O5a (T : Nat → Nat) (n : Nat) (R : RdA) (er ea k s e v l p q m : Int32) (c fr to : Nat → Int32) : Prop :=
  (∃ t P M L, R = .ok (t, P, M, L) ∧ er = 0 ∧ ea = -1 ∧ RTk n t k s e v ∧ tkOk T n t ∧ RP P p q c ∧ RV M m fr to ∧ lOk P M L ∧ l = nI L) ∨ (∃ a b, R = .error (a, b) ∧ 0 < a ∧ a < 7 ∧ b ≤ n ∧ er = nI a ∧ ea = nI b)
section RD5C
variable {T : Nat → Nat} {n : Nat} {text : Nat → Int32} {t : Tk} {k s e v : Int32} {P M : List (Nat × Nat)} {L : Nat}
theorem x5_isW {w : Nat} {post : Int32 → Prop} (hn : n ≤ 600) (hT : ∀ j, j < n → text j = nI (T j) ∧ T j < 256) (hw : w < 5) (ht : tkOk T n t) (hR : RTk n t k s e v) (h1 : wdAt T w t → post 1) (h0 : ¬ wdAt T w t → post 0) : wp_X4_isWord w k s e text post := by
  obtain ⟨rfl, rfl, ⟨b, hb, rfl, hb2⟩, _⟩ := hR
  by_cases q : t.1 = 1
  · have e1 := hb2 (by omega)
    subst e1
    have hlt := ht.2.2.2.1 (by omega) (by omega)
    exact x5_isWord hn (Nat.le_of_lt hlt) hb ht.1 hw hT (fun a1 a2 => h1 ⟨a1, a2⟩) h0
  · have e1 : ¬ nI t.1 = (1 : Int32) := fun z => q ((nI_eq (b := 1) (by have := ht.1; omega) (by decide)).mp z)
    unfold wp_X4_isWord
    exact ⟨fun _ => h0 (fun z => q z.1), fun z => absurd z e1⟩
theorem x5_readToken {post : Int32 → Int32 → Int32 → Int32 → Int32 → Int32 → Int32 → Prop} {v0 p q m : Int32} {c fr to : Nat → Int32} (hn : n ≤ 600) (hT : ∀ j, j < n → text j = nI (T j) ∧ T j < 256) (ht : tkOk T n t) (h4 : t.1 ≠ 4) (hR : RTk n t k s e v) (hp : RP P p q c) (hv : RV M m fr to) (hg : lOk P M L)
    (h : ∀ er ea k s e v l, O5a T n (rdToken T n t P M) er ea k s e v l p q m c fr to → post er ea k s e v l) : wp_X4_readToken (0 : Int32) (-1 : Int32) (nI n) k e v0 (nI L) (nI P.length) text post := by
  unfold wp_X4_readToken
  refine x5_adv hn hT ht h4 hR (fun k' s' e' v' hr ho' hge => x5_needPlaceNumber hg.1.1 ho' hr (fun z => ⟨fun _ => ?_, fun y => absurd y (by decide)⟩) (fun z z2 => ⟨fun _ => ?_, fun y => absurd y (by decide)⟩) (fun z z2 => ⟨fun y => absurd rfl y, fun _ => ?_⟩))
  · refine h _ _ _ _ _ _ _ (Or.inr ⟨1, (tkN T n t).2.1, ?_, by decide, by decide, ho'.2.1, rfl, hr.2.1⟩)
    unfold rdToken
    rw [if_pos z]
  · refine h _ _ _ _ _ _ _ (Or.inr ⟨3, (tkN T n t).2.1, ?_, by decide, by decide, ho'.2.1, rfl, hr.2.1⟩)
    unfold rdToken
    rw [if_neg (fun y => y z), if_pos z2]
  · refine x5_adv hn hT ho' (by omega) hr (fun k2 s2 e2 v2 hr2 ho2 hge2 => h _ _ _ _ _ _ _ (Or.inl ⟨tkN T n (tkN T n t), P, M, (tkN T n t).2.2.2, ?_, rfl, rfl, hr2, ho2, hp, hv, ⟨hg.1, Or.inr z2⟩, hr.2.2.2 z⟩))
    unfold rdToken
    rw [if_neg (fun y => y z), if_neg (fun y => y z2)]
theorem gOk0_up {P Q M : List (Nat × Nat)} (h : gOk0 P M) (hq : rdOk Q) (hl : P.length ≤ Q.length) : gOk0 Q M :=
  ⟨hq.1, h.2.1, hq.2, fun x hx => ⟨Nat.lt_of_lt_of_le (h.2.2.2.1 x hx).1 hl, Nat.lt_of_lt_of_le (h.2.2.2.1 x hx).2 hl⟩, h.2.2.2.2⟩
theorem rdPl_len {o : Nat} : ∀ (f : Nat) (t : Tk) (P : List (Nat × Nat)) (r : Tk × List (Nat × Nat)), rdPl T n o f t P = .ok r → P.length ≤ r.2.length
  | 0, t, P, r, h => by
    have e : (t, P) = r := Except.ok.inj h
    rw [← e]
    exact Nat.le_refl _
  | f + 1, t, P, r, h => by
    simp only [rdPl] at h
    by_cases q : t.1 ≠ 2
    · rw [if_pos q] at h
      have e : (t, P) = r := Except.ok.inj h
      rw [← e]
      exact Nat.le_refl _
    · rw [if_neg q] at h
      by_cases q2 : 10 ≤ t.2.2.2
      · rw [if_pos q2] at h; exact absurd h (by simp)
      · rw [if_neg q2] at h
        by_cases q3 : P.length = 20
        · rw [if_pos q3] at h; exact absurd h (by simp)
        · rw [if_neg q3] at h
          have := rdPl_len f _ _ r h
          rw [List.length_append] at this
          omega
theorem rdPlaces_len {o : Nat} {r : Tk × List (Nat × Nat)} (h : rdPlaces T n o t P = .ok r) : P.length ≤ r.2.length := by
  unfold rdPlaces at h
  by_cases q : (tkN T n t).1 ≠ 2
  · rw [if_pos q] at h; exact absurd h (by simp)
  · rw [if_neg q] at h; exact rdPl_len _ _ _ r h
theorem O5_pl {o : Nat} {er ea l p q m : Int32} {c fr to : Nat → Int32} (h : O5p T n (rdPlaces T n o t P) er ea k s e v p q c) (hv : RV M m fr to) (hg : lOk P M L) (hl : l = nI L) : O5a T n (rdMp (rdPlaces T n o t P) M L) er ea k s e v l p q m c fr to := by
  rcases h with ⟨t', P', h1, h2, h3, h4, h5, h6, h7⟩ | ⟨a, b, h1, h2, h3, h4, h5, h6, _⟩
  · have hlen := rdPlaces_len h1
    exact Or.inl ⟨t', P', M, L, by rw [h1]; rfl, h2, h3, h4, h5, h6, hv, ⟨gOk0_up hg.1 h7 hlen, hg.2.elim Or.inl (fun z => Or.inr (Nat.lt_of_lt_of_le z hlen))⟩, hl⟩
  · exact Or.inr ⟨a, b, by rw [h1]; rfl, h2, h3, h4, h5, h6⟩
theorem O5_mv {er ea l p q m : Int32} {c fr to : Nat → Int32} (h : O5m T n P (rdMoves T n P.length t M) er ea k s e v m fr to) (hp : RP P p q c) (hg : lOk P M L) (hl : l = nI L) : O5a T n (rdMm (rdMoves T n P.length t M) P L) er ea k s e v l p q m c fr to := by
  rcases h with ⟨t', M', h1, h2, h3, h4, h5, h6, h7⟩ | ⟨a, b, h1, h2, h3, h4, h5, h6⟩
  · exact Or.inl ⟨t', P, M', L, by rw [h1]; rfl, h2, h3, h4, h5, hp, h6, ⟨h7, hg.2⟩, hl⟩
  · exact Or.inr ⟨a, b, by rw [h1]; rfl, h2, h3, h4, h5, h6⟩
theorem x5_readLine {post : Int32 → Int32 → Int32 → Int32 → Int32 → Int32 → Int32 → Int32 → Int32 → Int32 → (Nat → Int32) → (Nat → Int32) → (Nat → Int32) → Prop} {p q m : Int32} {c fr to : Nat → Int32} (hn : n ≤ 600) (hT : ∀ j, j < n → text j = nI (T j) ∧ T j < 256) (ht : tkOk T n t) (hR : RTk n t k s e v) (hp : RP P p q c) (hv : RV M m fr to) (hg : lOk P M L)
    (h : ∀ er ea k s e v l p q m c fr to, O5a T n (rdLine T n t P M L) er ea k s e v l p q m c fr to → post er ea k s e v l p q m c fr to) : wp_X4_readLine (0 : Int32) (-1 : Int32) (nI n) k s e v (nI L) p q m text c fr to post := by
  have hpo : rdOk P := ⟨hg.1.1, hg.1.2.2.1⟩
  unfold wp_X4_readLine
  refine x5_isW hn hT (w := 1) (by decide) ht hR (fun a1 => ⟨fun z => absurd z (by decide), fun _ => ?_⟩) (fun b1 => ⟨fun _ => ?_, fun z => absurd rfl z⟩)
  · refine x5_readPlaces (o := 0) (by decide) hn hT ht (by have := a1.1; omega) hR hp hpo (fun er ea k s e v p q c hO => h _ _ _ _ _ _ _ _ _ _ _ _ _ ?_)
    unfold rdLine
    rw [if_pos (pD_t.mpr a1)]
    exact O5_pl hO hv hg rfl
  refine x5_isW hn hT (w := 2) (by decide) ht hR (fun a1 => ⟨fun z => absurd z (by decide), fun _ => ?_⟩) (fun b2 => ⟨fun _ => ?_, fun z => absurd rfl z⟩)
  · refine x5_readPlaces (o := 1) (by decide) hn hT ht (by have := a1.1; omega) hR hp hpo (fun er ea k s e v p q c hO => h _ _ _ _ _ _ _ _ _ _ _ _ _ ?_)
    unfold rdLine
    rw [if_neg (fun z => b1 (pD_t.mp z)), if_pos (pD_t.mpr a1)]
    exact O5_pl hO hv hg rfl
  refine x5_isW hn hT (w := 3) (by decide) ht hR (fun a1 => ⟨fun z => absurd z (by decide), fun _ => ?_⟩) (fun b3 => ⟨fun _ => ?_, fun z => absurd rfl z⟩)
  · rw [hp.1]
    refine x5_readMoves hn hT ht (by have := a1.1; omega) hR hv hg.1 (fun er ea k s e v m fr to hO => h _ _ _ _ _ _ _ _ _ _ _ _ _ ?_)
    unfold rdLine
    rw [if_neg (fun z => b1 (pD_t.mp z)), if_neg (fun z => b2 (pD_t.mp z)), if_pos (pD_t.mpr a1)]
    exact O5_mv hO (by rw [← hp.1]; exact hp) hg rfl
  refine x5_isW hn hT (w := 4) (by decide) ht hR (fun a1 => ⟨fun z => absurd z (by decide), fun _ => ?_⟩) (fun b4 => ⟨fun _ => ?_, fun z => absurd rfl z⟩)
  · have hp9 : RP P (nI P.length) q c := by rw [← hp.1]; exact hp
    rw [hp.1]
    refine x5_readToken (p := nI P.length) (q := q) (m := m) (c := c) (fr := fr) (to := to) hn hT ht (by have := a1.1; omega) hR hp9 hv hg (fun er ea k s e v l hO => h _ _ _ _ _ _ _ _ _ _ _ _ _ ?_)
    unfold rdLine
    rw [if_neg (fun z => b1 (pD_t.mp z)), if_neg (fun z => b2 (pD_t.mp z)), if_neg (fun z => b3 (pD_t.mp z)), if_pos (pD_t.mpr a1)]
    exact hO
  · unfold wp_X4_fail
    refine ⟨fun z => absurd rfl z, fun _ => h _ _ _ _ _ _ _ _ _ _ _ _ _ (Or.inr ⟨1, t.2.1, ?_, by decide, by decide, ht.2.1, rfl, hR.2.1⟩)⟩
    unfold rdLine
    rw [if_neg (fun z => b1 (pD_t.mp z)), if_neg (fun z => b2 (pD_t.mp z)), if_neg (fun z => b3 (pD_t.mp z)), if_neg (fun z => b4 (pD_t.mp z))]
theorem rdPl_st {o : Nat} : ∀ (f : Nat) (t : Tk) (P : List (Nat × Nat)) (r : Tk × List (Nat × Nat)), tkOk T n t → rdPl T n o f t P = .ok r → t.2.1 ≤ r.1.2.1
  | 0, t, P, r, _, h => by
    have e : (t, P) = r := Except.ok.inj h
    rw [← e]
    exact Nat.le_refl _
  | f + 1, t, P, r, ht, h => by
    simp only [rdPl] at h
    by_cases q : t.1 ≠ 2
    · rw [if_pos q] at h
      have e : (t, P) = r := Except.ok.inj h
      rw [← e]
      exact Nat.le_refl _
    · rw [if_neg q] at h
      by_cases q2 : 10 ≤ t.2.2.2
      · rw [if_pos q2] at h; exact absurd h (by simp)
      · rw [if_neg q2] at h
        by_cases q3 : P.length = 20
        · rw [if_pos q3] at h; exact absurd h (by simp)
        · rw [if_neg q3] at h
          have hO := tkN_ok (T := T) (n := n) (t := t) (ht.2.2.1 (by omega))
          have h1 := rdPl_st f _ _ r hO.1 h
          have h2 := ht.2.2.2.1 (by omega) (by omega)
          have h3 := hO.2
          omega
theorem rdMv_st {np a : Nat} : ∀ (f : Nat) (t : Tk) (M : List (Nat × Nat)) (r : Tk × List (Nat × Nat)), tkOk T n t → rdMv T n np a f t M = .ok r → t.2.1 ≤ r.1.2.1
  | 0, t, M, r, _, h => by
    have e : (t, M) = r := Except.ok.inj h
    rw [← e]
    exact Nat.le_refl _
  | f + 1, t, M, r, ht, h => by
    simp only [rdMv] at h
    by_cases q : t.1 ≠ 2
    · rw [if_pos q] at h
      have e : (t, M) = r := Except.ok.inj h
      rw [← e]
      exact Nat.le_refl _
    · rw [if_neg q] at h
      by_cases q2 : ¬ t.2.2.2 < np
      · rw [if_pos q2] at h; exact absurd h (by simp)
      · rw [if_neg q2] at h
        by_cases q3 : pD (gEd M a t.2.2.2) = true
        · rw [if_pos q3] at h; exact absurd h (by simp)
        · rw [if_neg q3] at h
          by_cases q4 : M.length = 60
          · rw [if_pos q4] at h; exact absurd h (by simp)
          · rw [if_neg q4] at h
            have hO := tkN_ok (T := T) (n := n) (t := t) (ht.2.2.1 (by omega))
            have h1 := rdMv_st f _ _ r hO.1 h
            have h2 := ht.2.2.2.1 (by omega) (by omega)
            have h3 := hO.2
            omega
theorem rdLine_end {t2 : Tk} {P2 M2 : List (Nat × Nat)} {L2 : Nat} (ht : tkOk T n t) (h : rdLine T n t P M L = .ok (t2, P2, M2, L2)) : t.2.1 ≤ t2.2.1 := by
  have hs1 : t.1 = 1 → t.2.1 ≤ (tkN T n t).2.1 ∧ tkOk T n (tkN T n t) := fun z => by
    have hO := tkN_ok (T := T) (n := n) (t := t) (ht.2.2.1 (by omega))
    have h2 := ht.2.2.2.1 (by omega) (by omega)
    have h3 := hO.2
    exact ⟨by omega, hO.1⟩
  have hpl : ∀ o, t.1 = 1 → rdMp (rdPlaces T n o t P) M L = .ok (t2, P2, M2, L2) → t.2.1 ≤ t2.2.1 := by
    intro o z hq
    unfold rdPlaces at hq
    by_cases q : (tkN T n t).1 ≠ 2
    · rw [if_pos q] at hq; exact absurd hq (by simp [rdMp])
    · rw [if_neg q] at hq
      cases hr : rdPl T n o (n + 1) (tkN T n t) P with
      | error x => rw [hr] at hq; exact absurd hq (by simp [rdMp])
      | ok r =>
        rw [hr] at hq
        have e := Except.ok.inj hq
        have h1 := rdPl_st _ _ _ _ (hs1 z).2 hr
        have h2 : r.1 = t2 := congrArg Prod.fst e
        rw [h2] at h1
        exact Nat.le_trans (hs1 z).1 h1
  unfold rdLine at h
  by_cases c1 : pD (wdAt T 1 t) = true
  · rw [if_pos c1] at h; exact hpl 0 (pD_t.mp c1).1 h
  · rw [if_neg c1] at h
    by_cases c2 : pD (wdAt T 2 t) = true
    · rw [if_pos c2] at h; exact hpl 1 (pD_t.mp c2).1 h
    · rw [if_neg c2] at h
      by_cases c3 : pD (wdAt T 3 t) = true
      · rw [if_pos c3] at h
        have z := (pD_t.mp c3).1
        unfold rdMoves at h
        by_cases q : (tkN T n t).1 ≠ 2
        · rw [if_pos q] at h; exact absurd h (by simp [rdMm])
        · rw [if_neg q] at h
          by_cases q2 : ¬ (tkN T n t).2.2.2 < P.length
          · rw [if_pos q2] at h; exact absurd h (by simp [rdMm])
          · rw [if_neg q2] at h
            by_cases q3 : (tkN T n (tkN T n t)).1 ≠ 2
            · rw [if_pos q3] at h; exact absurd h (by simp [rdMm])
            · rw [if_neg q3] at h
              have ho1 := (hs1 z).2
              have hO := tkN_ok (T := T) (n := n) (t := tkN T n t) (ho1.2.2.1 (by omega))
              have h9 := ho1.2.2.2.1 (by omega) (by omega)
              cases hr : rdMv T n P.length (tkN T n t).2.2.2 (n + 1) (tkN T n (tkN T n t)) M with
              | error x => rw [hr] at h; exact absurd h (by simp [rdMm])
              | ok r =>
                rw [hr] at h
                have e := Except.ok.inj h
                have h1 := rdMv_st _ _ _ _ hO.1 hr
                have h2 : r.1 = t2 := congrArg Prod.fst e
                rw [h2] at h1
                have h3 := (hs1 z).1
                have h4 := hO.2
                omega
      · rw [if_neg c3] at h
        by_cases c4 : pD (wdAt T 4 t) = true
        · rw [if_pos c4] at h
          have z := (pD_t.mp c4).1
          unfold rdToken at h
          by_cases q : (tkN T n t).1 ≠ 2
          · rw [if_pos q] at h; exact absurd h (by simp)
          · rw [if_neg q] at h
            by_cases q2 : ¬ (tkN T n t).2.2.2 < P.length
            · rw [if_pos q2] at h; exact absurd h (by simp)
            · rw [if_neg q2] at h
              have ho1 := (hs1 z).2
              have hO := tkN_ok (T := T) (n := n) (t := tkN T n t) (ho1.2.2.1 (by omega))
              have h9 := ho1.2.2.2.1 (by omega) (by omega)
              have e := congrArg Prod.fst (Except.ok.inj h)
              have e2 : tkN T n (tkN T n t) = t2 := e
              rw [← e2]
              have h3 := (hs1 z).1
              have h4 := hO.2
              omega
        · rw [if_neg c4] at h; exact absurd h (by simp)
end RD5C
