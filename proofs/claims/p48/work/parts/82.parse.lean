/-! the drawn game's text, as it is read -/
section PARSE
variable {T : Nat → Nat} {n : Nat}
theorem rn_run {p : Nat → Bool} : ∀ (k a : Nat), (∀ j, j < k → p (a + j) = true) → a + k ≤ n → (a + k = n ∨ ¬ p (a + k) = true) → rn p n a = a + k
  | 0, a, _, _, h3 => by
    rcases h3 with h3 | h3
    · exact rn_out (by omega)
    · exact rn_no h3
  | k + 1, a, h1, h2, h3 => by
    have h10 : p a = true := h1 0 (by omega)
    rw [rn_yes (by omega) h10, rn_run k (a + 1) (fun j hj => by rw [Nat.add_assoc, Nat.add_comm 1 j]; exact h1 (j + 1) (by omega)) (by omega) (by rw [show a + 1 + k = a + (k + 1) by omega]; exact h3)]
    omega
theorem tk_word {t : Tk} {e k : Nat} (ht : t.1 ≠ 1 ∧ t.1 ≠ 2) (hte : t.2.2.1 = e) (hk : 0 < k) (hl : ∀ j, j < k → isLe (T (e + j)) = true) (hen : e + k ≤ n) (hend : e + k = n ∨ ¬ isLe (T (e + k)) = true) :
    (tkN T n t).1 = 1 ∧ (tkN T n t).2.1 = e ∧ (tkN T n t).2.2.1 = e + k := by
  have l0 : isLe (T e) = true := hl 0 hk
  have l1 : 97 ≤ T e ∧ T e ≤ 122 := of_decide_eq_true l0
  have eS : tokS T n e = e := rn_no (fun q => by
    have := of_decide_eq_true q
    omega)
  have eB : tokB T n e = (1, e + k) := by
    unfold tokB
    rw [if_neg (by omega), if_neg (by omega), rn_run (p := fun j => isLe (T j)) k e hl hen hend, if_pos (by omega)]
  have hG : ¬ tokG T n t.1 e := fun q => q.1.elim ht.1 ht.2
  refine ⟨?_, ?_, ?_⟩
  · show tokK T n t.1 t.2.2.1 = 1
    unfold tokK
    rw [hte, if_neg hG, eS, eB]
  · show tokS T n t.2.2.1 = e
    rw [hte, eS]
  · show tokE T n t.2.2.1 = e + k
    unfold tokE
    rw [hte, eS, eB]
theorem tk_semi {t : Tk} {e : Nat} (hte : t.2.2.1 = e) (hT : T e = 59) (he : e < n) : (tkN T n t).1 = 3 ∧ (tkN T n t).2.2.1 = e + 1 := by
  have eS : tokS T n e = e := rn_no (fun q => by
    have := of_decide_eq_true q
    omega)
  have eB : tokB T n e = (3, e + 1) := by
    unfold tokB
    rw [if_neg (by omega), if_pos hT]
  have hG : ¬ tokG T n t.1 e := fun q => by
    have := q.2.2
    rw [eS, eB] at this
    exact this.elim (fun z => absurd z (nn rfl)) (fun z => absurd z (nn rfl))
  refine ⟨?_, ?_⟩
  · show tokK T n t.1 t.2.2.1 = 3
    unfold tokK
    rw [hte, if_neg hG, eS, eB]
  · show tokE T n t.2.2.1 = e + 1
    unfold tokE
    rw [hte, eS, eB]
theorem tk_num {t : Tk} {e d : Nat} (hte : t.2.2.1 = e) (hb : T e = 32) (hd : T (e + 1) = 48 + d) (hd9 : d < 10) (hn : e + 1 < n) (hend : e + 2 = n ∨ ¬ isDi (T (e + 2)) = true) :
    (tkN T n t).1 = 2 ∧ (tkN T n t).2.2.1 = e + 2 ∧ (tkN T n t).2.2.2 = d := by
  have eS : tokS T n e = e + 1 := by
    unfold tokS
    rw [rn_yes (by omega) (decide_eq_true (Or.inl hb)), rn_no (fun q => by
      have := of_decide_eq_true q
      omega)]
  have eB : tokB T n (e + 1) = (2, e + 2) := by
    unfold tokB
    have e1 : rn (fun j => isLe (T j)) n (e + 1) = e + 1 := rn_no (fun q => by
      have := of_decide_eq_true q
      omega)
    have e2 : rn (fun j => isDi (T j)) n (e + 1) = e + 2 := rn_run (p := fun j => isDi (T j)) 1 (e + 1) (fun j hj => by
      rw [show e + 1 + j = e + 1 by omega]
      exact decide_eq_true (by omega)) (by omega) hend
    rw [if_neg (by omega), if_neg (by omega), e1, e2, if_neg (by omega), if_pos (by omega)]
  have hG : ¬ tokG T n t.1 e := fun q => by
    have := q.2.1
    rw [eS] at this
    omega
  refine ⟨?_, ?_, ?_⟩
  · show tokK T n t.1 t.2.2.1 = 2
    unfold tokK
    rw [hte, if_neg hG, eS, eB]
  · show tokE T n t.2.2.1 = e + 2
    unfold tokE
    rw [hte, eS, eB]
  · show tokV T n t.2.2.1 = d
    unfold tokV tokE
    rw [hte, eS, eB, show ((2, e + 2) : Nat × Nat).2 - (e + 1) = 1 by show e + 2 - (e + 1) = 1; omega]
    show 10 * 0 + (T (e + 1 + 0) - 48) = d
    rw [Nat.add_zero, hd]
    omega
theorem tk_end {t : Tk} (hte : t.2.2.1 = n) : (tkN T n t).1 = 0 := by
  have eS : tokS T n n = n := rn_out (Nat.le_refl _)
  have eB : tokB T n n = (0, n) := by
    unfold tokB
    rw [if_pos (Nat.le_refl _)]
  have hG : ¬ tokG T n t.1 n := fun q => by
    have := q.2.2
    rw [eS, eB] at this
    exact this.elim (fun z => absurd z (nn rfl)) (fun z => absurd z (nn rfl))
  show tokK T n t.1 t.2.2.1 = 0
  unfold tokK
  rw [hte, if_neg hG, eS, eB]
theorem le_ok {x : Nat} (h1 : 97 ≤ x) (h2 : x ≤ 122) : isLe x = true := decide_eq_true ⟨h1, h2⟩
theorem le_no {x : Nat} (h : x < 97) : ¬ isLe x = true := fun q => by
  have := of_decide_eq_true q
  omega
theorem di_no {x : Nat} (h : x < 48 ∨ 57 < x) : ¬ isDi x = true := fun q => by
  have := of_decide_eq_true q
  omega
theorem wd_len {w : Nat} {t : Tk} {s e : Nat} (h2 : t.2.1 = s) (h3 : t.2.2.1 = s + e) (h : e ≠ gLen.getD w 0) : ¬ pD (wdAt T w t) = true := fun q => by
  have := (pD_t.mp q).2.1
  rw [h2, h3] at this
  omega
theorem wd_first {w c : Nat} {t : Tk} {s : Nat} (h2 : t.2.1 = s) (h0 : 0 < gLen.getD w 0) (hc : T s = c) (h : nI c ≠ (gByt.getD w []).getD 0 0) : ¬ pD (wdAt T w t) = true := fun q => by
  have := (pD_t.mp q).2.2 0 h0
  rw [h2, Nat.add_zero, hc] at this
  exact h this
theorem wd_yes {w : Nat} {t : Tk} {s : Nat} (h1 : t.1 = 1) (h2 : t.2.1 = s) (h3 : t.2.2.1 = s + gLen.getD w 0) (h : ∀ j, j < gLen.getD w 0 → nI (T (s + j)) = (gByt.getD w []).getD j 0) : pD (wdAt T w t) = true :=
  pD_t.mpr ⟨h1, by rw [h2, h3]; omega, by rw [h2]; exact h⟩
/-- a place behind 'even' or 'odd' -/
theorem rd_place {o d e : Nat} {t1 : Tk} {P : List (Nat × Nat)} (ht1 : t1.2.2.1 = e) (hb : T e = 32) (hd : T (e + 1) = 48 + d) (hd9 : d < 10) (hs : T (e + 2) = 59) (hn : e + 2 < n) (hP : P.length < 20) :
    ∃ t', t'.1 = 3 ∧ t'.2.2.1 = e + 3 ∧ rdPlaces T n o t1 P = .ok (t', P ++ [(o, d)]) := by
  obtain ⟨a1, a2, a3⟩ := tk_num (n := n) ht1 hb hd hd9 (by omega) (Or.inr (by rw [hs]; decide))
  obtain ⟨b1, b2⟩ := tk_semi (T := T) (n := n) a2 hs hn
  refine ⟨tkN T n (tkN T n t1), b1, b2, ?_⟩
  unfold rdPlaces
  rw [if_neg (fun q => q a1)]
  simp only [rdPl]
  rw [if_neg (fun q => q a1), if_neg (by rw [a3]; omega), if_neg (by omega), a3]
  exact rdPl_no (by rw [b1]; decide) n
theorem rd_even {a d : Nat} {t : Tk} {P M : List (Nat × Nat)} {L : Nat} {D : List Nat} (hX : ∀ j, T (a + j) = (59 :: 101 :: 118 :: 101 :: 110 :: 32 :: (48 + d) :: 59 :: D).getD j 0) (hn : a + 8 ≤ n) (hd : d < 10) (ht : t.1 = 3) (hte : t.2.2.1 = a + 1) (hP : P.length < 20) :
    ∃ t', t'.1 = 3 ∧ t'.2.2.1 = a + 7 + 1 ∧ rdLine T n (tkN T n t) P M L = .ok (t', P ++ [(0, d)], M, L) := by
  have x1 : T (a + 1) = 101 := hX 1
  have x2 : T (a + 2) = 118 := hX 2
  have x3 : T (a + 3) = 101 := hX 3
  have x4 : T (a + 4) = 110 := hX 4
  have x5 : T (a + 5) = 32 := hX 5
  have x6 : T (a + 6) = 48 + d := hX 6
  have x7 : T (a + 7) = 59 := hX 7
  obtain ⟨a1, a2, a3⟩ := tk_word (T := T) (n := n) (t := t) (e := a + 1) (k := 4) (by rw [ht]; decide) hte (by decide) (fun j hj => by
    rcases (show j = 0 ∨ j = 1 ∨ j = 2 ∨ j = 3 by omega) with rfl | rfl | rfl | rfl
    · rw [show a + 1 + 0 = a + 1 by omega, x1]; decide
    · rw [show a + 1 + 1 = a + 2 by omega, x2]; decide
    · rw [show a + 1 + 2 = a + 3 by omega, x3]; decide
    · rw [show a + 1 + 3 = a + 4 by omega, x4]; decide) (by omega) (Or.inr (by rw [show a + 1 + 4 = a + 5 by omega, x5]; decide))
  obtain ⟨t', b1, b2, b3⟩ := rd_place (T := T) (n := n) (o := 0) (d := d) (e := a + 5) (t1 := tkN T n t) (P := P) a3 x5 x6 hd x7 (by omega) hP
  refine ⟨t', b1, b2, ?_⟩
  have w1 : pD (wdAt T 1 (tkN T n t)) = true := wd_yes a1 a2 a3 (fun j hj => by
    have hj : j < 4 := hj
    rcases (show j = 0 ∨ j = 1 ∨ j = 2 ∨ j = 3 by omega) with rfl | rfl | rfl | rfl
    · rw [show a + 1 + 0 = a + 1 by omega, x1]; rfl
    · rw [show a + 1 + 1 = a + 2 by omega, x2]; rfl
    · rw [show a + 1 + 2 = a + 3 by omega, x3]; rfl
    · rw [show a + 1 + 3 = a + 4 by omega, x4]; rfl)
  unfold rdLine
  rw [if_pos w1, b3]
  rfl
theorem rd_odd {a d : Nat} {t : Tk} {P M : List (Nat × Nat)} {L : Nat} {D : List Nat} (hX : ∀ j, T (a + j) = (59 :: 111 :: 100 :: 100 :: 32 :: (48 + d) :: 59 :: D).getD j 0) (hn : a + 7 ≤ n) (hd : d < 10) (ht : t.1 = 3) (hte : t.2.2.1 = a + 1) (hP : P.length < 20) :
    ∃ t', t'.1 = 3 ∧ t'.2.2.1 = a + 6 + 1 ∧ rdLine T n (tkN T n t) P M L = .ok (t', P ++ [(1, d)], M, L) := by
  have x1 : T (a + 1) = 111 := hX 1
  have x2 : T (a + 2) = 100 := hX 2
  have x3 : T (a + 3) = 100 := hX 3
  have x4 : T (a + 4) = 32 := hX 4
  have x5 : T (a + 5) = 48 + d := hX 5
  have x6 : T (a + 6) = 59 := hX 6
  obtain ⟨a1, a2, a3⟩ := tk_word (T := T) (n := n) (t := t) (e := a + 1) (k := 3) (by rw [ht]; decide) hte (by decide) (fun j hj => by
    rcases (show j = 0 ∨ j = 1 ∨ j = 2 by omega) with rfl | rfl | rfl
    · rw [show a + 1 + 0 = a + 1 by omega, x1]; decide
    · rw [show a + 1 + 1 = a + 2 by omega, x2]; decide
    · rw [show a + 1 + 2 = a + 3 by omega, x3]; decide) (by omega) (Or.inr (by rw [show a + 1 + 3 = a + 4 by omega, x4]; decide))
  obtain ⟨t', b1, b2, b3⟩ := rd_place (T := T) (n := n) (o := 1) (d := d) (e := a + 4) (t1 := tkN T n t) (P := P) a3 x4 x5 hd x6 (by omega) hP
  refine ⟨t', b1, b2, ?_⟩
  have w1 : ¬ pD (wdAt T 1 (tkN T n t)) = true := wd_len a2 a3 (by decide)
  have w2 : pD (wdAt T 2 (tkN T n t)) = true := wd_yes a1 a2 a3 (fun j hj => by
    have hj : j < 3 := hj
    rcases (show j = 0 ∨ j = 1 ∨ j = 2 by omega) with rfl | rfl | rfl
    · rw [show a + 1 + 0 = a + 1 by omega, x1]; rfl
    · rw [show a + 1 + 1 = a + 2 by omega, x2]; rfl
    · rw [show a + 1 + 2 = a + 3 by omega, x3]; rfl)
  unfold rdLine
  rw [if_neg w1, if_pos w2, b3]
  rfl
theorem rd_move {a x y : Nat} {t : Tk} {P M : List (Nat × Nat)} {L : Nat} {D : List Nat} (hX : ∀ j, T (a + j) = (59 :: 109 :: 111 :: 118 :: 101 :: 32 :: (48 + x) :: 32 :: (48 + y) :: 59 :: D).getD j 0) (hn : a + 10 ≤ n) (hx : x < P.length) (hy : y < P.length) (hP : P.length ≤ 10) (ht : t.1 = 3) (hte : t.2.2.1 = a + 1) (hno : ¬ gEd M x y) (hM : M.length < 60) :
    ∃ t', t'.1 = 3 ∧ t'.2.2.1 = a + 9 + 1 ∧ rdLine T n (tkN T n t) P M L = .ok (t', P, M ++ [(x, y)], L) := by
  have x1 : T (a + 1) = 109 := hX 1
  have x2 : T (a + 2) = 111 := hX 2
  have x3 : T (a + 3) = 118 := hX 3
  have x4 : T (a + 4) = 101 := hX 4
  have x5 : T (a + 5) = 32 := hX 5
  have x6 : T (a + 6) = 48 + x := hX 6
  have x7 : T (a + 7) = 32 := hX 7
  have x8 : T (a + 8) = 48 + y := hX 8
  have x9 : T (a + 9) = 59 := hX 9
  obtain ⟨a1, a2, a3⟩ := tk_word (T := T) (n := n) (t := t) (e := a + 1) (k := 4) (by rw [ht]; decide) hte (by decide) (fun j hj => by
    rcases (show j = 0 ∨ j = 1 ∨ j = 2 ∨ j = 3 by omega) with rfl | rfl | rfl | rfl
    · rw [show a + 1 + 0 = a + 1 by omega, x1]; decide
    · rw [show a + 1 + 1 = a + 2 by omega, x2]; decide
    · rw [show a + 1 + 2 = a + 3 by omega, x3]; decide
    · rw [show a + 1 + 3 = a + 4 by omega, x4]; decide) (by omega) (Or.inr (by rw [show a + 1 + 4 = a + 5 by omega, x5]; decide))
  obtain ⟨b1, b2, b3⟩ := tk_num (T := T) (n := n) (e := a + 5) (d := x) (t := tkN T n t) a3 x5 x6 (by omega) (by omega) (Or.inr (by rw [show a + 5 + 2 = a + 7 by omega, x7]; decide))
  obtain ⟨c1, c2, c3⟩ := tk_num (T := T) (n := n) (e := a + 7) (d := y) (t := tkN T n (tkN T n t)) b2 x7 x8 (by omega) (by omega) (Or.inr (by rw [show a + 7 + 2 = a + 9 by omega, x9]; decide))
  obtain ⟨d1, d2⟩ := tk_semi (T := T) (n := n) (e := a + 9) (t := tkN T n (tkN T n (tkN T n t))) c2 x9 (by omega)
  refine ⟨_, d1, d2, ?_⟩
  have w1 : ¬ pD (wdAt T 1 (tkN T n t)) = true := wd_first a2 (by decide) x1 (by decide)
  have w2 : ¬ pD (wdAt T 2 (tkN T n t)) = true := wd_len a2 a3 (by decide)
  have w3 : pD (wdAt T 3 (tkN T n t)) = true := wd_yes a1 a2 a3 (fun j hj => by
    have hj : j < 4 := hj
    rcases (show j = 0 ∨ j = 1 ∨ j = 2 ∨ j = 3 by omega) with rfl | rfl | rfl | rfl
    · rw [show a + 1 + 0 = a + 1 by omega, x1]; rfl
    · rw [show a + 1 + 1 = a + 2 by omega, x2]; rfl
    · rw [show a + 1 + 2 = a + 3 by omega, x3]; rfl
    · rw [show a + 1 + 3 = a + 4 by omega, x4]; rfl)
  have er : rdMoves T n P.length (tkN T n t) M = .ok (tkN T n (tkN T n (tkN T n (tkN T n t))), M ++ [(x, y)]) := by
    unfold rdMoves
    rw [if_neg (fun q => q b1), if_neg (by rw [b3]; exact fun q => q hx), if_neg (fun q => q c1), b3]
    simp only [rdMv]
    rw [if_neg (fun q => q c1), if_neg (by rw [c3]; exact fun q => q hy), if_neg (by rw [c3]; exact fun q => hno (pD_t.mp q)), if_neg (by omega), c3]
    exact rdMv_no (by rw [d1]; decide) n
  unfold rdLine
  rw [if_neg w1, if_neg w2, if_pos w3, er]
  rfl
theorem rd_token {a d : Nat} {t : Tk} {P M : List (Nat × Nat)} {L : Nat} {D : List Nat} (hX : ∀ j, T (a + j) = (59 :: 116 :: 111 :: 107 :: 101 :: 110 :: 32 :: (48 + d) :: D).getD j 0) (hn : a + 8 = n) (hd : d < P.length) (hP : P.length ≤ 10) (ht : t.1 = 3) (hte : t.2.2.1 = a + 1) :
    ∃ t', t'.1 = 0 ∧ rdLine T n (tkN T n t) P M L = .ok (t', P, M, d) := by
  have x1 : T (a + 1) = 116 := hX 1
  have x2 : T (a + 2) = 111 := hX 2
  have x3 : T (a + 3) = 107 := hX 3
  have x4 : T (a + 4) = 101 := hX 4
  have x5 : T (a + 5) = 110 := hX 5
  have x6 : T (a + 6) = 32 := hX 6
  have x7 : T (a + 7) = 48 + d := hX 7
  obtain ⟨a1, a2, a3⟩ := tk_word (T := T) (n := n) (t := t) (e := a + 1) (k := 5) (by rw [ht]; decide) hte (by decide) (fun j hj => by
    rcases (show j = 0 ∨ j = 1 ∨ j = 2 ∨ j = 3 ∨ j = 4 by omega) with rfl | rfl | rfl | rfl | rfl
    · rw [show a + 1 + 0 = a + 1 by omega, x1]; decide
    · rw [show a + 1 + 1 = a + 2 by omega, x2]; decide
    · rw [show a + 1 + 2 = a + 3 by omega, x3]; decide
    · rw [show a + 1 + 3 = a + 4 by omega, x4]; decide
    · rw [show a + 1 + 4 = a + 5 by omega, x5]; decide) (by omega) (Or.inr (by rw [show a + 1 + 5 = a + 6 by omega, x6]; decide))
  obtain ⟨b1, b2, b3⟩ := tk_num (T := T) (n := n) (e := a + 6) (d := d) (t := tkN T n t) a3 x6 x7 (by omega) (by omega) (Or.inl (by omega))
  refine ⟨tkN T n (tkN T n (tkN T n t)), tk_end (by rw [b2]; omega), ?_⟩
  have w1 : ¬ pD (wdAt T 1 (tkN T n t)) = true := wd_len a2 a3 (by decide)
  have w2 : ¬ pD (wdAt T 2 (tkN T n t)) = true := wd_len a2 a3 (by decide)
  have w3 : ¬ pD (wdAt T 3 (tkN T n t)) = true := wd_len a2 a3 (by decide)
  have w4 : pD (wdAt T 4 (tkN T n t)) = true := wd_yes a1 a2 a3 (fun j hj => by
    have hj : j < 5 := hj
    rcases (show j = 0 ∨ j = 1 ∨ j = 2 ∨ j = 3 ∨ j = 4 by omega) with rfl | rfl | rfl | rfl | rfl
    · rw [show a + 1 + 0 = a + 1 by omega, x1]; rfl
    · rw [show a + 1 + 1 = a + 2 by omega, x2]; rfl
    · rw [show a + 1 + 2 = a + 3 by omega, x3]; rfl
    · rw [show a + 1 + 3 = a + 4 by omega, x4]; rfl
    · rw [show a + 1 + 4 = a + 5 by omega, x5]; rfl)
  unfold rdLine
  rw [if_neg w1, if_neg w2, if_neg w3, if_pos w4]
  unfold rdToken
  rw [if_neg (fun q => q b1), if_neg (by rw [b3]; exact fun q => q hd), b3]
theorem plCh_0 (d : Nat) : plCh (0, d) = [59, 101, 118, 101, 110, 32, 48 + d] := rfl
theorem plCh_1 (d : Nat) : plCh (1, d) = [59, 111, 100, 100, 32, 48 + d] := rfl
theorem mvCh_x (x y : Nat) : mvCh (x, y) = [59, 109, 111, 118, 101, 32, 48 + x, 32, 48 + y] := rfl
theorem pl_hd (D : List Nat) : ∀ pl : List (Nat × Nat), ∃ D', pl.flatMap plCh ++ 59 :: D = 59 :: D'
  | [] => ⟨D, rfl⟩
  | (o, d) :: pl => by
    rw [List.flatMap_cons]
    by_cases h : o = 0
    · subst h
      exact ⟨_, rfl⟩
    · unfold plCh
      rw [if_neg h]
      exact ⟨_, rfl⟩
theorem mv_hd (D : List Nat) : ∀ mv : List (Nat × Nat), ∃ D', mv.flatMap mvCh ++ 59 :: D = 59 :: D'
  | [] => ⟨D, rfl⟩
  | (x, y) :: mv => by
    rw [List.flatMap_cons]
    exact ⟨_, rfl⟩
theorem rd_pls : ∀ (pl : List (Nat × Nat)) (a : Nat) (P M : List (Nat × Nat)) (L f : Nat) (t : Tk) (D : List Nat), (∀ j, T (a + j) = (pl.flatMap plCh ++ 59 :: D).getD j 0) → a + (pl.flatMap plCh).length + 1 ≤ n → t.1 = 3 → t.2.2.1 = a + 1 → pl.length ≤ f → P.length + pl.length ≤ 20 → gmPl pl →
    ∃ t', t'.1 = 3 ∧ t'.2.2.1 = a + (pl.flatMap plCh).length + 1 ∧ rdAll T n f t P M L = rdAll T n (f - pl.length) t' (P ++ pl) M L
  | [], a, P, M, L, f, t, D, hX, hn, ht, hte, hf, hP, hg => ⟨t, ht, hte, by rw [List.append_nil]; rfl⟩
  | (o, d) :: pl, a, P, M, L, f, t, D, hX, hn, ht, hte, hf, hP, hg => by
    obtain ⟨f, rfl⟩ : ∃ f', f = f' + 1 := ⟨f - 1, by rw [List.length_cons] at hf; omega⟩
    have h0 := hg (o, d) List.mem_cons_self
    have hg' : gmPl pl := fun x hx => hg x (List.mem_cons_of_mem _ hx)
    rw [List.length_cons] at hf hP
    obtain ⟨D', hD'⟩ := pl_hd D pl
    have go : ∀ (k : Nat) (t' : Tk), (plCh (o, d)).length = k → t'.1 = 3 → t'.2.2.1 = a + k + 1 → rdLine T n (tkN T n t) P M L = .ok (t', P ++ [(o, d)], M, L) → (∀ j, T (a + k + j) = (pl.flatMap plCh ++ 59 :: D).getD j 0) →
        ∃ t', t'.1 = 3 ∧ t'.2.2.1 = a + (((o, d) :: pl).flatMap plCh).length + 1 ∧ rdAll T n (f + 1) t P M L = rdAll T n (f + 1 - (pl.length + 1)) t' (P ++ (o, d) :: pl) M L := by
      intro k t' hk h1 h2 h3 h4
      rw [List.flatMap_cons, List.length_append, hk] at hn ⊢
      obtain ⟨t2, c1, c2, c3⟩ := rd_pls pl (a + k) (P ++ [(o, d)]) M L f t' D h4 (by omega) h1 h2 (by omega) (by rw [List.length_append, List.length_singleton]; omega) hg'
      refine ⟨t2, c1, by omega, ?_⟩
      simp only [rdAll]
      rw [if_pos ht, h3, show f + 1 - (pl.length + 1) = f - pl.length by omega]
      show rdAll T n f t' (P ++ [(o, d)]) M L = _
      rw [c3, List.append_assoc]
      rfl
    have ho := h0.1
    rcases (show o = 0 ∨ o = 1 by omega) with rfl | rfl
    · have hX2 : ∀ j, T (a + j) = (59 :: 101 :: 118 :: 101 :: 110 :: 32 :: (48 + d) :: 59 :: D').getD j 0 := fun j => by
        rw [hX j, List.flatMap_cons, List.append_assoc, hD', plCh_0]
        rfl
      obtain ⟨t', b1, b2, b3⟩ := rd_even (n := n) (t := t) (P := P) (M := M) (L := L) hX2 (by rw [List.flatMap_cons, List.length_append, plCh_0] at hn; have : [59, 101, 118, 101, 110, 32, 48 + d].length = 7 := rfl; omega) h0.2 ht hte (by omega)
      refine go 7 t' rfl b1 b2 b3 (fun j => ?_)
      rw [hD', Nat.add_assoc, Nat.add_comm 7 j, hX2 (j + 7)]
      rfl
    · have hX2 : ∀ j, T (a + j) = (59 :: 111 :: 100 :: 100 :: 32 :: (48 + d) :: 59 :: D').getD j 0 := fun j => by
        rw [hX j, List.flatMap_cons, List.append_assoc, hD', plCh_1]
        rfl
      obtain ⟨t', b1, b2, b3⟩ := rd_odd (n := n) (t := t) (P := P) (M := M) (L := L) hX2 (by rw [List.flatMap_cons, List.length_append, plCh_1] at hn; have : [59, 111, 100, 100, 32, 48 + d].length = 6 := rfl; omega) h0.2 ht hte (by omega)
      refine go 6 t' rfl b1 b2 b3 (fun j => ?_)
      rw [hD', Nat.add_assoc, Nat.add_comm 6 j, hX2 (j + 6)]
      rfl
theorem rd_mvs : ∀ (mv : List (Nat × Nat)) (a : Nat) (P M : List (Nat × Nat)) (L f : Nat) (t : Tk) (D : List Nat), (∀ j, T (a + j) = (mv.flatMap mvCh ++ 59 :: D).getD j 0) → a + (mv.flatMap mvCh).length + 1 ≤ n → t.1 = 3 → t.2.2.1 = a + 1 → mv.length ≤ f → P.length ≤ 10 → (∀ x ∈ mv, x.1 < P.length ∧ x.2 < P.length) → (M ++ mv).Nodup → M.length + mv.length ≤ 60 →
    ∃ t', t'.1 = 3 ∧ t'.2.2.1 = a + (mv.flatMap mvCh).length + 1 ∧ rdAll T n f t P M L = rdAll T n (f - mv.length) t' P (M ++ mv) L
  | [], a, P, M, L, f, t, D, hX, hn, ht, hte, hf, hP, hg, hnd, hM => ⟨t, ht, hte, by rw [List.append_nil]; rfl⟩
  | (x, y) :: mv, a, P, M, L, f, t, D, hX, hn, ht, hte, hf, hP, hg, hnd, hM => by
    obtain ⟨f, rfl⟩ : ∃ f', f = f' + 1 := ⟨f - 1, by rw [List.length_cons] at hf; omega⟩
    have h0 := hg (x, y) List.mem_cons_self
    rw [List.length_cons] at hf hM
    obtain ⟨D', hD'⟩ := mv_hd D mv
    have hX2 : ∀ j, T (a + j) = (59 :: 109 :: 111 :: 118 :: 101 :: 32 :: (48 + x) :: 32 :: (48 + y) :: 59 :: D').getD j 0 := fun j => by
      rw [hX j, List.flatMap_cons, List.append_assoc, hD', mvCh_x]
      rfl
    rw [List.flatMap_cons, List.length_append, show (mvCh (x, y)).length = 9 from rfl] at hn ⊢
    have hno : ¬ gEd M x y := fun q => by
      have := (List.nodup_append.mp hnd).2.2 (x, y) (gEd_in.mp q) (x, y) List.mem_cons_self
      exact this rfl
    obtain ⟨t', b1, b2, b3⟩ := rd_move (n := n) (t := t) (P := P) (M := M) (L := L) hX2 (by omega) h0.1 h0.2 hP ht hte hno (by omega)
    obtain ⟨t2, c1, c2, c3⟩ := rd_mvs mv (a + 9) P (M ++ [(x, y)]) L f t' D (fun j => by
      rw [hD', Nat.add_assoc, Nat.add_comm 9 j, hX2 (j + 9)]
      rfl) (by omega) b1 b2 (by omega) hP (fun z hz => hg z (List.mem_cons_of_mem _ hz)) (by rw [List.append_assoc]; exact hnd) (by rw [List.length_append, List.length_singleton]; omega)
    refine ⟨t2, c1, by omega, ?_⟩
    simp only [rdAll]
    rw [if_pos ht, b3, List.length_cons, show f + 1 - (mv.length + 1) = f - mv.length by omega]
    show rdAll T n f t' P (M ++ [(x, y)]) L = _
    rw [c3, List.append_assoc]
    rfl
theorem gd_app {A C : List Nat} {j : Nat} : (A ++ C).getD (A.length + j) 0 = C.getD j 0 := by
  rw [List.getD_eq_getElem?_getD, List.getD_eq_getElem?_getD, List.getElem?_append_right (by omega), Nat.add_sub_cancel_left]
/-- the text that the law draws is read as the game that it shows -/
theorem rd_game {pl mv : List (Nat × Nat)} {tok : Nat} (Z : List Nat) (hpl : gmPl pl) (h1 : 0 < pl.length) (h9 : pl.length ≤ 9) (hmv : gmMv pl.length pl.length mv) (htok : tok < pl.length) :
    rdText (fun j => (((gmT pl mv ++ wT 8) ++ [48 + tok]) ++ Z).getD j 0) ((gmT pl mv ++ wT 8) ++ [48 + tok]).length = .ok (pl, mv, tok) := by
  have eX0 : (gmT pl mv ++ wT 8) ++ [48 + tok] = [103, 97, 109, 101] ++ (pl.flatMap plCh ++ (mv.flatMap mvCh ++ [59, 116, 111, 107, 101, 110, 32, 48 + tok])) := by
    unfold gmT
    rw [List.append_assoc, List.append_assoc, List.append_assoc]
    rfl
  have eX : ((gmT pl mv ++ wT 8) ++ [48 + tok]) ++ Z = [103, 97, 109, 101] ++ (pl.flatMap plCh ++ (mv.flatMap mvCh ++ (59 :: 116 :: 111 :: 107 :: 101 :: 110 :: 32 :: (48 + tok) :: Z))) := by
    rw [eX0, List.append_assoc, List.append_assoc, List.append_assoc]
    rfl
  rw [eX, eX0]
  have el : ([103, 97, 109, 101] ++ (pl.flatMap plCh ++ (mv.flatMap mvCh ++ [59, 116, 111, 107, 101, 110, 32, 48 + tok]))).length = 4 + (pl.flatMap plCh).length + (mv.flatMap mvCh).length + 8 := by
    rw [List.length_append, List.length_append, List.length_append]
    show 4 + (_ + (_ + 8)) = _
    omega
  rw [el]
  have hTX : ∀ (T : Nat → Nat), (∀ j, T j = ([103, 97, 109, 101] ++ (pl.flatMap plCh ++ (mv.flatMap mvCh ++ (59 :: 116 :: 111 :: 107 :: 101 :: 110 :: 32 :: (48 + tok) :: Z)))).getD j 0) → rdText T (4 + (pl.flatMap plCh).length + (mv.flatMap mvCh).length + 8) = .ok (pl, mv, tok) := by
    intro T hT
    obtain ⟨D1, hD1⟩ := mv_hd (116 :: 111 :: 107 :: 101 :: 110 :: 32 :: (48 + tok) :: Z) mv
    have hm2 := mvT_len mv
    have hA : ∀ j, T (4 + j) = (pl.flatMap plCh ++ 59 :: D1).getD j 0 := fun j => by
      rw [hT, ← hD1]
      exact gd_app (A := [103, 97, 109, 101])
    have hB : ∀ j, T (4 + (pl.flatMap plCh).length + j) = (mv.flatMap mvCh ++ 59 :: (116 :: 111 :: 107 :: 101 :: 110 :: 32 :: (48 + tok) :: Z)).getD j 0 := fun j => by
      rw [Nat.add_assoc, hA, ← hD1]
      exact gd_app
    have hC : ∀ j, T (4 + (pl.flatMap plCh).length + (mv.flatMap mvCh).length + j) = (59 :: 116 :: 111 :: 107 :: 101 :: 110 :: 32 :: (48 + tok) :: Z).getD j 0 := fun j => by
      rw [Nat.add_assoc, hB]
      exact gd_app
    obtain ⟨D2, hD2⟩ := pl_hd D1 pl
    have x0 : T 0 = 103 := hT 0
    have x1 : T 1 = 97 := hT 1
    have x2 : T 2 = 109 := hT 2
    have x3 : T 3 = 101 := hT 3
    have x4 : T 4 = 59 := by
      have := hA 0
      rw [hD2] at this
      exact this
    generalize hn : 4 + (pl.flatMap plCh).length + (mv.flatMap mvCh).length + 8 = n
    obtain ⟨a1, a2, a3⟩ := tk_word (T := T) (n := n) (t := (0, 0, 0, 0)) (e := 0) (k := 4) (by decide) rfl (by decide) (fun j hj => by
      rcases (show j = 0 ∨ j = 1 ∨ j = 2 ∨ j = 3 by omega) with rfl | rfl | rfl | rfl
      · rw [Nat.zero_add, x0]; decide
      · rw [Nat.zero_add, x1]; decide
      · rw [Nat.zero_add, x2]; decide
      · rw [Nat.zero_add, x3]; decide) (by omega) (Or.inr (by rw [Nat.zero_add, x4]; decide))
    obtain ⟨b1, b2⟩ := tk_semi (T := T) (n := n) (e := 4) (t := tkN T n (0, 0, 0, 0)) (by rw [a3]) x4 (by omega)
    have w0 : pD (wdAt T 0 (tkN T n (0, 0, 0, 0))) = true := wd_yes a1 a2 a3 (fun j hj => by
      have hj : j < 4 := hj
      rcases (show j = 0 ∨ j = 1 ∨ j = 2 ∨ j = 3 by omega) with rfl | rfl | rfl | rfl
      · rw [Nat.zero_add, x0]; rfl
      · rw [Nat.zero_add, x1]; rfl
      · rw [Nat.zero_add, x2]; rfl
      · rw [Nat.zero_add, x3]; rfl)
    unfold rdText
    rw [if_pos w0]
    have hp7 : pl.length ≤ (pl.flatMap plCh).length := by
      have : ∀ pl : List (Nat × Nat), pl.length ≤ (pl.flatMap plCh).length := by
        intro pl
        induction pl with
        | nil => exact Nat.le_refl _
        | cons x pl ih =>
          rw [List.flatMap_cons, List.length_append, List.length_cons]
          have : 1 ≤ (plCh x).length := by
            unfold plCh
            rw [List.length_append, List.length_singleton]
            omega
          omega
      exact this pl
    have hmv3 := hmv.2.2
    obtain ⟨t1, c1, c2, c3⟩ := rd_pls (T := T) (n := n) pl 4 [] [] 0 (n + 2) _ D1 hA (by omega) b1 b2 (by omega) (by show 0 + pl.length ≤ 20; omega) hpl
    obtain ⟨t2, d1, d2, d3⟩ := rd_mvs (T := T) (n := n) mv (4 + (pl.flatMap plCh).length) pl [] 0 (n + 2 - pl.length) t1 (116 :: 111 :: 107 :: 101 :: 110 :: 32 :: (48 + tok) :: Z) hB (by omega) c1 c2 (by omega) (by omega) hmv.2.1 hmv.1 (by show 0 + mv.length ≤ 60; omega)
    obtain ⟨t3, e1, e2⟩ := rd_token (T := T) (n := n) (t := t2) (P := pl) (M := mv) (L := 0) hC hn htok (by omega) d1 d2
    rw [c3]
    show rdAll T n (n + 2 - pl.length) t1 pl [] 0 = _
    rw [d3]
    show rdAll T n (n + 2 - pl.length - mv.length) t2 pl mv 0 = _
    obtain ⟨f, hf⟩ : ∃ f, n + 2 - pl.length - mv.length = f + 2 := ⟨n - pl.length - mv.length, by omega⟩
    rw [hf]
    simp only [rdAll]
    rw [if_pos d1, e2]
    show (if t3.1 = 3 then _ else if t3.1 ≠ 0 then _ else if pl.length = 0 then _ else Except.ok (pl, mv, tok)) = _
    rw [if_neg (by rw [e1]; decide), if_neg (fun q => q e1), if_neg (show ¬ pl.length = 0 by omega)]
  exact hTX _ (fun _ => rfl)
end PARSE
