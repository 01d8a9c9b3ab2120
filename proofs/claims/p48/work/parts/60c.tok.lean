/-! the texts: tokens, as the class and the reference cut them -/
theorem nn {a b : Nat} (h : Nat.beq a b = false) : ¬ a = b := Nat.ne_of_beq_eq_false h
def isBl (x : Nat) : Bool := decide (x = 32 ∨ x = 10)
def isLe (x : Nat) : Bool := decide (97 ≤ x ∧ x ≤ 122)
def isDi (x : Nat) : Bool := decide (48 ≤ x ∧ x ≤ 57)
def rnF (p : Nat → Bool) : Nat → Nat → Nat
  | 0, a => a
  | f + 1, a => if p a = true then rnF p f (a + 1) else a
def rn (p : Nat → Bool) (n a : Nat) : Nat := rnF p (n - a) a
theorem rn_out {p : Nat → Bool} {n a : Nat} (h : n ≤ a) : rn p n a = a := by
  unfold rn
  rw [show n - a = 0 by omega]
  rfl
theorem rn_yes {p : Nat → Bool} {n a : Nat} (h : a < n) (hp : p a = true) : rn p n a = rn p n (a + 1) := by
  unfold rn
  obtain ⟨d, hd⟩ : ∃ d, n - a = d + 1 := ⟨n - a - 1, by omega⟩
  rw [hd, show n - (a + 1) = d by omega]
  simp only [rnF, hp, if_true]
theorem rn_no {p : Nat → Bool} {n a : Nat} (hp : ¬ p a = true) : rn p n a = a := by
  unfold rn
  cases n - a with
  | zero => rfl
  | succ d => simp only [rnF, if_neg hp]
theorem rn_all {p : Nat → Bool} {n : Nat} : ∀ (d a : Nat), n - a = d → a ≤ rn p n a ∧ (a ≤ n → rn p n a ≤ n) ∧ (∀ j, a ≤ j → j < rn p n a → p j = true) ∧ (rn p n a < n → ¬ p (rn p n a) = true)
  | 0, a, h => by
    rw [rn_out (by omega)]
    exact ⟨Nat.le_refl _, fun q => q, fun j h1 h2 => by omega, fun q => by omega⟩
  | d + 1, a, h => by
    by_cases hp : p a = true
    · obtain ⟨h1, h2, h3, h4⟩ := rn_all (p := p) (n := n) d (a + 1) (by omega)
      rw [rn_yes (by omega) hp]
      refine ⟨by omega, fun _ => h2 (by omega), fun j q1 q2 => ?_, h4⟩
      rcases Nat.eq_or_lt_of_le q1 with e | e
      · rw [← e]; exact hp
      · exact h3 j (by omega) q2
    · rw [rn_no hp]
      exact ⟨Nat.le_refl _, fun q => q, fun j h1 h2 => by omega, fun _ => hp⟩
theorem rn_ge {p : Nat → Bool} {n a : Nat} : a ≤ rn p n a := (rn_all _ a rfl).1
theorem rn_le {p : Nat → Bool} {n a : Nat} (h : a ≤ n) : rn p n a ≤ n := (rn_all _ a rfl).2.1 h
theorem rn_in {p : Nat → Bool} {n a j : Nat} (h1 : a ≤ j) (h2 : j < rn p n a) : p j = true := (rn_all _ a rfl).2.2.1 j h1 h2
/-- a loop that runs over what p holds of -/
theorem rn_lp {F : (Int32 → Prop) → Int32 → Prop} {p : Nat → Bool} {n a : Nat} (hn : n ≤ 600) (ha : a ≤ n) (hx : ∀ rec, F rec (nI n) ∨ rn p n a < n) (hs : ∀ rec k, k < n → (p k = true → rec (nI k + 1)) → (¬ p k = true → k = rn p n a) → F rec (nI k)) : ∃ m, fx1 F m (nI a) := by
  refine fx1_go (fun v => ∃ k, a ≤ k ∧ k ≤ rn p n a ∧ v = nI k) (fun v => n - v.toNatClampNeg) ?_ _ ⟨a, Nat.le_refl _, rn_ge, rfl⟩
  rintro rec v ⟨k, h1, h2, rfl⟩ hrec
  have h3 := rn_le (p := p) ha
  rcases Nat.lt_or_ge k n with q | q
  · refine hs rec k q (fun hp => ?_) (fun hp => ?_)
    · refine hrec _ ⟨k + 1, by omega, ?_, nI_1 k⟩ (by rw [nI_1, nI_clamp (by omega), nI_clamp (by omega)]; omega)
      rcases Nat.eq_or_lt_of_le h2 with e | e
      · exact absurd (show p (rn p n a) = true by rw [← e]; exact hp) ((rn_all _ a rfl).2.2.2 (by omega))
      · exact e
    · rcases Nat.eq_or_lt_of_le h2 with e | e
      · exact e
      · exact absurd (rn_in h1 e) hp
  · have e : k = n := by omega
    subst e
    rcases hx rec with h | h
    · exact h
    · omega
def vaF (T : Nat → Nat) (s : Nat) : Nat → Nat
  | 0 => 0
  | d + 1 => 10 * vaF T s d + (T (s + d) - 48)
/-- what stands at s: its kind and its end -/
def tokB (T : Nat → Nat) (n s : Nat) : Nat × Nat :=
  if n ≤ s then (0, s) else if T s = 59 then (3, s + 1) else if s < rn (fun j => isLe (T j)) n s then (1, rn (fun j => isLe (T j)) n s)
  else if s < rn (fun j => isDi (T j)) n s ∧ rn (fun j => isDi (T j)) n s - s ≤ 3 then (2, rn (fun j => isDi (T j)) n s) else (4, s + 1)
/-- the next token after one of kind k that ended at e: kind, start, end -/
def tokS (T : Nat → Nat) (n e : Nat) : Nat := rn (fun j => isBl (T j)) n e
abbrev tokG (T : Nat → Nat) (n k e : Nat) : Prop := (k = 1 ∨ k = 2) ∧ tokS T n e = e ∧ ((tokB T n (tokS T n e)).1 = 1 ∨ (tokB T n (tokS T n e)).1 = 2)
def tokK (T : Nat → Nat) (n k e : Nat) : Nat := if tokG T n k e then 4 else (tokB T n (tokS T n e)).1
def tokE (T : Nat → Nat) (n e : Nat) : Nat := (tokB T n (tokS T n e)).2
def tokV (T : Nat → Nat) (n e : Nat) : Nat := vaF T (tokS T n e) (tokE T n e - tokS T n e)
/-- what a program holds after it: (kind, start, end, value) -/
def tokR (T : Nat → Nat) (n k e : Nat) (k' s' e' v' : Int32) : Prop :=
  k' = nI (tokK T n k e) ∧ s' = nI (tokS T n e) ∧ (∃ b, b ≤ n ∧ e' = nI b ∧ (tokK T n k e ≠ 4 → b = tokE T n e)) ∧ (tokK T n k e = 2 → v' = nI (tokV T n e))
theorem tokS_le {T : Nat → Nat} {n e : Nat} (h : e ≤ n) : tokS T n e ≤ n := rn_le h
theorem tokS_ge {T : Nat → Nat} {n e : Nat} : e ≤ tokS T n e := rn_ge
theorem vaF_lt {T : Nat → Nat} {s : Nat} : ∀ d, (∀ j, s ≤ j → j < s + d → isDi (T j) = true) → vaF T s d < 10 ^ d
  | 0, _ => Nat.zero_lt_one
  | d + 1, h => by
    have h1 := vaF_lt (T := T) (s := s) d (fun j q1 q2 => h j q1 (by omega))
    have h2 := of_decide_eq_true (h (s + d) (by omega) (by omega))
    simp only [vaF, Nat.pow_succ]
    omega
theorem txt_in {k n : Nat} (hk : k < n) (hn : n ≤ 600) : vp_in (nI k) 600 := vp_in_nI (by omega) (by decide)
section ADV
variable {T : Nat → Nat} {n k e s : Nat} {text : Nat → Int32} {v : Int32}
theorem x5_blanks {post : Int32 → Prop} (hn : n ≤ 600) (he : e ≤ n) (hT : ∀ j, j < n → text j = nI (T j) ∧ T j < 256) (h : post (nI (tokS T n e))) : wp_X4_blanksEnd (nI e) (nI n) text post := by
  unfold wp_X4_blanksEnd
  refine rn_lp (p := fun j => isBl (T j)) hn he (fun rec => ?_) (fun rec j hj h1 h2 => ?_)
  · by_cases q : tokS T n e < n
    · exact Or.inr q
    · unfold F_X4_blanksEnd_2
      refine Or.inl ⟨fun _ => ?_, fun q9 => absurd (Int32.le_refl _) q9⟩
      have e9 : tokS T n e = n := by have := tokS_le (T := T) he; omega
      rw [e9] at h
      exact h
  · unfold F_X4_blanksEnd_2
    rw [nI_clamp (show j < 2 ^ 31 by omega), (hT j hj).1]
    have c := (hT j hj).2
    have e1 : nI (T j) = (32 : Int32) ↔ T j = 32 := nI_eq (b := 32) (by omega) (by decide)
    have e2 : nI (T j) = (10 : Int32) ↔ T j = 10 := nI_eq (b := 10) (by omega) (by decide)
    refine ⟨fun q => absurd q (nI_ge hj (by omega)), fun _ => ⟨txt_in hj hn, fun q => h1 (decide_eq_true (Or.inl (e1.mp q))), fun q => ⟨txt_in hj hn, fun q2 => ?_, fun q2 => h1 (decide_eq_true (Or.inr (e2.mp q2)))⟩⟩⟩
    rw [h2 (fun q3 => (of_decide_eq_true q3).elim (fun z => q (e1.mpr z)) (fun z => q2 (e2.mpr z)))]
    exact h
theorem x5_runEnd {post : Int32 → Prop} {a b : Nat} (ha : a < 256) (hb : b < 256) (hn : n ≤ 600) (hs : s ≤ n) (hT : ∀ j, j < n → text j = nI (T j) ∧ T j < 256) {p : Nat → Bool} (hp : ∀ x, p x = true ↔ a ≤ x ∧ x ≤ b) (h : post (nI (rn (fun j => p (T j)) n s))) : wp_X4_runEnd (nI a) (nI b) (nI n) (nI s) text post := by
  unfold wp_X4_runEnd
  refine rn_lp (p := fun j => p (T j)) hn hs (fun rec => ?_) (fun rec j hj h1 h2 => ?_)
  · by_cases q : rn (fun j => p (T j)) n s < n
    · exact Or.inr q
    · unfold F_X4_runEnd_5
      refine Or.inl ⟨fun _ => ?_, fun q9 => absurd (Int32.le_refl _) q9⟩
      have e9 : rn (fun j => p (T j)) n s = n := by have := rn_le (p := fun j => p (T j)) hs; omega
      rw [e9] at h
      exact h
  · unfold F_X4_runEnd_5
    rw [nI_clamp (show j < 2 ^ 31 by omega), (hT j hj).1]
    have c := (hT j hj).2
    have e1 : nI (T j) < nI a ↔ T j < a := nI_ltI (by omega) (by omega)
    have e2 : nI b < nI (T j) ↔ b < T j := nI_ltI (by omega) (by omega)
    refine ⟨fun q => absurd q (nI_ge hj (by omega)), fun _ => ⟨txt_in hj hn, fun q => ?_, fun q => ⟨txt_in hj hn, fun q2 => ?_, fun q2 => h1 ((hp _).mpr ⟨by have := mt e1.mpr q; omega, by have := mt e2.mpr q2; omega⟩)⟩⟩⟩
    · rw [h2 (fun z => by have := (hp _).mp z; have := e1.mp q; omega)]; exact h
    · rw [h2 (fun z => by have := (hp _).mp z; have := e2.mp q2; omega)]; exact h
theorem x5_takeValue {post : Int32 → Prop} {b : Nat} (hn : n ≤ 600) (hs : s ≤ b) (hb : b ≤ n) (hT : ∀ j, j < n → text j = nI (T j) ∧ T j < 256) (hd : ∀ j, s ≤ j → j < b → isDi (T j) = true) (h : post (nI (vaF T s (b - s)))) : wp_X4_takeValue (nI s) (nI b) text post := by
  unfold wp_X4_takeValue
  refine up2i b (by omega) (fun j x => s ≤ j ∧ x = nI (vaF T s (j - s))) s (0 : Int32) hs ⟨Nat.le_refl _, by rw [Nat.sub_self]; rfl⟩ (fun rec x hx => ?_) (fun rec j x hj hx hrec => ?_)
  · unfold F_X4_takeValue_10
    rw [hx.2]
    exact ⟨fun _ => h, fun q => absurd (Int32.le_refl _) q⟩
  · unfold F_X4_takeValue_10
    refine ⟨fun q => absurd q (nI_ge hj (by omega)), fun _ => ⟨txt_in (by omega) hn, hrec _ ⟨by omega, ?_⟩⟩⟩
    obtain ⟨h1, rfl⟩ := hx
    have c := of_decide_eq_true (hd j h1 hj)
    rw [nI_clamp (show j < 2 ^ 31 by omega), (hT j (by omega)).1, show j + 1 - s = (j - s) + 1 by omega]
    show nI 10 * nI (vaF T s (j - s)) + nI (T j) - nI 48 = _
    rw [i_mul, nI_add, i_subn (by omega)]
    simp only [vaF]
    rw [show s + (j - s) = j by omega]
    congr 1
    omega
theorem x5_takeRun {post : Int32 → Int32 → Int32 → Prop} (hn : n ≤ 600) (hs : s < n) (hT : ∀ j, j < n → text j = nI (T j) ∧ T j < 256) (h59 : ¬ T s = 59)
    (h : ∀ b v', b ≤ n → ((tokB T n s).1 ≠ 4 → b = (tokB T n s).2) → ((tokB T n s).1 = 2 → v' = nI (vaF T s ((tokB T n s).2 - s))) → post (nI (tokB T n s).1) (nI b) v') : wp_X4_takeRun (nI n) (nI s) v text post := by
  unfold wp_X4_takeRun
  have hL := rn_le (p := fun j => isLe (T j)) (Nat.le_of_lt hs)
  have hD := rn_le (p := fun j => isDi (T j)) (Nat.le_of_lt hs)
  have gL := rn_ge (p := fun j => isLe (T j)) (n := n) (a := s)
  have gD := rn_ge (p := fun j => isDi (T j)) (n := n) (a := s)
  have e0 : ¬ n ≤ s := by omega
  refine x5_runEnd (a := 97) (b := 122) (p := isLe) (by decide) (by decide) hn (Nat.le_of_lt hs) hT (fun x => ⟨fun q => of_decide_eq_true q, fun q => decide_eq_true q⟩) ⟨fun q1 => ?_, fun q1 => ?_⟩
  · have q1' := (nI_leI (by omega) (by omega)).mp q1
    refine x5_runEnd (a := 48) (b := 57) (p := isDi) (by decide) (by decide) hn (Nat.le_of_lt hs) hT (fun x => ⟨fun q => of_decide_eq_true q, fun q => decide_eq_true q⟩) ⟨fun q2 => ?_, fun q2 => ⟨fun q3 => ?_, fun q3 => ?_⟩⟩
    · have q2' := (nI_leI (by omega) (by omega)).mp q2
      have eB : tokB T n s = (4, s + 1) := by
        unfold tokB
        rw [if_neg e0, if_neg h59, if_neg (by omega), if_neg (by omega)]
      rw [eB] at h
      exact h _ _ hD (fun z => absurd rfl z) (fun z => absurd z (nn rfl))
    · have q2' := mt (nI_leI (by omega) (by omega)).mpr q2
      have q3' : 3 < rn (fun j => isDi (T j)) n s - s := by
        rw [i_subn gD] at q3
        exact (nI_ltI (a := 3) (by decide) (by omega)).mp q3
      have eB : tokB T n s = (4, s + 1) := by
        unfold tokB
        rw [if_neg e0, if_neg h59, if_neg (by omega), if_neg (by omega)]
      rw [eB] at h
      exact h _ _ hD (fun z => absurd rfl z) (fun z => absurd z (nn rfl))
    · have q2' := mt (nI_leI (by omega) (by omega)).mpr q2
      have q3' : ¬ 3 < rn (fun j => isDi (T j)) n s - s := fun z => q3 (by rw [i_subn gD]; exact (nI_ltI (a := 3) (by decide) (by omega)).mpr z)
      have eB : tokB T n s = (2, rn (fun j => isDi (T j)) n s) := by
        unfold tokB
        rw [if_neg e0, if_neg h59, if_neg (by omega), if_pos (by omega)]
      rw [eB] at h
      exact x5_takeValue hn gD hD hT (fun j z1 z2 => rn_in (p := fun j => isDi (T j)) z1 z2) (h _ _ hD (fun _ => rfl) (fun _ => rfl))
  · have q1' := mt (nI_leI (by omega) (by omega)).mpr q1
    have eB : tokB T n s = (1, rn (fun j => isLe (T j)) n s) := by
      unfold tokB
      rw [if_neg e0, if_neg h59, if_pos (by omega)]
    rw [eB] at h
    exact h _ _ hL (fun _ => rfl) (fun z => absurd z (nn rfl))
theorem tokB_lt {T : Nat → Nat} {n s : Nat} (hs : s ≤ n) : (tokB T n s).2 ≤ n ∧ s ≤ (tokB T n s).2 ∧ (tokB T n s).1 < 5 ∧ ((tokB T n s).1 ≠ 0 → s < (tokB T n s).2) ∧ ((tokB T n s).1 = 0 ↔ n ≤ s) ∧ ((tokB T n s).1 = 3 ↔ s < n ∧ T s = 59) := by
  have hL := rn_le (p := fun j => isLe (T j)) hs
  have hD := rn_le (p := fun j => isDi (T j)) hs
  unfold tokB
  by_cases e0 : n ≤ s
  · rw [if_pos e0]; exact ⟨hs, Nat.le_refl _, Nat.le_of_ble_eq_true rfl, fun z => absurd rfl z, ⟨fun _ => e0, fun _ => rfl⟩, ⟨fun z => absurd z (nn rfl), fun z => by omega⟩⟩
  · rw [if_neg e0]
    by_cases h59 : T s = 59
    · rw [if_pos h59]; exact ⟨by show s + 1 ≤ n; omega, by show s ≤ s + 1; omega, Nat.le_of_ble_eq_true rfl, fun _ => by show s < s + 1; omega, ⟨fun z => absurd z (nn rfl), fun z => absurd z e0⟩, ⟨fun _ => ⟨by omega, h59⟩, fun _ => rfl⟩⟩
    · rw [if_neg h59]
      by_cases q1 : s < rn (fun j => isLe (T j)) n s
      · rw [if_pos q1]; exact ⟨hL, Nat.le_of_lt q1, Nat.le_of_ble_eq_true rfl, fun _ => q1, ⟨fun z => absurd z (nn rfl), fun z => absurd z e0⟩, ⟨fun z => absurd z (nn rfl), fun z => absurd z.2 h59⟩⟩
      · rw [if_neg q1]
        by_cases q2 : s < rn (fun j => isDi (T j)) n s ∧ rn (fun j => isDi (T j)) n s - s ≤ 3
        · rw [if_pos q2]; exact ⟨hD, Nat.le_of_lt q2.1, Nat.le_of_ble_eq_true rfl, fun _ => q2.1, ⟨fun z => absurd z (nn rfl), fun z => absurd z e0⟩, ⟨fun z => absurd z (nn rfl), fun z => absurd z.2 h59⟩⟩
        · rw [if_neg q2]; exact ⟨by show s + 1 ≤ n; omega, by show s ≤ s + 1; omega, Nat.le_of_ble_eq_true rfl, fun _ => by show s < s + 1; omega, ⟨fun z => absurd z (nn rfl), fun z => absurd z e0⟩, ⟨fun z => absurd z (nn rfl), fun z => absurd z.2 h59⟩⟩
theorem x5_advIn {post : Int32 → Int32 → Int32 → Int32 → Prop} (f : Int32 → Int32) (hn : n ≤ 600) (he : e ≤ n) (hT : ∀ j, j < n → text j = nI (T j) ∧ T j < 256)
    (hf : ((k = 1 ∨ k = 2) ∧ tokS T n e = e → ∀ x, f x = 4) ∧ (¬ ((k = 1 ∨ k = 2) ∧ tokS T n e = e) → ∀ x, f x = x))
    (h : ∀ k' s' e' v', tokR T n k e k' s' e' v' → post k' s' e' v') :
    (nI (tokS T n e) < nI n → (vp_in (nI (tokS T n e)) 600 ∧ ((¬ (text (nI (tokS T n e)).toNatClampNeg) = (59 : Int32) → wp_X4_takeRun (nI n) (nI (tokS T n e)) v text (fun k' e' v' => post (f k') (nI (tokS T n e)) e' v')) ∧ ((text (nI (tokS T n e)).toNatClampNeg) = (59 : Int32) → post (3 : Int32) (nI (tokS T n e)) (nI (tokS T n e) + (1 : Int32)) v)))) ∧ (¬ nI (tokS T n e) < nI n → post (0 : Int32) (nI (tokS T n e)) (nI (tokS T n e)) v) := by
  have hs := tokS_le (T := T) he
  have hB := tokB_lt (T := T) hs
  generalize hst : tokS T n e = s at *
  refine ⟨fun q => ?_, fun q => ?_⟩
  · have hlt := (nI_ltI (by omega) (by omega)).mp q
    refine ⟨txt_in hlt hn, ?_⟩
    rw [nI_clamp (show s < 2 ^ 31 by omega), (hT s hlt).1]
    have c := (hT s hlt).2
    have e1 : nI (T s) = (59 : Int32) ↔ T s = 59 := nI_eq (b := 59) (by omega) (by decide)
    refine ⟨fun q2 => ?_, fun q2 => ?_⟩
    · have q3 : ¬ T s = 59 := fun z => q2 (e1.mpr z)
      refine x5_takeRun hn hlt hT q3 (fun b v' hb h1 h2 => ?_)
      refine h _ _ _ _ ⟨?_, by rw [hst], ⟨b, hb, rfl, fun z => ?_⟩, fun z => ?_⟩
      · unfold tokK tokG
        rw [hst]
        by_cases g : (k = 1 ∨ k = 2) ∧ s = e
        · rw [hf.1 g]
          by_cases g2 : (tokB T n s).1 = 1 ∨ (tokB T n s).1 = 2
          · rw [if_pos ⟨g.1, g.2, g2⟩]; rfl
          · rw [if_neg (fun z => g2 z.2.2)]
            have e4 : (tokB T n s).1 = 4 := by
              obtain ⟨_, _, b3, _, b5, b6⟩ := hB
              have : ¬ (tokB T n s).1 = 0 := fun z => by have := b5.mp z; omega
              have : ¬ (tokB T n s).1 = 3 := fun z => q3 (b6.mp z).2
              omega
            rw [e4]; rfl
        · rw [hf.2 g, if_neg (fun z => g ⟨z.1, z.2.1⟩)]
      · unfold tokE
        rw [hst]
        refine h1 (fun z4 => z ?_)
        unfold tokK tokG
        rw [hst]
        by_cases g : (k = 1 ∨ k = 2) ∧ s = e ∧ ((tokB T n s).1 = 1 ∨ (tokB T n s).1 = 2)
        · rw [if_pos g]
        · rw [if_neg g, z4]
      · unfold tokV tokE
        rw [hst]
        refine h2 ?_
        unfold tokK tokG at z
        rw [hst] at z
        by_cases g : (k = 1 ∨ k = 2) ∧ s = e ∧ ((tokB T n s).1 = 1 ∨ (tokB T n s).1 = 2)
        · rw [if_pos g] at z; exact absurd z (nn rfl)
        · rw [if_neg g] at z; exact z
    · have q3 := e1.mp q2
      have e3 : tokB T n s = (3, s + 1) := by
        unfold tokB
        rw [if_neg (by omega), if_pos q3]
      have eK : tokK T n k e = 3 := by
        unfold tokK tokG
        rw [hst, e3, if_neg (fun z => z.2.2.elim (fun y => absurd y (nn rfl)) (fun y => absurd y (nn rfl)))]
      refine h _ _ _ _ ⟨by rw [eK]; rfl, by rw [hst], ⟨s + 1, by omega, nI_1 s, fun _ => ?_⟩, fun z => ?_⟩
      · unfold tokE; rw [hst, e3]
      · rw [eK] at z; exact absurd z (nn rfl)
  · have hge : n ≤ s := by have := mt (nI_ltI (a := s) (b := n) (by omega) (by omega)).mpr q; omega
    have e3 : tokB T n s = (0, s) := by
      unfold tokB
      rw [if_pos hge]
    have eK : tokK T n k e = 0 := by
      unfold tokK tokG
      rw [hst, e3, if_neg (fun z => z.2.2.elim (fun y => absurd y (nn rfl)) (fun y => absurd y (nn rfl)))]
    refine h _ _ _ _ ⟨by rw [eK]; rfl, by rw [hst], ⟨s, hs, rfl, fun _ => ?_⟩, fun z => ?_⟩
    · unfold tokE; rw [hst, e3]
    · rw [eK] at z; exact absurd z (nn rfl)
theorem x5_advance {post : Int32 → Int32 → Int32 → Int32 → Prop} (hn : n ≤ 600) (he : e ≤ n) (hk : k < 5) (hT : ∀ j, j < n → text j = nI (T j) ∧ T j < 256)
    (h : ∀ k' s' e' v', tokR T n k e k' s' e' v' → post k' s' e' v') : wp_X4_advance (nI n) (nI k) (nI e) v text post := by
  have hs := tokS_le (T := T) he
  have hg := tokS_ge (T := T) (n := n) (e := e)
  have k1 : nI k = (1 : Int32) ↔ k = 1 := nI_eq (b := 1) (by omega) (by decide)
  have k2 : nI k = (2 : Int32) ↔ k = 2 := nI_eq (b := 2) (by omega) (by decide)
  have hle : nI (tokS T n e) ≤ nI e ↔ tokS T n e = e := ⟨fun q => by have := (nI_leI (by omega) (by omega)).mp q; omega, fun q => by rw [q]; exact Int32.le_refl _⟩
  unfold wp_X4_advance
  refine ⟨fun q1 => ?_, fun q1 => ⟨fun q2 => ?_, fun q2 => ?_⟩⟩
  · refine x5_blanks hn he hT ⟨fun q => ?_, fun q => ?_⟩
    · exact x5_advIn (k := k) (fun _ => 4) hn he hT ⟨fun _ _ => rfl, fun z => absurd ⟨Or.inl (k1.mp q1), hle.mp q⟩ z⟩ h
    · exact x5_advIn (k := k) (fun x => x) hn he hT ⟨fun z => absurd (hle.mpr z.2) q, fun _ _ => rfl⟩ h
  · have nz : ¬ (k = 1 ∨ k = 2) := fun z => z.elim (fun y => q1 (k1.mpr y)) (fun y => q2 (k2.mpr y))
    refine x5_blanks hn he hT ⟨fun q => ?_, fun q => ?_⟩
    · exact x5_advIn (k := k) (fun x => x) hn he hT ⟨fun z => absurd z.1 nz, fun _ _ => rfl⟩ h
    · exact x5_advIn (k := k) (fun x => x) hn he hT ⟨fun z => absurd z.1 nz, fun _ _ => rfl⟩ h
  · refine x5_blanks hn he hT ⟨fun q => ?_, fun q => ?_⟩
    · exact x5_advIn (k := k) (fun _ => 4) hn he hT ⟨fun _ _ => rfl, fun z => absurd ⟨Or.inr (k2.mp q2), hle.mp q⟩ z⟩ h
    · exact x5_advIn (k := k) (fun x => x) hn he hT ⟨fun z => absurd (hle.mpr z.2) q, fun _ _ => rfl⟩ h
end ADV
