/-! PARITY GAMES: who wins, by certificates. V: Nat; ow: the owner; ca: the call; E: the moves.
A certificate of player i on S: ranks, one for each call that is bad for i; from each place of S that i owns a move, from each other all moves, stay in S and keep the ranks of the calls from that of the place on, and make less that of the place's own call. -/
section CERT
variable {ow ca : Nat → Nat} {E : Nat → Nat → Prop}
def pOk (ca : Nat → Nat) (i : Nat) (r : Nat → Nat → Nat) (v w : Nat) : Prop := ∀ p, p % 2 ≠ i → ca v ≤ p → r p w + (if ca v = p then 1 else 0) ≤ r p v
def pCert (ow ca : Nat → Nat) (E : Nat → Nat → Prop) (i : Nat) (S : Nat → Prop) (r : Nat → Nat → Nat) : Prop :=
  ∀ v, S v → (ow v = i → ∃ w, E v w ∧ S w ∧ pOk ca i r v w) ∧ (ow v ≠ i → ∀ w, E v w → S w ∧ pOk ca i r v w)
/-- no set in which both go on -/
theorem p_noBoth {r0 r1 : Nat → Nat → Nat} : ∀ (c : Nat) (X : Nat → Prop), (∃ v, X v) → (∀ v, X v → ca v < c ∧ ∃ w, X w ∧ pOk ca 0 r0 v w ∧ pOk ca 1 r1 v w) → False := by
  intro c
  induction c with
  | zero => intro X ⟨v, hv⟩ h; exact absurd (h v hv).1 (Nat.not_lt_zero _)
  | succ c ih =>
    intro X hX h
    rcases Nat.mod_two_eq_zero_or_one c with hc | hc
    · obtain ⟨k, ⟨v, hv, hvk⟩, hmin⟩ := pk_least (fun k => ∃ v, X v ∧ r1 c v = k) (hX.elim fun v hv => ⟨_, v, hv, rfl⟩)
      refine ih (fun v => X v ∧ r1 c v = k) ⟨v, hv, hvk⟩ ?_
      intro u ⟨hu, huk⟩
      obtain ⟨h1, w, hw, h0, h2⟩ := h u hu
      have h3 := h2 c (by omega) (by omega)
      have h4 : ¬ r1 c w < k := fun q => hmin _ q ⟨w, hw, rfl⟩
      have h5 : ca u ≠ c := by
        intro q
        rw [if_pos q] at h3
        omega
      rw [if_neg h5] at h3
      exact ⟨by omega, w, ⟨hw, by omega⟩, h0, h2⟩
    · obtain ⟨k, ⟨v, hv, hvk⟩, hmin⟩ := pk_least (fun k => ∃ v, X v ∧ r0 c v = k) (hX.elim fun v hv => ⟨_, v, hv, rfl⟩)
      refine ih (fun v => X v ∧ r0 c v = k) ⟨v, hv, hvk⟩ ?_
      intro u ⟨hu, huk⟩
      obtain ⟨h1, w, hw, h0, h2⟩ := h u hu
      have h3 := h0 c (by omega) (by omega)
      have h4 : ¬ r0 c w < k := fun q => hmin _ q ⟨w, hw, rfl⟩
      have h5 : ca u ≠ c := by
        intro q
        rw [if_pos q] at h3
        omega
      rw [if_neg h5] at h3
      exact ⟨by omega, w, ⟨hw, by omega⟩, h0, h2⟩
/-- no place is won by both -/
theorem p_apart {S0 S1 : Nat → Prop} {r0 r1 : Nat → Nat → Nat} (ho : ∀ v, ow v < 2) {C : Nat} (hC : ∀ v, ca v < C) (h0 : pCert ow ca E 0 S0 r0) (h1 : pCert ow ca E 1 S1 r1) {v : Nat} (a : S0 v) (b : S1 v) : False := by
  refine p_noBoth (ca := ca) (r0 := r0) (r1 := r1) C (fun v => S0 v ∧ S1 v) ⟨v, a, b⟩ ?_
  intro u ⟨hu0, hu1⟩
  refine ⟨hC u, ?_⟩
  rcases Nat.lt_or_ge (ow u) 1 with q | q
  · obtain ⟨w, hw, hs, hk⟩ := (h0 u hu0).1 (by omega)
    obtain ⟨g1, g2⟩ := (h1 u hu1).2 (by omega) w hw
    exact ⟨w, ⟨hs, g1⟩, hk, g2⟩
  · have := ho u
    obtain ⟨w, hw, hs, hk⟩ := (h1 u hu1).1 (by omega)
    obtain ⟨g1, g2⟩ := (h0 u hu0).2 (by omega) w hw
    exact ⟨w, ⟨g1, hs⟩, g2, hk⟩
/-- the places that player i wins -/
def pWin (ow ca : Nat → Nat) (E : Nat → Nat → Prop) (i : Nat) (v : Nat) : Prop := ∃ S r, pCert ow ca E i S r ∧ S v
/-- a subgame: the moves between places of R -/
def pSub (E : Nat → Nat → Prop) (R : Nat → Prop) : Nat → Nat → Prop := fun v w => E v w ∧ R w
/-- what an attractor of player i to T in R is -/
def pAttr (ow : Nat → Nat) (E : Nat → Nat → Prop) (i : Nat) (T R A : Nat → Prop) : Prop :=
  (∀ v, T v → R v → A v) ∧ (∀ v, A v → R v) ∧
  (∃ ρ : Nat → Nat, (∃ M, ∀ v, A v → ρ v < M) ∧ ∀ v, A v → ¬ T v → (ow v = i → ∃ w, E v w ∧ A w ∧ ρ w < ρ v) ∧ (ow v ≠ i → (∃ w, E v w ∧ R w) ∧ ∀ w, E v w → R w → A w ∧ ρ w < ρ v)) ∧
  (∀ v, R v → ¬ A v → (ow v = i → ∀ w, E v w → ¬ A w) ∧ (ow v ≠ i → (∃ w, E v w ∧ R w) → ∃ w, E v w ∧ R w ∧ ¬ A w))
/-- from each place of R a move leads into R -/
def pTot (E : Nat → Nat → Prop) (R : Nat → Prop) : Prop := ∀ v, R v → ∃ w, E v w ∧ R w
theorem p_tot_out {i : Nat} {T R A : Nat → Prop} (hA : pAttr ow E i T R A) (hR : pTot E R) : pTot E (fun v => R v ∧ ¬ A v) := by
  intro v ⟨hv, hn⟩
  obtain ⟨a1, a2, -, a4⟩ := hA
  obtain ⟨b1, b2⟩ := a4 v hv hn
  obtain ⟨w, hw, hr⟩ := hR v hv
  by_cases q : ow v = i
  · exact ⟨w, hw, hr, b1 q w hw⟩
  · obtain ⟨w, g1, g2, g3⟩ := b2 q ⟨w, hw, hr⟩
    exact ⟨w, g1, g2, g3⟩
/-- the whole region is the player's whose call is the greatest, if he wins what is left when the places that pull to that call are taken out -/
theorem p_final {i top : Nat} {R A : Nat → Prop} {r : Nat → Nat → Nat} (hi : top % 2 = i) (hR : pTot E R) (hle : ∀ v, R v → ca v ≤ top)
    (hA : pAttr ow E i (fun v => ca v = top) R A) (hc : pCert ow ca (pSub E (fun v => R v ∧ ¬ A v)) i (fun v => R v ∧ ¬ A v) r) : ∃ r', pCert ow ca (pSub E R) i R r' := by
  obtain ⟨a1, a2, ⟨ρ, ⟨M, hM⟩, a3⟩, a4⟩ := hA
  classical
  refine ⟨fun p v => if top < p then 0 else if A v then ρ v else r p v + M, ?_⟩
  intro v hv
  by_cases hAv : A v
  · by_cases ht : ca v = top
    · have key : ∀ w, pOk ca i (fun p v => if top < p then 0 else if A v then ρ v else r p v + M) v w := by
        intro w p hp hpv
        dsimp only
        have h1 : top < p := by
          rcases Nat.lt_or_ge top p with q | q
          · exact q
          · have : p = top := by omega
            subst this
            exact absurd hi hp
        rw [if_pos h1, if_pos h1, if_neg (by omega)]
        exact Nat.le_refl _
      refine ⟨fun _ => ?_, fun _ w hw => ⟨hw.2, key w⟩⟩
      obtain ⟨w, h1, h2⟩ := hR v hv
      exact ⟨w, ⟨h1, h2⟩, h2, key w⟩
    · have key : ∀ w, A w → ρ w < ρ v → pOk ca i (fun p v => if top < p then 0 else if A v then ρ v else r p v + M) v w := by
        intro w hw hlt p hp hpv
        dsimp only
        by_cases h1 : top < p
        · rw [if_pos h1, if_pos h1, if_neg (by have := hle v hv; omega)]
          exact Nat.le_refl _
        · rw [if_neg h1, if_neg h1, if_pos hw, if_pos hAv]
          split <;> omega
      obtain ⟨b1, b2⟩ := a3 v hAv ht
      refine ⟨fun q => ?_, fun q w hw => ?_⟩
      · obtain ⟨w, g1, g2, g3⟩ := b1 q
        exact ⟨w, ⟨g1, a2 w g2⟩, a2 w g2, key w g2 g3⟩
      · obtain ⟨g1, g2⟩ := (b2 q).2 w hw.1 hw.2
        exact ⟨hw.2, key w g1 g2⟩
  · have keyO : ∀ w, ¬ A w → pOk ca i r v w → pOk ca i (fun p v => if top < p then 0 else if A v then ρ v else r p v + M) v w := by
      intro w hw hk p hp hpv
      dsimp only
      by_cases h1 : top < p
      · rw [if_pos h1, if_pos h1, if_neg (by have := hle v hv; omega)]
        exact Nat.le_refl _
      · rw [if_neg h1, if_neg h1, if_neg hw, if_neg hAv]
        have := hk p hp hpv
        omega
    have keyA : ∀ w, A w → pOk ca i (fun p v => if top < p then 0 else if A v then ρ v else r p v + M) v w := by
      intro w hw p hp hpv
      dsimp only
      by_cases h1 : top < p
      · rw [if_pos h1, if_pos h1, if_neg (by have := hle v hv; omega)]
        exact Nat.le_refl _
      · rw [if_neg h1, if_neg h1, if_pos hw, if_neg hAv]
        have := hM w hw
        split <;> omega
    obtain ⟨c1, c2⟩ := hc v ⟨hv, hAv⟩
    refine ⟨fun q => ?_, fun q w hw => ?_⟩
    · obtain ⟨w, g1, g2, g3⟩ := c1 q
      exact ⟨w, ⟨g1.1, g2.1⟩, g2.1, keyO w g2.2 g3⟩
    · by_cases hw2 : A w
      · exact ⟨hw.2, keyA w hw2⟩
      · exact ⟨hw.2, keyO w hw2 (c2 q w ⟨hw.1, hw.2, hw2⟩).2⟩
/-- what the other player wins of what is left, with all that pulls there, is his in the region -/
theorem p_lost {i j : Nat} {T R A L B : Nat → Prop} {r : Nat → Nat → Nat} (hij : i ≠ j) (ho : ∀ v, ow v = i ∨ ow v = j)
    (hA : pAttr ow E i T R A) (hL : ∀ v, L v → R v ∧ ¬ A v) (hLf : ∃ M, ∀ p v, L v → r p v < M)
    (hc : pCert ow ca (pSub E (fun v => R v ∧ ¬ A v)) j L r) (hB : pAttr ow E j L R B) : ∃ r', pCert ow ca (pSub E R) j B r' ∧ ∃ M, ∀ p v, B v → r' p v < M := by
  obtain ⟨a1, a2, -, a4⟩ := hA
  obtain ⟨b1, b2, ⟨ρ, ⟨N, hN⟩, b3⟩, b4⟩ := hB
  obtain ⟨M, hM⟩ := hLf
  classical
  refine ⟨fun p v => if L v then r p v else M + ρ v, ?_, M + N, ?_⟩
  · intro v hv
    by_cases hl : L v
    · have key : ∀ w, L w → pOk ca j r v w → pOk ca j (fun p v => if L v then r p v else M + ρ v) v w := by
        intro w hw hk p hp hpv
        dsimp only
        rw [if_pos hw, if_pos hl]
        exact hk p hp hpv
      obtain ⟨c1, c2⟩ := hc v hl
      obtain ⟨hRv, hAv⟩ := hL v hl
      refine ⟨fun q => ?_, fun q w hw => ?_⟩
      · obtain ⟨w, g1, g2, g3⟩ := c1 q
        exact ⟨w, ⟨g1.1, g1.2.1⟩, b1 w g2 g1.2.1, key w g2 g3⟩
      · have hi : ow v = i := (ho v).resolve_right q
        have hnA := (a4 v hRv hAv).1 hi w hw.1
        obtain ⟨g1, g2⟩ := c2 q w ⟨hw.1, hw.2, hnA⟩
        exact ⟨b1 w g1 hw.2, key w g1 g2⟩
    · have key : ∀ w, B w → ρ w < ρ v → pOk ca j (fun p v => if L v then r p v else M + ρ v) v w := by
        intro w hw hlt p hp hpv
        dsimp only
        rw [if_neg hl]
        by_cases q : L w
        · rw [if_pos q]
          have := hM p w q
          split <;> omega
        · rw [if_neg q]
          split <;> omega
      obtain ⟨c1, c2⟩ := b3 v hv hl
      refine ⟨fun q => ?_, fun q w hw => ?_⟩
      · obtain ⟨w, g1, g2, g3⟩ := c1 q
        exact ⟨w, ⟨g1, b2 w g2⟩, g2, key w g2 g3⟩
      · obtain ⟨g1, g2⟩ := (c2 q).2 w hw.1 hw.2
        exact ⟨g1, key w g1 g2⟩
  · intro p v hv
    show (if L v then r p v else M + ρ v) < M + N
    by_cases hl : L v
    · rw [if_pos hl]; have := hM p v hl; omega
    · rw [if_neg hl]; have := hN v hv; omega
/-- what a player wins in a region, and what he wins of the rest behind it -/
theorem p_union {i : Nat} {R B S : Nat → Prop} {r1 r2 : Nat → Nat → Nat} (hM : ∃ M, ∀ p v, B v → r1 p v < M)
    (h1 : pCert ow ca (pSub E R) i B r1) (h2 : pCert ow ca (pSub E (fun v => R v ∧ ¬ B v)) i S r2) (hS : ∀ v, S v → R v ∧ ¬ B v) (hM2 : ∃ M, ∀ p v, S v → r2 p v < M) :
    ∃ r, pCert ow ca (pSub E R) i (fun v => B v ∨ S v) r ∧ ∃ M, ∀ p v, (B v ∨ S v) → r p v < M := by
  obtain ⟨M, hM⟩ := hM
  obtain ⟨M2, hM2⟩ := hM2
  classical
  refine ⟨fun p v => if B v then r1 p v else r2 p v + M, ?_, M + M2, ?_⟩
  · intro v hv
    by_cases hb : B v
    · have key : ∀ w, B w → pOk ca i r1 v w → pOk ca i (fun p v => if B v then r1 p v else r2 p v + M) v w := by
        intro w hw hk p hp hpv
        dsimp only
        rw [if_pos hw, if_pos hb]
        exact hk p hp hpv
      obtain ⟨c1, c2⟩ := h1 v hb
      refine ⟨fun q => ?_, fun q w hw => ?_⟩
      · obtain ⟨w, g1, g2, g3⟩ := c1 q
        exact ⟨w, g1, Or.inl g2, key w g2 g3⟩
      · obtain ⟨g1, g2⟩ := c2 q w hw
        exact ⟨Or.inl g1, key w g1 g2⟩
    · have hs : S v := hv.resolve_left hb
      have keyS : ∀ w, ¬ B w → pOk ca i r2 v w → pOk ca i (fun p v => if B v then r1 p v else r2 p v + M) v w := by
        intro w hw hk p hp hpv
        dsimp only
        rw [if_neg hw, if_neg hb]
        have := hk p hp hpv
        omega
      have keyB : ∀ w, B w → pOk ca i (fun p v => if B v then r1 p v else r2 p v + M) v w := by
        intro w hw p hp hpv
        dsimp only
        rw [if_pos hw, if_neg hb]
        have := hM p w hw
        split <;> omega
      obtain ⟨c1, c2⟩ := h2 v hs
      refine ⟨fun q => ?_, fun q w hw => ?_⟩
      · obtain ⟨w, g1, g2, g3⟩ := c1 q
        exact ⟨w, ⟨g1.1, g1.2.1⟩, Or.inr g2, keyS w g1.2.2 g3⟩
      · by_cases hw2 : B w
        · exact ⟨Or.inl hw2, keyB w hw2⟩
        · obtain ⟨g1, g2⟩ := c2 q w ⟨hw.1, hw.2, hw2⟩
          exact ⟨Or.inr g1, keyS w hw2 g2⟩
  · intro p v hv
    show (if B v then r1 p v else r2 p v + M) < M + M2
    by_cases hb : B v
    · rw [if_pos hb]; have := hM p v hb; omega
    · rw [if_neg hb]; have := hM2 p v (hv.resolve_left hb); omega
/-- what a player wins where the other's pull has been taken out, he wins with it there too -/
theorem p_trap {i j : Nat} {L R B S : Nat → Prop} {r : Nat → Nat → Nat} (ho : ∀ v, ow v = i ∨ ow v = j) (hB : pAttr ow E j L R B)
    (h : pCert ow ca (pSub E (fun v => R v ∧ ¬ B v)) i S r) (hS : ∀ v, S v → R v ∧ ¬ B v) : pCert ow ca (pSub E R) i S r := by
  intro v hv
  obtain ⟨c1, c2⟩ := h v hv
  obtain ⟨hr, hb⟩ := hS v hv
  refine ⟨fun q => ?_, fun q w hw => ?_⟩
  · obtain ⟨w, g1, g2, g3⟩ := c1 q
    exact ⟨w, ⟨g1.1, g1.2.1⟩, g2, g3⟩
  · have hj : ow v = j := (ho v).resolve_left q
    exact c2 q w ⟨hw.1, hw.2, (hB.2.2.2 v hr hb).1 hj w hw.1⟩
/-- ranks may be taken bounded: by the number of places with that call whose rank isn't greater -/
def pCnt (f : Nat → Bool) : Nat → Nat
  | 0 => 0
  | n + 1 => pCnt f n + (if f n then 1 else 0)
theorem pCnt_le {f g : Nat → Bool} {n : Nat} (h : ∀ v, v < n → f v = true → g v = true) : pCnt f n ≤ pCnt g n := by
  induction n with
  | zero => exact Nat.le_refl _
  | succ n ih =>
    have h1 := ih (fun v hv => h v (by omega))
    have h2 := h n (by omega)
    simp only [pCnt]
    cases hf : f n <;> cases hg : g n <;> simp_all <;> omega
theorem pCnt_lt {f g : Nat → Bool} {n u : Nat} (h : ∀ v, v < n → f v = true → g v = true) (hu : u < n) (h1 : f u = false) (h2 : g u = true) : pCnt f n + 1 ≤ pCnt g n := by
  induction n with
  | zero => omega
  | succ n ih =>
    simp only [pCnt]
    rcases Nat.lt_or_ge u n with q | q
    · have h3 := ih (fun v hv => h v (by omega)) q
      have h4 := h n (by omega)
      cases hf : f n <;> cases hg : g n <;> simp_all <;> omega
    · have hun : u = n := by omega
      subst hun
      have h3 := pCnt_le (f := f) (g := g) (n := u) (fun v hv => h v (by omega))
      rw [h1, h2]
      simp
      omega
theorem pCnt_top (f : Nat → Bool) (n : Nat) : pCnt f n ≤ n := by
  induction n with
  | zero => exact Nat.le_refl _
  | succ n ih => simp only [pCnt]; split <;> omega
/-- a certificate with ranks that count: at most so many as there are places with that call -/
theorem p_small {i n : Nat} {S : Nat → Prop} {r : Nat → Nat → Nat} (hn : ∀ v, S v → v < n) (h : pCert ow ca E i S r) : pCert ow ca E i S (fun p v => pCnt (fun u => decide (ca u = p) && decide (r p u ≤ r p v)) n) := by
  have key : ∀ v w, S v → pOk ca i r v w → pOk ca i (fun p v => pCnt (fun u => decide (ca u = p) && decide (r p u ≤ r p v)) n) v w := by
    intro v w hv hk p hp hpv
    have h1 := hk p hp hpv
    by_cases q : ca v = p
    · rw [if_pos q] at h1 ⊢
      refine pCnt_lt (u := v) (fun u hu hu2 => ?_) (hn v hv) ?_ ?_
      · simp only [Bool.and_eq_true, decide_eq_true_eq] at hu2 ⊢
        omega
      · simp only [Bool.and_eq_false_iff, decide_eq_false_iff_not]
        omega
      · simp only [Bool.and_eq_true, decide_eq_true_eq]
        omega
    · rw [if_neg q] at h1 ⊢
      refine pCnt_le (fun u hu hu2 => ?_)
      simp only [Bool.and_eq_true, decide_eq_true_eq] at hu2 ⊢
      omega
  intro v hv
  obtain ⟨c1, c2⟩ := h v hv
  refine ⟨fun q => ?_, fun q w hw => ?_⟩
  · obtain ⟨w, g1, g2, g3⟩ := c1 q
    exact ⟨w, g1, g2, key v w hv g3⟩
  · obtain ⟨g1, g2⟩ := c2 q w hw
    exact ⟨g1, key v w hv g2⟩
end CERT
