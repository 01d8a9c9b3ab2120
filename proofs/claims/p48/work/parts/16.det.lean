/-! EVERY PLACE HAS A WINNER -/
section DET
variable {ow ca : Nat → Nat} {E : Nat → Nat → Prop}
/-- the places from which player i reaches T in at most k moves within R -/
def pIt (ow : Nat → Nat) (E : Nat → Nat → Prop) (i : Nat) (T R : Nat → Prop) : Nat → Nat → Prop
  | 0, v => T v ∧ R v
  | k + 1, v => pIt ow E i T R k v ∨ (R v ∧ ((ow v = i ∧ ∃ w, E v w ∧ pIt ow E i T R k w) ∨ (ow v ≠ i ∧ (∃ w, E v w ∧ R w) ∧ ∀ w, E v w → R w → pIt ow E i T R k w)))
theorem pIt_R {i : Nat} {T R : Nat → Prop} : ∀ (k v : Nat), pIt ow E i T R k v → R v
  | 0, _, h => h.2
  | k + 1, v, h => h.elim (pIt_R k v) (fun z => z.1)
theorem pIt_le {i : Nat} {T R : Nat → Prop} {j v : Nat} (a : pIt ow E i T R j v) : ∀ k, j ≤ k → pIt ow E i T R k v
  | 0, h => by
    have : j = 0 := by omega
    subst this
    exact a
  | k + 1, h => by
    rcases Nat.lt_or_ge k j with q | q
    · have : j = k + 1 := by omega
      subst this
      exact a
    · exact Or.inl (pIt_le a k q)
theorem pIt_bd {i : Nat} {T R : Nat → Prop} (n : Nat) : ∃ M, ∀ v, v < n → (∃ k, pIt ow E i T R k v) → pIt ow E i T R M v := by
  induction n with
  | zero => exact ⟨0, fun v hv => absurd hv (Nat.not_lt_zero _)⟩
  | succ n ih =>
    obtain ⟨M, hM⟩ := ih
    by_cases q : ∃ k, pIt ow E i T R k n
    · obtain ⟨k, hk⟩ := q
      refine ⟨M + k, fun v hv hx => ?_⟩
      rcases Nat.lt_or_ge v n with z | z
      · exact pIt_le (hM v z hx) _ (Nat.le_add_right _ _)
      · have : v = n := by omega
        subst this
        exact pIt_le hk _ (Nat.le_add_left _ _)
    · refine ⟨M, fun v hv hx => ?_⟩
      rcases Nat.lt_or_ge v n with z | z
      · exact hM v z hx
      · have : v = n := by omega
        subst this
        exact absurd hx q
theorem p_attrEx (i : Nat) {T R : Nat → Prop} {n : Nat} (hR : ∀ v, R v → v < n) : ∃ A, pAttr ow E i T R A := by
  obtain ⟨M, hM⟩ := pIt_bd (ow := ow) (E := E) (i := i) (T := T) (R := R) n
  refine ⟨fun v => ∃ k, pIt ow E i T R k v, fun v a b => ⟨0, a, b⟩, fun v ⟨k, h⟩ => pIt_R k v h, ?_, ?_⟩
  · have hρ : ∀ v, ∃ r, (∃ k, pIt ow E i T R k v) → pIt ow E i T R r v ∧ ∀ j, j < r → ¬ pIt ow E i T R j v := by
      intro v
      by_cases q : ∃ k, pIt ow E i T R k v
      · obtain ⟨r, a, b⟩ := pk_least (fun k => pIt ow E i T R k v) q
        exact ⟨r, fun _ => ⟨a, fun j hj => b j hj⟩⟩
      · exact ⟨0, fun h => absurd h q⟩
    obtain ⟨ρ, hρ⟩ := Classical.skolem.mp hρ
    refine ⟨ρ, ⟨M + 1, fun v hv => ?_⟩, fun v hv ht => ?_⟩
    · obtain ⟨a, b⟩ := hρ v hv
      obtain ⟨k, hk⟩ := hv
      have := hM v (hR v (pIt_R k v hk)) ⟨k, hk⟩
      exact Nat.lt_succ_of_le (Nat.le_of_not_lt fun q => b M q this)
    · obtain ⟨a, b⟩ := hρ v hv
      have lt : ∀ k w, pIt ow E i T R k w → k < ρ v → (∃ k, pIt ow E i T R k w) ∧ ρ w < ρ v := fun k w hw hk =>
        ⟨⟨k, hw⟩, Nat.lt_of_le_of_lt (Nat.le_of_not_lt fun q => (hρ w ⟨k, hw⟩).2 k q hw) hk⟩
      obtain ⟨r, hr⟩ | hz : (∃ r, ρ v = r + 1) ∨ ρ v = 0 := by
        rcases Nat.eq_zero_or_pos (ρ v) with q | q
        · exact Or.inr q
        · exact Or.inl ⟨ρ v - 1, by omega⟩
      · have hlt : r < ρ v := by omega
        rw [hr] at a
        rcases a with a | ⟨_, a⟩
        · exact absurd a (b r hlt)
        · refine ⟨fun q => ?_, fun q => ?_⟩
          · rcases a with ⟨_, w, a1, a2⟩ | ⟨a, _⟩
            · exact ⟨w, a1, lt r w a2 hlt⟩
            · exact absurd q a
          · rcases a with ⟨a, _⟩ | ⟨_, a1, a2⟩
            · exact absurd a q
            · exact ⟨a1, fun w x y => lt r w (a2 w x y) hlt⟩
      · rw [hz] at a
        exact absurd a.1 ht
  · intro v hv hn
    exact ⟨fun q w hw ⟨k, hk⟩ => hn ⟨k + 1, Or.inr ⟨hv, Or.inl ⟨q, w, hw, hk⟩⟩⟩, fun q ⟨w, a, b⟩ => Classical.byContradiction fun z => hn ⟨M + 1, Or.inr ⟨hv, Or.inr ⟨q, ⟨w, a, b⟩, fun w' c d => hM w' (hR w' d) (Classical.byContradiction fun y => z ⟨w', c, d, y⟩)⟩⟩⟩⟩
noncomputable def pNum (R : Nat → Prop) (n : Nat) : Nat := pCnt (fun v => @decide (R v) (Classical.propDecidable _)) n
theorem pNum_lt {R R' : Nat → Prop} {n : Nat} (h : ∀ v, R' v → R v) (hx : ∃ u, u < n ∧ R u ∧ ¬ R' u) : pNum R' n < pNum R n := by
  obtain ⟨u, a, b, c⟩ := hx
  exact pCnt_mono_lt (fun v _ hv => @decide_eq_true _ (Classical.propDecidable _) (h v (@of_decide_eq_true _ (Classical.propDecidable _) hv))) ⟨u, a, @decide_eq_false _ (Classical.propDecidable _) c, @decide_eq_true _ (Classical.propDecidable _) b⟩
/-- a region in which a move leads on from each place can be shared out -/
theorem p_zEx {n C : Nat} (ho : ∀ v, ow v < 2) (hC : ∀ v, ca v < C) : ∀ (c : Nat) (R : Nat → Prop), (∀ v, R v → v < n) → pTot E R → pNum R n < c → ∃ Z, pDet ow ca E R Z := by
  intro c
  induction c with
  | zero => intro R _ _ h; exact absurd h (Nat.not_lt_zero _)
  | succ c ih =>
    intro R hn ht hc
    by_cases hne : ∃ v, R v
    · obtain ⟨top, ⟨u, hu, hut⟩, hle⟩ : ∃ top, (∃ v, R v ∧ ca v = top) ∧ ∀ v, R v → ca v ≤ top := by
        obtain ⟨k, hk, hmin⟩ := pk_least (fun k => ∀ v, R v → ca v ≤ k) ⟨C, fun v _ => Nat.le_of_lt (hC v)⟩
        refine ⟨k, ?_, hk⟩
        rcases Nat.eq_zero_or_pos k with z | z
        · obtain ⟨v, hv⟩ := hne
          exact ⟨v, hv, by have := hk v hv; omega⟩
        · refine Classical.byContradiction fun q => hmin (k - 1) (by omega) (fun v hv => ?_)
          have h1 := hk v hv
          have h2 : ca v ≠ k := fun e => q ⟨v, hv, e⟩
          omega
      have hi : top % 2 < 2 := Nat.mod_lt _ (by decide)
      obtain ⟨A, hA⟩ := p_attrEx (ow := ow) (E := E) (top % 2) (T := fun v => ca v = top) hn
      obtain ⟨Z1, h1⟩ := ih (fun v => R v ∧ ¬ A v) (fun v hv => hn v hv.1) (p_tot_out hA ht) (Nat.lt_of_lt_of_le (pNum_lt (fun v hv => hv.1) ⟨u, hn u hu, hu, fun z => z.2 (hA.1 u hut hu)⟩) (Nat.le_of_lt_succ hc))
      by_cases hL : ∃ v, (R v ∧ ¬ A v) ∧ ¬ (if top % 2 = 0 then Z1 v else ¬ Z1 v)
      · obtain ⟨x, hx, hxz⟩ := hL
        have hLc : ∃ r, pCert ow ca (pSub E (fun v => R v ∧ ¬ A v)) (1 - top % 2) (fun v => (R v ∧ ¬ A v) ∧ ¬ (if top % 2 = 0 then Z1 v else ¬ Z1 v)) r := by
          obtain ⟨z1, z2, z3⟩ := h1
          rcases Nat.mod_two_eq_zero_or_one top with e | e
          · obtain ⟨r, hr⟩ := z3
            rw [e]
            exact ⟨r, pCert_congr (fun v => by rw [if_pos rfl]) hr⟩
          · obtain ⟨r, hr⟩ := z2
            rw [e]
            exact ⟨r, pCert_congr (fun v => by
              rw [if_neg (by decide)]
              exact ⟨fun h => ⟨z1 v h, fun q => q h⟩, fun h => Classical.byContradiction h.2⟩) hr⟩
        obtain ⟨B, hB⟩ := p_attrEx (ow := ow) (E := E) (1 - top % 2) (T := fun v => (R v ∧ ¬ A v) ∧ ¬ (if top % 2 = 0 then Z1 v else ¬ Z1 v)) hn
        obtain ⟨Z2, h2⟩ := ih (fun v => R v ∧ ¬ B v) (fun v hv => hn v hv.1) (p_tot_out hB ht) (Nat.lt_of_lt_of_le (pNum_lt (fun v hv => hv.1) ⟨x, hn x hx.1, hx.1, fun z => z.2 (hB.1 x ⟨hx, hxz⟩ hx.1)⟩) (Nat.le_of_lt_succ hc))
        exact ⟨_, p_detRound hi ho hn hA (fun v hv => hv.1) hLc hB h2⟩
      · exact ⟨_, p_detLast hn ht hle hA h1 (fun v hv hva => Classical.byContradiction fun q => hL ⟨v, ⟨hv, hva⟩, q⟩)⟩
    · exact ⟨fun _ => False, fun v h => h.elim, ⟨fun _ _ => 0, fun v h => h.elim⟩, fun _ _ => 0, fun v h => absurd ⟨v, h.1⟩ hne⟩
theorem p_det {n C : Nat} (ho : ∀ v, ow v < 2) (hC : ∀ v, ca v < C) (hE : ∀ v w, E v w → v < n ∧ w < n) (v : Nat) (hv : v < n) : ¬ pWin ow ca E 0 v ↔ pWin ow ca E 1 v := by
  obtain ⟨Z, hZ⟩ := p_attrEx (ow := ow) (E := E) 0 (T := fun v => ow v = 1 ∧ ¬ ∃ w, E v w) (R := fun v => v < n) (n := n) (fun v h => h)
  obtain ⟨O, hO⟩ := p_attrEx (ow := ow) (E := E) 1 (T := fun v => ow v = 0 ∧ ¬ ∃ w, E v w) (R := fun v => v < n ∧ ¬ Z v) (n := n) (fun v h => h.1)
  obtain ⟨W, hW⟩ : ∃ W, pTot E (fun v => (v < n ∧ ¬ Z v) ∧ ¬ O v) → pDet ow ca E (fun v => (v < n ∧ ¬ Z v) ∧ ¬ O v) W := by
    by_cases ht : pTot E (fun v => (v < n ∧ ¬ Z v) ∧ ¬ O v)
    · obtain ⟨W, hW⟩ := p_zEx (n := n) ho hC _ _ (fun v h => h.1.1) ht (Nat.lt_succ_self _)
      exact ⟨W, fun _ => hW⟩
    · exact ⟨fun _ => False, fun h => absurd h ht⟩
  have h := p_det_won ho hC hE (p_whole ho hE hZ hO hW)
  rw [← h.1 v hv]
  exact h.2 v hv
/-! two certificates of one player are one -/
theorem p_cup {i : Nat} {S1 S2 : Nat → Prop} {r1 r2 : Nat → Nat → Nat} (hM : ∃ M, ∀ p v, S1 v → r1 p v < M) (h1 : pCert ow ca E i S1 r1) (h2 : pCert ow ca E i S2 r2) : ∃ r, pCert ow ca E i (fun v => S1 v ∨ S2 v) r := by
  obtain ⟨M, hM⟩ := hM
  classical
  refine ⟨fun p v => if S1 v then r1 p v else r2 p v + M, fun v hv => ?_⟩
  by_cases hb : S1 v
  · have key : ∀ w, S1 w → pOk ca i r1 v w → pOk ca i (fun p v => if S1 v then r1 p v else r2 p v + M) v w := by
      intro w hw hk p hp hpv
      dsimp only
      rw [if_pos hw, if_pos hb]
      exact hk p hp hpv
    obtain ⟨c1, c2⟩ := h1 v hb
    exact ⟨fun q => (c1 q).elim fun w g => ⟨w, g.1, Or.inl g.2.1, key w g.2.1 g.2.2⟩, fun q w hw => ⟨Or.inl (c2 q w hw).1, key w (c2 q w hw).1 (c2 q w hw).2⟩⟩
  · have hs : S2 v := hv.resolve_left hb
    have key : ∀ w, S2 w → pOk ca i r2 v w → (S1 w ∨ S2 w) ∧ pOk ca i (fun p v => if S1 v then r1 p v else r2 p v + M) v w := by
      intro w hw hk
      refine ⟨Or.inr hw, fun p hp hpv => ?_⟩
      dsimp only
      rw [if_neg hb]
      by_cases q : S1 w
      · rw [if_pos q]
        have := hM p w q
        split <;> omega
      · rw [if_neg q]
        have := hk p hp hpv
        omega
    obtain ⟨c1, c2⟩ := h2 v hs
    exact ⟨fun q => (c1 q).elim fun w g => ⟨w, g.1, key w g.2.1 g.2.2⟩, fun q w hw => key w (c2 q w hw).1 (c2 q w hw).2⟩
theorem p_clip {i n : Nat} {S : Nat → Prop} {r : Nat → Nat → Nat} (hE : ∀ v w, E v w → v < n ∧ w < n) (h : pCert ow ca E i S r) : pCert ow ca E i (fun v => S v ∧ v < n) r := fun v hv =>
  ⟨fun q => ((h v hv.1).1 q).elim fun w g => ⟨w, g.1, ⟨g.2.1, (hE v w g.1).2⟩, g.2.2⟩, fun q w hw => ⟨⟨((h v hv.1).2 q w hw).1, (hE v w hw).2⟩, ((h v hv.1).2 q w hw).2⟩⟩
/-- one certificate for all that a player wins -/
theorem p_allwin {n : Nat} (hE : ∀ v w, E v w → v < n ∧ w < n) (i : Nat) : ∀ k, ∃ S r, pCert ow ca E i S r ∧ (∀ v, S v → v < n) ∧ ∀ u, u < k → u < n → pWin ow ca E i u → S u := by
  intro k
  induction k with
  | zero => exact ⟨fun _ => False, fun _ _ => 0, fun v h => h.elim, fun v h => h.elim, fun u hu => absurd hu (Nat.not_lt_zero _)⟩
  | succ k ih =>
    obtain ⟨S, r, a, b, c⟩ := ih
    by_cases q : k < n ∧ pWin ow ca E i k
    · obtain ⟨hk, S2, r2, a2, c2⟩ := q
      obtain ⟨r1, a1, hM⟩ := pCert_bd b ⟨r, a⟩
      obtain ⟨r3, a3⟩ := p_cup hM a1 (p_clip hE a2)
      refine ⟨_, r3, a3, fun v hv => hv.elim (b v) (fun z => z.2), fun u hu hn hw => ?_⟩
      rcases Nat.lt_or_ge u k with z | z
      · exact Or.inl (c u z hn hw)
      · have : u = k := by omega
        subst this
        exact Or.inr ⟨c2, hk⟩
    · refine ⟨S, r, a, b, fun u hu hn hw => ?_⟩
      rcases Nat.lt_or_ge u k with z | z
      · exact c u z hn hw
      · have : u = k := by omega
        subst this
        exact absurd ⟨hn, hw⟩ q
/-- who wins with some of his own moves taken away wins with them -/
theorem p_up {E' : Nat → Nat → Prop} {i : Nat} {S : Nat → Prop} {r : Nat → Nat → Nat} (h : pCert ow ca E' i S r) (hs : ∀ v w, E' v w → E v w) (ho : ∀ v w, ow v ≠ i → E v w → E' v w) : pCert ow ca E i S r := fun v hv =>
  ⟨fun q => ((h v hv).1 q).elim fun w g => ⟨w, hs v w g.1, g.2⟩, fun q w hw => (h v hv).2 q w (ho v w q hw)⟩
end DET
