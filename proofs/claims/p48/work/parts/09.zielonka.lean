/-! THE CLASS'S BOARD: what its methods answer, in the words of places, owners, calls and moves -/
/-- one move away: a place from which player i (who owns 'own') brings the token into the set, in the region -/
def bfP (own : Int32) (next : Nat → Int32) (set region : Int32) (v : Nat) : Prop :=
  (∃ w, bt (next v) w = true ∧ bt region w = true ∧ bt set w = true) ∧ (bt own v = true ∨ ∀ w, bt (next v) w = true → bt region w = true → bt set w = true)
theorem before_ok {i n : Nat} {set region asked : Int32} {next owned : Nat → Int32} {post : Int32 → Prop} (hi : i < 2) (hn : n ≤ 20)
    (h : ∀ r, (∀ u, bt r u = true ↔ u < n ∧ bt asked u = true ∧ bfP (owned i) next set region u) → post r) : wp_X0_before (nI i) set region asked (nI n) next owned post := by
  unfold wp_X0_before
  refine fx2_go (fun v5 v6 => ∃ k, k ≤ n ∧ v6 = nI k ∧ ∀ u, bt v5 u = true ↔ u < k ∧ bt asked u = true ∧ bfP (owned i) next set region u) (fun _ v6 => n - v6.toNatClampNeg) ?_ 0 0 ⟨0, Nat.zero_le _, rfl, fun u => by rw [b_0]; simp⟩
  rintro rec v5 v6 ⟨k, hk, rfl, hb⟩ hrec
  unfold F_X0_before_6
  have hcl : (nI k).toNatClampNeg = k := nI_clamp (by omega)
  have hcl1 : (nI i).toNatClampNeg = i := nI_clamp (by omega)
  have go : k < n → ∀ z : Int32, (∀ u, bt z u = true ↔ u < k + 1 ∧ bt asked u = true ∧ bfP (owned i) next set region u) → rec z (nI k + 1) := fun hlt z hz =>
    hrec z (nI k + 1) ⟨k + 1, by omega, nI_1 k, hz⟩ (by rw [nI_1, nI_clamp (by omega), hcl]; omega)
  refine ⟨fun h1 => ?_, fun h1 => ?_⟩
  · have e : k = n := by have := (nI_leI (by omega) (by omega)).mp h1; omega
    subst e
    exact h v5 hb
  · have hlt : k < n := by
      rcases Nat.lt_or_ge k n with q | q
      · exact q
      · exact absurd (nI_le q (by omega)) h1
    rw [hcl, hcl1]
    have no : ¬ (bt asked k = true ∧ bfP (owned i) next set region k) → rec v5 (nI k + 1) := fun q => go hlt v5 (fun u => by rw [hb u, st_no (X := fun u => bt asked u = true ∧ bfP (owned i) next set region u) q])
    have yes : (bt asked k = true ∧ bfP (owned i) next set region k) → rec (v5 ||| ((1 : Int32) <<< (nI k &&& 31))) (nI k + 1) := fun q => go hlt _ (fun u => by rw [b_setbit (by omega), hb u, st_yes (X := fun u => bt asked u = true ∧ bfP (owned i) next set region u) q])
    refine ⟨vp_in_nI (by omega) (by omega), fun h2 => ?_, fun h2 => ⟨fun h3 => ?_, fun h3 => ⟨vp_in_nI (by omega) (by omega), fun h4 => ⟨fun h5 => ?_, fun h5 => ?_⟩, fun h4 => ?_⟩⟩⟩
    · exact no (fun q => (b_andbit (by omega)).mp h2 q.1)
    · refine no (fun q => ?_)
      obtain ⟨w, g1, g2, g3⟩ := q.2.1
      exact b_and0.mp h3 w ((b_andI w).mpr ⟨g1, g2⟩) g3
    · refine no (fun q => h5 (b_sub0.mpr fun w hw => ?_))
      obtain ⟨g1, g2⟩ := (b_andI w).mp hw
      exact q.2.2.resolve_left ((b_andbit (by omega)).mp h4) w g1 g2
    · refine yes ⟨Classical.byContradiction fun q => h2 ((b_andbit (by omega)).mpr q), ?_, Or.inr fun w g1 g2 => b_sub0.mp h5 w ((b_andI w).mpr ⟨g1, g2⟩)⟩
      obtain ⟨w, hw⟩ := b_ne0 h3
      obtain ⟨g1, g2⟩ := (b_andI w).mp hw
      exact ⟨w, ((b_andI w).mp g1).1, ((b_andI w).mp g1).2, g2⟩
    · refine yes ⟨Classical.byContradiction fun q => h2 ((b_andbit (by omega)).mpr q), ?_, Or.inl (Classical.byContradiction fun q => h4 ((b_andbit (by omega)).mpr q))⟩
      obtain ⟨w, hw⟩ := b_ne0 h3
      obtain ⟨g1, g2⟩ := (b_andI w).mp hw
      exact ⟨w, ((b_andI w).mp g1).1, ((b_andI w).mp g1).2, g2⟩
/-- a board shows a game of n places -/
def bdOk (n : Nat) (ow ca : Nat → Nat) (E : Nat → Nat → Prop) (owned calling next : Nat → Int32) : Prop :=
  n ≤ 20 ∧ (∀ v, ow v < 2) ∧ (∀ v, ca v < 10) ∧ (∀ v w, E v w → v < n ∧ w < n) ∧ (∀ i u, i < 2 → (bt (owned i) u = true ↔ u < n ∧ ow u = i)) ∧ (∀ c u, c < 10 → (bt (calling c) u = true ↔ u < n ∧ ca u = c)) ∧ ∀ v w, v < n → (bt (next v) w = true ↔ E v w)
theorem deadEnds_ok {n : Nat} {ow ca : Nat → Nat} {E : Nat → Nat → Prop} {owned calling next : Nat → Int32} {post : Int32 → Prop} (hB : bdOk n ow ca E owned calling next)
    (h : ∀ r, (∀ u, bt r u = true ↔ u < n ∧ ¬ ∃ w, E u w) → post r) : wp_X0_deadEnds (nI n) next post := by
  obtain ⟨hn, -, -, -, -, -, hE⟩ := hB
  unfold wp_X0_deadEnds
  refine fx2_go (fun v1 v2 => ∃ k, k ≤ n ∧ v2 = nI k ∧ ∀ u, bt v1 u = true ↔ u < k ∧ ¬ ∃ w, E u w) (fun _ v6 => n - v6.toNatClampNeg) ?_ 0 0 ⟨0, Nat.zero_le _, rfl, fun u => by rw [b_0]; simp⟩
  rintro rec v1 v2 ⟨k, hk, rfl, hb⟩ hrec
  unfold F_X0_deadEnds_4
  have hcl : (nI k).toNatClampNeg = k := nI_clamp (by omega)
  have go : k < n → ∀ z : Int32, (∀ u, bt z u = true ↔ u < k + 1 ∧ ¬ ∃ w, E u w) → rec z (nI k + 1) := fun hlt z hz =>
    hrec z (nI k + 1) ⟨k + 1, by omega, nI_1 k, hz⟩ (by rw [nI_1, nI_clamp (by omega), hcl]; omega)
  refine ⟨fun h1 => ?_, fun h1 => ?_⟩
  · have e : k = n := by have := (nI_leI (by omega) (by omega)).mp h1; omega
    subst e
    exact h v1 hb
  · have hlt : k < n := by
      rcases Nat.lt_or_ge k n with q | q
      · exact q
      · exact absurd (nI_le q (by omega)) h1
    rw [hcl]
    refine ⟨vp_in_nI (by omega) (by omega), fun h2 => ?_, fun h2 => ?_⟩
    · obtain ⟨w, hw⟩ := b_ne0 h2
      exact go hlt v1 (fun u => by rw [hb u, st_no (X := fun u => ¬ ∃ w, E u w) (fun q => q ⟨w, (hE k w hlt).mp hw⟩)])
    · exact go hlt _ (fun u => by rw [b_setbit (by omega), hb u, st_yes (X := fun u => ¬ ∃ w, E u w) (fun ⟨w, hw⟩ => b_eq0.mp h2 w ((hE k w hlt).mpr hw))])
theorem pCnt_mono_lt {f g : Nat → Bool} {n : Nat} (h : ∀ v, v < n → f v = true → g v = true) (hx : ∃ u, u < n ∧ f u = false ∧ g u = true) : pCnt f n + 1 ≤ pCnt g n := by
  obtain ⟨u, h1, h2, h3⟩ := hx
  exact pCnt_lt h h1 h2 h3
theorem attract_ok {i n : Nat} {ow ca : Nat → Nat} {E : Nat → Nat → Prop} {owned calling next : Nat → Int32} {set region : Int32} {post : Int32 → Prop} (hi : i < 2) (hB : bdOk n ow ca E owned calling next)
    (hR : ∀ u, bt region u = true → u < n) (h : ∀ r, pAttr ow E i (fun v => bt set v = true) (fun v => bt region v = true) (fun v => bt r v = true) → post r) : wp_X0_attract (nI i) set region (nI n) next owned post := by
  have hB' := hB
  obtain ⟨hn, ho, -, hEn, hown, -, hE⟩ := hB
  -- closed sets
  have fin : ∀ z : Int32, (∀ v, bt set v = true → bt region v = true → bt z v = true) → (∀ v, bt z v = true → bt region v = true) →
      (∃ ρ : Nat → Nat, (∃ M, ∀ v, bt z v = true → ρ v < M) ∧ ∀ v, bt z v = true → ¬ bt set v = true → (ow v = i → ∃ w, E v w ∧ bt z w = true ∧ ρ w < ρ v) ∧ (ow v ≠ i → (∃ w, E v w ∧ bt region w = true) ∧ ∀ w, E v w → bt region w = true → bt z w = true ∧ ρ w < ρ v)) →
      (∀ u, bt region u = true → ¬ bt z u = true → ¬ bfP (owned i) next z region u) → post z := by
    intro z h1 h2 h3 h4
    refine h z ⟨h1, h2, h3, fun v hv hz => ⟨fun ho1 w hw hwz => ?_, fun ho1 ⟨w, hw, hwr⟩ => ?_⟩⟩
    · exact h4 v hv hz ⟨⟨w, (hE v w (hR v hv)).mpr hw, h2 w hwz, hwz⟩, Or.inl ((hown i v hi).mpr ⟨hR v hv, ho1⟩)⟩
    · refine Classical.byContradiction fun q => h4 v hv hz ⟨?_, Or.inr fun w' g1 g2 => Classical.byContradiction fun g3 => q ⟨w', (hE v w' (hR v hv)).mp g1, g2, g3⟩⟩
      refine ⟨w, (hE v w (hR v hv)).mpr hw, hwr, Classical.byContradiction fun g3 => q ⟨w, hw, hwr, g3⟩⟩
  unfold wp_X0_attract
  refine fx2_go (fun v4 v5 => ∃ k, k ≤ 20 ∧ v5 = nI k ∧ (0 < k → k + 1 ≤ pCnt (fun u => bt v4 u) n) ∧ (∀ v, bt set v = true → bt region v = true → bt v4 v = true) ∧ (∀ v, bt v4 v = true → bt region v = true) ∧
    (∃ ρ : Nat → Nat, (∀ v, bt v4 v = true → ρ v ≤ k) ∧ ∀ v, bt v4 v = true → ¬ bt set v = true → (ow v = i → ∃ w, E v w ∧ bt v4 w = true ∧ ρ w < ρ v) ∧ (ow v ≠ i → (∃ w, E v w ∧ bt region w = true) ∧ ∀ w, E v w → bt region w = true → bt v4 w = true ∧ ρ w < ρ v)))
    (fun _ v5 => 20 - v5.toNatClampNeg) ?_ _ 0 ⟨0, Nat.zero_le _, rfl, fun q => absurd q (Nat.lt_irrefl 0), fun v h1 h2 => (b_andI v).mpr ⟨h1, h2⟩, fun v hv => ((b_andI v).mp hv).2, fun _ => 0, fun _ _ => Nat.le_refl _, fun v hv hs => absurd ((b_andI v).mp hv).1 hs⟩
  rintro rec v4 v5 ⟨k, hk, rfl, hcnt, g1, g2, ρ, g3, g4⟩ hrec
  unfold F_X0_attract_8
  have hcl : (nI k).toNatClampNeg = k := nI_clamp (by omega)
  have e20 : (20 : Int32) = nI 20 := rfl
  refine ⟨fun h1 => ?_, fun h1 => ⟨fun h2 => ?_, fun h2 => ?_⟩⟩
  · rw [e20] at h1
    have := (nI_leI (a := 20) (b := k) (by omega) (by omega)).mp h1
    have h3 := hcnt (by omega)
    have h4 := pCnt_top (fun u => bt v4 u) n
    omega
  · refine fin v4 g1 g2 ⟨ρ, ⟨k + 1, fun v hv => Nat.lt_succ_of_le (g3 v hv)⟩, g4⟩ (fun u _ _ q => ?_)
    obtain ⟨w, -, -, hw⟩ := q.1
    rw [h2, b_0] at hw
    cases hw
  · have hk20 : k < 20 := by
      rcases Nat.lt_or_ge k 20 with q | q
      · exact q
      · exact absurd (by rw [e20]; exact nI_le q (by omega)) h1
    refine before_ok hi hn (fun r hr => ⟨fun h3 => ?_, fun h3 => ?_⟩)
    · -- more places
      have hnew : ∀ u, bt r u = true → u < n ∧ bt region u = true ∧ ¬ bt v4 u = true ∧ bfP (owned i) next v4 region u := fun u hu => by
        obtain ⟨a, b, c⟩ := (hr u).mp hu
        obtain ⟨b1, b2⟩ := (b_diff u).mp b
        exact ⟨a, b1, b2, c⟩
      refine hrec _ _ ⟨k + 1, by omega, nI_1 k, fun _ => ?_, fun v a b => (b_orI v).mpr (Or.inl (g1 v a b)), fun v hv => ?_, fun v => if bt v4 v = true then ρ v else k + 1, fun v hv => ?_, fun v hv hs => ?_⟩ (by rw [nI_1, nI_clamp (by omega), hcl]; omega)
      · have hx : ∃ u, u < n ∧ bt v4 u = false ∧ bt (v4 ||| r) u = true := by
          obtain ⟨u, hu⟩ := b_ne0 h3
          obtain ⟨a, b, c, -⟩ := hnew u hu
          exact ⟨u, a, by cases hq : bt v4 u; rfl; exact absurd hq c, (b_orI u).mpr (Or.inr hu)⟩
        have h5 := pCnt_mono_lt (f := fun u => bt v4 u) (g := fun u => bt (v4 ||| r) u) (n := n) (fun v _ hv => (b_orI v).mpr (Or.inl hv)) hx
        rcases Nat.eq_zero_or_pos k with q | q
        · subst q
          obtain ⟨u, hu⟩ := b_ne0 h2
          have h6 := pCnt_lt (f := fun _ => false) (g := fun u => bt v4 u) (n := n) (u := u) (fun v _ hv => by cases hv) (hR u (g2 u hu)) rfl hu
          omega
        · have := hcnt q
          omega
      · rcases (b_orI v).mp hv with q | q
        · exact g2 v q
        · exact (hnew v q).2.1
      · show (if bt v4 v = true then ρ v else k + 1) ≤ k + 1
        by_cases q : bt v4 v = true
        · rw [if_pos q]; have := g3 v q; omega
        · rw [if_neg q]; exact Nat.le_refl _
      · by_cases q : bt v4 v = true
        · obtain ⟨c1, c2⟩ := g4 v q hs
          refine ⟨fun ho1 => ?_, fun ho1 => ⟨(c2 ho1).1, fun w hw hwr => ?_⟩⟩
          · obtain ⟨w, d1, d2, d3⟩ := c1 ho1
            exact ⟨w, d1, (b_orI w).mpr (Or.inl d2), by dsimp only; rw [if_pos d2, if_pos q]; exact d3⟩
          · obtain ⟨d1, d2⟩ := (c2 ho1).2 w hw hwr
            exact ⟨(b_orI w).mpr (Or.inl d1), by dsimp only; rw [if_pos d1, if_pos q]; exact d2⟩
        · have hvr : bt r v = true := ((b_orI v).mp hv).resolve_left q
          obtain ⟨a, b, c, d⟩ := hnew v hvr
          refine ⟨fun ho1 => ?_, fun ho1 => ?_⟩
          · obtain ⟨w, d1, d2, d3⟩ := d.1
            refine ⟨w, (hE v w a).mp d1, (b_orI w).mpr (Or.inl d3), ?_⟩
            dsimp only
            rw [if_pos d3, if_neg q]
            have := g3 w d3
            omega
          · obtain ⟨w, d1, d2, d3⟩ := d.1
            refine ⟨⟨w, (hE v w a).mp d1, d2⟩, fun w' hw' hwr' => ?_⟩
            have hno : ¬ bt (owned i) v = true := fun z => ho1 ((hown i v hi).mp z).2
            have d4 := d.2.resolve_left hno w' ((hE v w' a).mpr hw') hwr'
            refine ⟨(b_orI w').mpr (Or.inl d4), ?_⟩
            dsimp only
            rw [if_pos d4, if_neg q]
            have := g3 w' d4
            omega
    · refine fin v4 g1 g2 ⟨ρ, ⟨k + 1, fun v hv => Nat.lt_succ_of_le (g3 v hv)⟩, g4⟩ (fun u h4 h5 h6 => ?_)
      have h7 := (hr u).mpr ⟨hR u h4, (b_diff u).mpr ⟨h4, h5⟩, h6⟩
      rw [h3, b_0] at h7
      cases h7
/-- a region shared out: what player 0 wins in it, and player 1 the rest -/
def pDet (ow ca : Nat → Nat) (E : Nat → Nat → Prop) (R Z : Nat → Prop) : Prop :=
  (∀ v, Z v → R v) ∧ (∃ r, pCert ow ca (pSub E R) 0 Z r) ∧ ∃ r, pCert ow ca (pSub E R) 1 (fun v => R v ∧ ¬ Z v) r
theorem pCert_congr {ow ca : Nat → Nat} {E : Nat → Nat → Prop} {i : Nat} {S S' : Nat → Prop} {r : Nat → Nat → Nat} (e : ∀ v, S v ↔ S' v) (h : pCert ow ca E i S r) : pCert ow ca E i S' r := by
  have : S = S' := funext fun v => propext (e v)
  rw [← this]
  exact h
theorem pSub_congr {ow ca : Nat → Nat} {E : Nat → Nat → Prop} {i : Nat} {S R R' : Nat → Prop} {r : Nat → Nat → Nat} (e : ∀ v, R v ↔ R' v) (h : pCert ow ca (pSub E R) i S r) : pCert ow ca (pSub E R') i S r := by
  have : R = R' := funext fun v => propext (e v)
  rw [← this]
  exact h
theorem pDet_congr {ow ca : Nat → Nat} {E : Nat → Nat → Prop} {R R' Z Z' : Nat → Prop} (e : ∀ v, R v ↔ R' v) (ez : ∀ v, Z v ↔ Z' v) (h : pDet ow ca E R Z) : pDet ow ca E R' Z' := by
  have h1 : R = R' := funext fun v => propext (e v)
  have h2 : Z = Z' := funext fun v => propext (ez v)
  rw [← h1, ← h2]
  exact h
/-- ranks may be taken bounded -/
theorem pCert_bd {ow ca : Nat → Nat} {E : Nat → Nat → Prop} {i n : Nat} {S : Nat → Prop} (hn : ∀ v, S v → v < n) (h : ∃ r, pCert ow ca E i S r) : ∃ r, pCert ow ca E i S r ∧ ∃ M, ∀ p v, S v → r p v < M := by
  obtain ⟨r, hr⟩ := h
  exact ⟨_, p_small hn hr, n + 1, fun p v _ => Nat.lt_succ_of_le (pCnt_top _ _)⟩
/-- one round of Zielonka's way, j the player who isn't the top call's: what he wins of what is left of rest behind the pull to the top call (L), with all that pulls there (B), is his; the rest of the region is to be shared out -/
theorem p_round {ow ca : Nat → Nat} {E : Nat → Nat → Prop} {i j n : Nat} {T R A L B : Nat → Prop} (hij : i ≠ j) (ho : ∀ v, ow v = i ∨ ow v = j) (hn : ∀ v, R v → v < n)
    (hA : pAttr ow E i T R A) (hL : ∀ v, L v → R v ∧ ¬ A v) (hc : ∃ r, pCert ow ca (pSub E (fun v => R v ∧ ¬ A v)) j L r) (hB : pAttr ow E j L R B)
    {S S' : Nat → Prop} (hS : ∀ v, S v → R v ∧ ¬ B v) (hS' : ∀ v, S' v → R v ∧ ¬ B v)
    (h1 : ∃ r, pCert ow ca (pSub E (fun v => R v ∧ ¬ B v)) j S r) (h2 : ∃ r, pCert ow ca (pSub E (fun v => R v ∧ ¬ B v)) i S' r) :
    (∃ r, pCert ow ca (pSub E R) j (fun v => B v ∨ S v) r) ∧ ∃ r, pCert ow ca (pSub E R) i S' r := by
  obtain ⟨r, hr, hM⟩ := pCert_bd (fun v hv => hn v (hL v hv).1) hc
  obtain ⟨r1, hr1, hM1⟩ := p_lost hij ho hA hL hM hr hB
  obtain ⟨r2, hr2, hM2⟩ := pCert_bd (n := n) (fun v hv => hn v (hS v hv).1) h1
  obtain ⟨r3, hr3, -⟩ := p_union hM1 hr1 hr2 hS hM2
  obtain ⟨r4, hr4⟩ := h2
  exact ⟨⟨r3, hr3⟩, r4, p_trap (i := i) (j := j) ho hB hr4 hS'⟩
/-- behind a round: who shares out what is left shares out the region -/
theorem p_detRound {ow ca : Nat → Nat} {E : Nat → Nat → Prop} {i n : Nat} {T R A L B : Nat → Prop} (hi : i < 2) (ho : ∀ v, ow v < 2) (hn : ∀ v, R v → v < n)
    (hA : pAttr ow E i T R A) (hL : ∀ v, L v → R v ∧ ¬ A v) (hc : ∃ r, pCert ow ca (pSub E (fun v => R v ∧ ¬ A v)) (1 - i) L r) (hB : pAttr ow E (1 - i) L R B)
    {Z : Nat → Prop} (hZ : pDet ow ca E (fun v => R v ∧ ¬ B v) Z) : pDet ow ca E R (fun v => if i = 0 then Z v else (Z v ∨ B v)) := by
  obtain ⟨z1, z2, z3⟩ := hZ
  have hBR : ∀ v, B v → R v := hB.2.1
  rcases (show i = 0 ∨ i = 1 by omega) with e | e
  · subst e
    obtain ⟨a1, a2⟩ := p_round (i := 0) (j := 1) (n := n) (by decide) (fun v => by have := ho v; omega) hn hA hL hc hB (S := fun v => (R v ∧ ¬ B v) ∧ ¬ Z v) (S' := Z) (fun v hv => hv.1) z1 z3 z2
    refine ⟨fun v hv => (z1 v (by simpa using hv)).1, ?_, ?_⟩
    · obtain ⟨r, hr⟩ := a2
      exact ⟨r, pCert_congr (fun v => by simp) hr⟩
    · obtain ⟨r, hr⟩ := a1
      refine ⟨r, pCert_congr (fun v => ?_) hr⟩
      simp only [if_true]
      constructor
      · rintro (q | q)
        · exact ⟨hBR v q, fun z => (z1 v z).2 q⟩
        · exact ⟨q.1.1, q.2⟩
      · rintro ⟨q1, q2⟩
        by_cases q : B v
        · exact Or.inl q
        · exact Or.inr ⟨⟨q1, q⟩, q2⟩
  · subst e
    obtain ⟨a1, a2⟩ := p_round (i := 1) (j := 0) (n := n) (by decide) (fun v => by have := ho v; omega) hn hA hL hc hB (S := Z) (S' := fun v => (R v ∧ ¬ B v) ∧ ¬ Z v) z1 (fun v hv => hv.1) z2 z3
    refine ⟨fun v hv => ?_, ?_, ?_⟩
    · simp only [Nat.one_ne_zero, if_false] at hv
      rcases hv with q | q
      · exact (z1 v q).1
      · exact hBR v q
    · obtain ⟨r, hr⟩ := a1
      refine ⟨r, pCert_congr (fun v => ?_) hr⟩
      simp only [Nat.one_ne_zero, if_false]
      exact Or.comm
    · obtain ⟨r, hr⟩ := a2
      refine ⟨r, pCert_congr (fun v => ?_) hr⟩
      simp only [Nat.one_ne_zero, if_false, not_or]
      constructor
      · rintro ⟨⟨q1, q2⟩, q3⟩
        exact ⟨q1, q3, q2⟩
      · rintro ⟨q1, q3, q2⟩
        exact ⟨⟨q1, q2⟩, q3⟩
/-- the last round: the other player wins nothing of what is left -/
theorem p_detLast {ow ca : Nat → Nat} {E : Nat → Nat → Prop} {top n : Nat} {R A Z : Nat → Prop} (hn : ∀ v, R v → v < n) (hR : pTot E R) (hle : ∀ v, R v → ca v ≤ top)
    (hA : pAttr ow E (top % 2) (fun v => ca v = top) R A) (hZ : pDet ow ca E (fun v => R v ∧ ¬ A v) Z)
    (hl : ∀ v, R v → ¬ A v → (if top % 2 = 0 then Z v else ¬ Z v)) : pDet ow ca E R (fun v => R v ∧ top % 2 = 0) := by
  obtain ⟨z1, z2, z3⟩ := hZ
  rcases Nat.mod_two_eq_zero_or_one top with e | e
  · obtain ⟨r, hr⟩ := z2
    have hc : pCert ow ca (pSub E (fun v => R v ∧ ¬ A v)) (top % 2) (fun v => R v ∧ ¬ A v) r := by
      rw [e]
      exact pCert_congr (fun v => ⟨fun q => z1 v q, fun q => by have := hl v q.1 q.2; rwa [if_pos e] at this⟩) hr
    obtain ⟨r', hr'⟩ := p_final (i := top % 2) rfl hR hle hA hc
    rw [e] at hr'
    refine ⟨fun v hv => hv.1, ⟨r', pCert_congr (fun v => ⟨fun q => ⟨q, e⟩, fun q => q.1⟩) hr'⟩, fun _ _ => 0, fun v hv => absurd ⟨hv.1, e⟩ hv.2⟩
  · obtain ⟨r, hr⟩ := z3
    have hc : pCert ow ca (pSub E (fun v => R v ∧ ¬ A v)) (top % 2) (fun v => R v ∧ ¬ A v) r := by
      rw [e]
      exact pCert_congr (fun v => ⟨fun q => q.1, fun q => ⟨q, by have := hl v q.1 q.2; rwa [if_neg (by omega)] at this⟩⟩) hr
    obtain ⟨r', hr'⟩ := p_final (i := top % 2) rfl hR hle hA hc
    rw [e] at hr'
    refine ⟨fun v hv => hv.1, ⟨fun _ _ => 0, fun v hv => absurd hv.2 (by omega)⟩, r', pCert_congr (fun v => ⟨fun q => ⟨q, fun z => by omega⟩, fun q => q.1⟩) hr'⟩
