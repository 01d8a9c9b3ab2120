/-! THE PLAY BY THE PLAN -/
theorem rFst_cases (P : Nat → Bool) (n : Nat) : rFst P n = -1 ∨ ∃ k, k < n ∧ P k = true ∧ rFst P n = nI k := by
  by_cases h : ∃ k, k < n ∧ P k = true
  · obtain ⟨k, ⟨a, b⟩, c⟩ := pk_least (fun k => k < n ∧ P k = true) h
    exact Or.inr ⟨k, a, b, rFst_hit b (fun j hj hp => c j hj ⟨by omega, hp⟩) a⟩
  · exact Or.inl (rFst_none fun j hj hp => h ⟨j, hj, hp⟩)
theorem plV_cases {pl mv : List (Nat × Nat)} (hg : gOk0 pl mv) (u : Nat) : plV pl mv u = -1 ∨ ∃ k, k < mv.length ∧ lA mv k = u ∧ plV pl mv u = nI k := by
  by_cases h : gW pl mv allL (lA pl u) u
  · obtain ⟨a, _, c⟩ := plLv_at hg rfl h
    exact Or.inr ⟨_, a.1, a.2.1, c⟩
  · rw [plV_no h]
    rcases rFst_cases (fun k => decide (lA mv k = u)) mv.length with q | ⟨k, a, b, c⟩
    · exact Or.inl q
    · exact Or.inr ⟨k, a, of_decide_eq_true b, c⟩
theorem nI_m1 {k : Nat} (h : k < 1000) : ¬ nI k = (-1 : Int32) := fun e => nI_pos (n := k) (by omega) (by rw [e]; decide)
noncomputable def plNx (pl mv : List (Nat × Nat)) (u : Nat) : Nat := lB mv (plV pl mv u).toNatClampNeg
noncomputable def plTr (pl mv : List (Nat × Nat)) (s : Nat) : Nat → Nat
  | 0 => s
  | j + 1 => plNx pl mv (plTr pl mv s j)
/-- the play goes on for j moves, to places not seen before -/
def plGo (pl mv : List (Nat × Nat)) (s j : Nat) : Prop := ∀ i, i < j → plV pl mv (plTr pl mv s i) ≠ -1 ∧ ∀ a, a < i → plTr pl mv s a ≠ plTr pl mv s i
/-- .. and ends or comes round there -/
def plEnd (pl mv : List (Nat × Nat)) (s j : Nat) : Prop := plGo pl mv s j ∧ (plV pl mv (plTr pl mv s j) = -1 ∨ ∃ a, a < j ∧ plTr pl mv s a = plTr pl mv s j)
theorem plEnd_one {pl mv : List (Nat × Nat)} {s j k : Nat} (h1 : plEnd pl mv s j) (h2 : plEnd pl mv s k) : j = k := by
  have lt : ∀ {j k : Nat}, plEnd pl mv s j → plEnd pl mv s k → ¬ j < k := fun h1 h2 q => by
    obtain ⟨a, b⟩ := h2.1 _ q
    rcases h1.2 with z | ⟨x, y, z⟩
    · exact a z
    · exact b x y z
  have := lt h1 h2
  have := lt h2 h1
  omega
def plSeen (pl mv : List (Nat × Nat)) (s j : Nat) (seen : Nat → Int32) : Prop := (∀ i, i < j → seen (plTr pl mv s i) = nI i) ∧ ∀ u, u < pl.length → (∀ i, i < j → plTr pl mv s i ≠ u) → seen u = -1
theorem plTr_lt {pl mv : List (Nat × Nat)} (hg : gOk0 pl mv) {s : Nat} (hs : s < pl.length) : ∀ j, plGo pl mv s j → plTr pl mv s j < pl.length
  | 0, _ => hs
  | j + 1, h => by
    obtain ⟨a, _⟩ := h j (Nat.lt_succ_self j)
    rcases plV_cases hg (plTr pl mv s j) with q | ⟨k, x, y, z⟩
    · exact absurd q a
    · show plNx pl mv (plTr pl mv s j) < pl.length
      unfold plNx
      have hm := hg.2.1
      rw [z, nI_clamp (by omega)]
      exact (gOk0_mv hg x).2
theorem pigeon {t : Nat → Nat} {n : Nat} : ∀ j, (∀ i, i < j → t i < n ∧ ∀ a, a < i → t a ≠ t i) → j ≤ pNum (fun u => ∃ i, i < j ∧ t i = u) n
  | 0, _ => Nat.zero_le _
  | j + 1, h => by
    have ih := pigeon j (fun i hi => h i (by omega))
    obtain ⟨a, b⟩ := h j (Nat.lt_succ_self j)
    have := pNum_lt (R := fun u => ∃ i, i < j + 1 ∧ t i = u) (R' := fun u => ∃ i, i < j ∧ t i = u) (n := n) (fun u ⟨i, x, y⟩ => ⟨i, by omega, y⟩) ⟨t j, a, ⟨j, Nat.lt_succ_self j, rfl⟩, fun ⟨i, x, y⟩ => b i x y⟩
    omega
theorem plGo_le {pl mv : List (Nat × Nat)} (hg : gOk0 pl mv) {s : Nat} (hs : s < pl.length) {j : Nat} (h : plGo pl mv s j) : j ≤ pl.length :=
  Nat.le_trans (pigeon (t := plTr pl mv s) (n := pl.length) j (fun i hi => ⟨plTr_lt hg hs i (fun a ha => h a (by omega)), (h i hi).2⟩)) (pCnt_top _ _)
theorem plGo_step {pl mv : List (Nat × Nat)} {s j : Nat} {seen : Nat → Int32} (hg : gOk0 pl mv) (hs : s < pl.length) (h : plGo pl mv s j) (hseen : plSeen pl mv s j seen) (h1 : seen (plTr pl mv s j) = -1) (h2 : plV pl mv (plTr pl mv s j) ≠ -1) : plGo pl mv s (j + 1) ∧ plSeen pl mv s (j + 1) (upd seen (plTr pl mv s j) (nI j)) := by
  have hj := plGo_le hg hs h
  have hn := hg.1
  have hnew : ∀ a, a < j → plTr pl mv s a ≠ plTr pl mv s j := fun a ha e => by
    have := hseen.1 a ha
    rw [e, h1] at this
    exact nI_m1 (by omega) this.symm
  refine ⟨fun i hi => ?_, fun i hi => ?_, fun u hu hno => ?_⟩
  · rcases Nat.lt_or_ge i j with q | q
    · exact h i q
    · have : i = j := by omega
      subst this
      exact ⟨h2, hnew⟩
  · rcases Nat.lt_or_ge i j with q | q
    · rw [pk_un (hnew i q)]
      exact hseen.1 i q
    · have : i = j := by omega
      subst this
      exact pk_us
  · rw [pk_un (fun e => hno j (Nat.lt_succ_self j) e.symm)]
    exact hseen.2 u hu (fun i hi => hno i (by omega))
theorem plGo_stop {pl mv : List (Nat × Nat)} {s j : Nat} {seen : Nat → Int32} (hg : gOk0 pl mv) (hs : s < pl.length) (h : plGo pl mv s j) (hseen : plSeen pl mv s j seen) (h1 : ¬ seen (plTr pl mv s j) = -1) : plEnd pl mv s j := by
  refine ⟨h, Or.inr (Classical.byContradiction fun z => h1 (hseen.2 _ (plTr_lt hg hs j h) (fun i hi e => z ⟨i, hi, e⟩)))⟩
/-- the class: where the play ends or comes round -/
theorem lastOfPlay_ok {pl mv : List (Nat × Nat)} {s : Nat} {moves : Int32} {fr to chosen seenAt : Nat → Int32} {post : Int32 → (Nat → Int32) → Prop} (hg : gOk0 pl mv) (hv : RV mv moves fr to) (hc : ∀ u, u < pl.length → chosen u = plV pl mv u) (hs : s < pl.length)
    (h : ∀ j sn, plEnd pl mv s j → j ≤ pl.length → plSeen pl mv s j sn → post (nI (plTr pl mv s j)) sn) : wp_X5_lastOfPlay (nI s) seenAt to chosen post := by
  have hn := hg.1
  have hm := hg.2.1
  unfold wp_X5_lastOfPlay
  refine up2i 20 (by decide) (fun k c => ∀ j, j < k → c j = -1) 0 _ (Nat.zero_le _) (fun j hj => absurd hj (Nat.not_lt_zero _)) (fun rec c hI => ?_) (fun rec k c hk hI go => ?_)
  rotate_left
  · unfold F_X5_lastOfPlay_2
    rw [nI_clamp (show k < 2 ^ 31 by omega)]
    refine lpS (e := 20) hk (by decide) ⟨vp_in_nI (by omega) (by decide), go _ (fun j hj => ?_)⟩
    rw [upd_get]
    split
    · rfl
    · exact hI j (by omega)
  unfold F_X5_lastOfPlay_2
  refine lpE (e := 20) ?_
  refine fx3_go (fun a v sn => ∃ j, j ≤ 20 ∧ v = nI j ∧ a = nI (plTr pl mv s j) ∧ plGo pl mv s j ∧ plSeen pl mv s j sn) (fun _ v _ => 20 - v.toNatClampNeg) ?_ _ _ _ ⟨0, Nat.zero_le _, rfl, rfl, fun i hi => absurd hi (Nat.not_lt_zero _), fun i hi => absurd hi (Nat.not_lt_zero _), fun u hu _ => hI u (by omega)⟩
  rintro rec a v sn ⟨j, hj, rfl, rfl, hgo, hsn⟩ hrec
  have hjn := plGo_le hg hs hgo
  have hlt := plTr_lt hg hs j hgo
  unfold F_X5_lastOfPlay_25
  rw [nI_clamp (show plTr pl mv s j < 2 ^ 31 by omega), hc _ hlt]
  rcases Nat.lt_or_ge j 20 with q | q
  · refine lpS (e := 20) q (by decide) ⟨vp_in_nI (by omega) (by decide), fun z => h j sn (plGo_stop hg hs hgo hsn z) hjn hsn, fun z => ⟨vp_in_nI (by omega) (by decide), fun y => h j sn ⟨hgo, Or.inl y⟩ hjn hsn, fun y => ?_⟩⟩
    rcases plV_cases hg (plTr pl mv s j) with x | ⟨k, x1, x2, x3⟩
    · exact absurd x y
    · obtain ⟨g1, g2⟩ := plGo_step hg hs hgo hsn z y
      have e : plTr pl mv s (j + 1) = lB mv k := by
        show plNx pl mv (plTr pl mv s j) = _
        unfold plNx
        rw [x3, nI_clamp (by omega)]
      rw [x3, nI_clamp (show k < 2 ^ 31 by omega), (hv.2 k x1).2]
      refine ⟨vp_in_nI (by omega) (by decide), vp_in_nI (by omega) (by decide), vp_in_nI (by omega) (by decide), hrec _ _ _ ⟨j + 1, by omega, nI_1 j, by rw [e], g1, g2⟩ (by rw [nI_1, nI_clamp (by omega), nI_clamp (by omega)]; omega)⟩
  · have ej : j = 20 := by omega
    subst ej
    refine lpE (e := 20) (h 20 sn ⟨hgo, Classical.byContradiction fun z => ?_⟩ hjn hsn)
    have : plGo pl mv s 21 := fun i hi => by
      rcases Nat.lt_or_ge i 20 with y | y
      · exact hgo i y
      · have : i = 20 := by omega
        subst this
        exact ⟨fun e => z (Or.inl e), fun a ha e => z (Or.inr ⟨a, ha, e⟩)⟩
    have := plGo_le hg hs this
    omega
