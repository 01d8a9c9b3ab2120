/-! what won sets, plans and plays keep -/
section WINS
variable {pl mv : List (Nat × Nat)}
theorem w_not (hg : gOk0 pl mv) {i u : Nat} (hi : i < 2) (hu : u < pl.length) : ¬ gW pl mv allL i u ↔ gW pl mv allL (1 - i) u := by
  have h := gW_det (lv := allL) hg hu
  rcases (show i = 0 ∨ i = 1 by omega) with rfl | rfl
  · exact h
  · constructor
    · intro q
      by_cases z : gW pl mv allL 0 u
      · exact z
      · exact absurd (h.mp z) q
    · intro q z
      exact (h.mpr z) q
theorem w_own {i u : Nat} (hg : gOk0 pl mv) (h : gW pl mv allL i u) (ho : lA pl u = i) : ∃ w, gEd mv u w ∧ gW pl mv allL i w := by
  obtain ⟨hu, S, r, hc, hs⟩ := h
  obtain ⟨w, e, hw, -⟩ := (hc u hs).1 ho
  rw [gL_all] at e
  exact ⟨w, e, (gEd_lt hg e).2, S, r, hc, hw⟩
theorem w_opp {i u w : Nat} (hg : gOk0 pl mv) (h : gW pl mv allL i u) (ho : lA pl u ≠ i) (e : gEd mv u w) : gW pl mv allL i w := by
  obtain ⟨hu, S, r, hc, hs⟩ := h
  obtain ⟨hw, -⟩ := (hc u hs).2 ho w (by rw [gL_all]; exact e)
  exact ⟨(gEd_lt hg e).2, S, r, hc, hw⟩
theorem w_pre {i u : Nat} (hg : gOk0 pl mv) (hi : i < 2) (h : pre (lA pl) (gEd mv) i (gW pl mv allL i) u) : gW pl mv allL i u := by
  obtain ⟨w0, e0⟩ := pre_E h
  have hu := (gEd_lt hg e0).1
  by_cases q : gW pl mv allL i u
  · exact q
  · have z := (w_not hg hi hu).mp q
    have ho2 := (gOk0_ow hg u).1
    rcases h with ⟨ho, w, e, hw⟩ | ⟨ho, -, ha⟩
    · have z2 := w_opp hg z (by omega) e
      exact absurd hw ((w_not hg hi (gEd_lt hg e).2).mpr z2)
    · obtain ⟨w, e, hw⟩ := w_own hg z (by omega)
      exact absurd (ha w e) ((w_not hg hi (gEd_lt hg e).2).mpr hw)
theorem w_pIter {i : Nat} (hg : gOk0 pl mv) (hi : i < 2) : ∀ (k u : Nat), pIter (lA pl) (gEd mv) i (gW pl mv allL i) k u → gW pl mv allL i u
  | 0, u, h => h
  | k + 1, u, h => by
    rcases h with h | h
    · exact w_pIter hg hi k u h
    · exact w_pre hg hi (pre_mono (w_pIter hg hi k) h)
theorem w_trap {i : Nat} (hg : gOk0 pl mv) (hi : i < 2) : trap (lA pl) (gEd mv) i (gW pl mv allL (1 - i)) := by
  intro v hv
  have ho2 := (gOk0_ow hg v).1
  refine ⟨fun ho w e => w_opp hg hv (by omega) e, fun ho => w_own hg hv (by omega)⟩
theorem stay_mono {ow : Nat → Nat} {E : Nat → Nat → Prop} {i : Nat} {X Y : Nat → Prop} (h : ∀ v, X v → Y v) {v : Nat} (a : stay ow E i X v) : stay ow E i Y v :=
  ⟨fun q => (a.1 q).elim (fun ⟨w, e, z⟩ => Or.inl ⟨w, e, h w z⟩) Or.inr, fun q w e => h w (a.2 q w e)⟩
theorem w_stay {i : Nat} (hg : gOk0 pl mv) : ∀ (k u : Nat), gW pl mv allL i u → sIter (lA pl) (gEd mv) i (gW pl mv allL i) k u
  | 0, u, h => h
  | k + 1, u, h => ⟨w_stay hg k u h, stay_mono (w_stay hg k) ⟨fun ho => Or.inl (w_own hg h ho), fun ho w e => w_opp hg h ho e⟩⟩
/-! plans -/
theorem rFst_no {P : Nat → Bool} {n : Nat} (hn : n < 1000) (h : rFst P n = -1) (k : Nat) (hk : k < n) : ¬ P k = true := by
  intro q
  obtain ⟨j, ⟨hj, hpj⟩, hm⟩ := pk_least (fun j => j < n ∧ P j = true) ⟨k, hk, q⟩
  have e := rFst_hit (n := n) hpj (fun j' h1 h2 => hm j' h1 ⟨by omega, h2⟩) hj
  rw [e] at h
  exact nI_m1 (by omega) h
theorem p_none (hg : gOk0 pl mv) {u : Nat} (hu : u < pl.length) : plV pl mv u = -1 ↔ ∀ w, ¬ gEd mv u w := by
  have hm := hg.2.1
  constructor
  · intro h w ⟨k, hk, ha, hb⟩
    by_cases q : gW pl mv allL (lA pl u) u
    · obtain ⟨h1, -, h3⟩ := plLv_at hg rfl q
      rw [h3] at h
      exact nI_m1 (by have := h1.1; omega) h
    · rw [plV_no q] at h
      exact rFst_no (by omega) h k hk (decide_eq_true ha)
  · intro h
    rcases plV_cases hg u with q | ⟨k, hk, ha, -⟩
    · exact q
    · exact absurd ⟨k, hk, ha, rfl⟩ (h (lB mv k))
theorem p_move (hg : gOk0 pl mv) {u : Nat} (h : plV pl mv u ≠ -1) : ∃ k, k < mv.length ∧ lA mv k = u ∧ plV pl mv u = nI k ∧ plNx pl mv u = lB mv k := by
  have hm := hg.2.1
  rcases plV_cases hg u with q | ⟨k, hk, ha, e⟩
  · exact absurd q h
  · refine ⟨k, hk, ha, e, ?_⟩
    unfold plNx
    rw [e, nI_clamp (by omega)]
theorem p_edge (hg : gOk0 pl mv) {u : Nat} (h : plV pl mv u ≠ -1) : gEd mv u (plNx pl mv u) := by
  obtain ⟨k, hk, ha, -, e⟩ := p_move hg h
  exact ⟨k, hk, ha, e.symm⟩
theorem p_keep (hg : gOk0 pl mv) {i u : Nat} (h : gW pl mv allL i u) (hn : plV pl mv u ≠ -1) : gW pl mv allL i (plNx pl mv u) := by
  have hm := hg.2.1
  by_cases ho : lA pl u = i
  · obtain ⟨h1, -, h3⟩ := plLv_at hg ho h
    have e : plNx pl mv u = lB mv (plK pl mv i (plLv pl mv i u) u) := by
      unfold plNx
      rw [h3, nI_clamp (by have := h1.1; omega)]
    rw [e]
    by_cases q : gW pl mv allL i (lB mv (plK pl mv i (plLv pl mv i u) u))
    · exact q
    · exact absurd h1.2.2.1 (pl_out hg (plInv_lv hg i u) ho h h1.1 h1.2.1 q)
  · exact w_opp hg h ho (p_edge hg hn)
theorem p_ends (hg : gOk0 pl mv) {i u : Nat} (h : gW pl mv allL i u) (hn : plV pl mv u = -1) : lA pl u ≠ i := by
  intro ho
  obtain ⟨w, e, -⟩ := w_own hg h ho
  exact (p_none hg h.1).mp hn w e
/-- in the game where only the planned moves are left to i: those are left -/
theorem p_only (hg : gOk0 pl mv) {i p : Nat} (ho : lA pl p = i) (h : gW pl mv allL i p) : ∀ m, p < m → ∀ w, gL mv (plLv pl mv i m) p w → w = plNx pl mv p := by
  have hm := hg.2.1
  intro m
  induction m with
  | zero => intro h0; omega
  | succ m ih =>
    intro hpm w hw
    by_cases q : p = m
    · subst q
      obtain ⟨h1, h2, h3⟩ := plLv_at hg ho h
      rw [h2] at hw
      have e := (lvO_eq h1.1 h1.2.1).mp hw
      unfold plNx
      rw [h3, nI_clamp (by have := h1.1; omega)]
      exact e
    · by_cases z : lA pl m = i ∧ gW pl mv allL i m
      · obtain ⟨h1, h2, h3⟩ := plLv_at hg z.1 z.2
        rw [h2] at hw
        exact ih (by omega) w ((lvO_ne q).mp hw)
      · rw [plLv_no z] at hw
        exact ih (by omega) w hw
/-- one certificate along all plays by plans -/
theorem p_cert (hg : gOk0 pl mv) (i : Nat) : ∃ r : Nat → Nat → Nat, ∀ u, gW pl mv allL i u → plV pl mv u ≠ -1 → pOk (lB pl) i r u (plNx pl mv u) := by
  have hI := plInv_lv hg i pl.length
  obtain ⟨S, r, hc, -, hS⟩ := p_allwin (ow := lA pl) (ca := lB pl) (E := gL mv (plLv pl mv i pl.length)) (n := pl.length) (fun v w => gL_lt hg v w) i pl.length
  refine ⟨r, fun u hu hn => ?_⟩
  have hs : S u := hS u hu.1 hu.1 (hI.2 u hu).2
  by_cases ho : lA pl u = i
  · obtain ⟨w, e, -, hk⟩ := (hc u hs).1 ho
    rw [p_only hg ho hu pl.length hu.1 w e] at hk
    exact hk
  · exact ((hc u hs).2 ho _ (hI.1 _ _ ho (by rw [gL_all]; exact p_edge hg hn))).2
/-! plays -/
theorem t_keep (hg : gOk0 pl mv) {i s : Nat} (h : gW pl mv allL i s) : ∀ j, foGo pl mv s j → gW pl mv allL i (plTr pl mv s j)
  | 0, _ => h
  | j + 1, q => p_keep hg (t_keep hg h j (fun k hk => q k (by omega))) (q j (Nat.lt_succ_self j))
theorem plGo_fo {s j : Nat} (h : plGo pl mv s j) : foGo pl mv s j := fun i hi => (h i hi).1
theorem ex_end (hg : gOk0 pl mv) {s : Nat} (hs : s < pl.length) : ∃ j, plEnd pl mv s j := by
  by_cases h : ∃ j, plEnd pl mv s j
  · exact h
  · have all : ∀ j, plGo pl mv s j := by
      intro j
      induction j with
      | zero => intro i hi; omega
      | succ j ih =>
        intro i hi
        by_cases q : i = j
        · subst q
          refine ⟨fun z => h ⟨i, ih, Or.inl z⟩, fun a ha z => h ⟨i, ih, Or.inr ⟨a, ha, z⟩⟩⟩
        · exact ih i (by omega)
    have := plGo_le hg hs (all (pl.length + 1))
    omega
theorem pyEnd_ok (hg : gOk0 pl mv) {s : Nat} (hs : s < pl.length) : plEnd pl mv s (pyEnd pl mv s) := Classical.epsilon_spec (ex_end hg hs)
theorem pySeen_ok (hg : gOk0 pl mv) {s : Nat} (hs : s < pl.length) : plSeen pl mv s (pyEnd pl mv s) (pySeen pl mv s) := by
  have hE := pyEnd_ok hg hs
  refine Classical.epsilon_spec (p := plSeen pl mv s (pyEnd pl mv s)) ?_
  classical
  refine ⟨fun u => if h : ∃ i, i < pyEnd pl mv s ∧ plTr pl mv s i = u then nI (Classical.choose h) else -1, fun i hi => ?_, fun u hu hno => ?_⟩
  · have hx : ∃ k, k < pyEnd pl mv s ∧ plTr pl mv s k = plTr pl mv s i := ⟨i, hi, rfl⟩
    dsimp only
    rw [dif_pos hx]
    obtain ⟨a, b⟩ := Classical.choose_spec hx
    have e : Classical.choose hx = i := by
      rcases Nat.lt_trichotomy (Classical.choose hx) i with q | q | q
      · exact absurd b ((hE.1 i hi).2 _ q)
      · exact q
      · exact absurd b.symm ((hE.1 _ a).2 i q)
    rw [e]
  · dsimp only
    rw [dif_neg (fun ⟨i, a, b⟩ => hno i a b)]
/-- the play comes round: what it says -/
theorem per (s : Nat) {a j : Nat} (haj : a < j) (e : plTr pl mv s a = plTr pl mv s j) : ∀ m, a ≤ m → plTr pl mv s (m + (j - a)) = plTr pl mv s m := by
  intro m hm
  obtain ⟨k, rfl⟩ := Nat.exists_eq_add_of_le hm
  clear hm
  induction k with
  | zero => rw [Nat.add_zero, show a + (j - a) = j by omega]; exact e.symm
  | succ k ih =>
    show plTr pl mv s (a + k + 1 + (j - a)) = plTr pl mv s (a + k + 1)
    rw [show a + k + 1 + (j - a) = (a + k + (j - a)) + 1 by omega]
    simp only [plTr]
    rw [ih]
theorem per_go {s a j : Nat} (haj : a < j) (hgo : foGo pl mv s j) (e : plTr pl mv s a = plTr pl mv s j) : ∀ m, plV pl mv (plTr pl mv s m) ≠ -1 := by
  intro m
  induction m using Nat.strongRecOn with
  | ind m ih =>
    rcases Nat.lt_or_ge m j with q | q
    · exact hgo m q
    · have h := per (pl := pl) (mv := mv) s haj e (m - (j - a)) (by omega)
      rw [show m - (j - a) + (j - a) = m by omega] at h
      rw [h]
      exact ih _ (by omega)
/-- the greatest call of a ring has the winner's number -/
theorem ring_par (hg : gOk0 pl mv) {i s a j c : Nat} (hi : i < 2) (hw : gW pl mv allL i s) (haj : a < j) (hgo : foGo pl mv s j) (e : plTr pl mv s a = plTr pl mv s j)
    (hle : ∀ m, a ≤ m → m < j → lB pl (plTr pl mv s m) ≤ c) (hat : ∃ m, a ≤ m ∧ m < j ∧ lB pl (plTr pl mv s m) = c) : c % 2 = i := by
  by_cases h : c % 2 = i
  · exact h
  · obtain ⟨r, hr⟩ := p_cert hg i
    have step : ∀ m, a ≤ m → m < j → r c (plTr pl mv s (m + 1)) + (if lB pl (plTr pl mv s m) = c then 1 else 0) ≤ r c (plTr pl mv s m) := by
      intro m h1 h2
      exact hr _ (t_keep hg hw m (fun k hk => hgo k (by omega))) (hgo m h2) c h (hle m h1 h2)
    have mono : ∀ k, a + k ≤ j → r c (plTr pl mv s (a + k)) ≤ r c (plTr pl mv s a) := by
      intro k
      induction k with
      | zero => intro _; exact Nat.le_refl _
      | succ k ih =>
        intro hk
        have h1 := step (a + k) (by omega) (by omega)
        have h2 := ih (by omega)
        show r c (plTr pl mv s (a + k + 1)) ≤ _
        omega
    obtain ⟨m, h1, h2, h3⟩ := hat
    have s1 := step m h1 h2
    rw [if_pos h3] at s1
    have s2 := mono (m - a) (by omega)
    rw [show a + (m - a) = m by omega] at s2
    have tail : ∀ k, m + 1 + k ≤ j → r c (plTr pl mv s (m + 1 + k)) ≤ r c (plTr pl mv s (m + 1)) := by
      intro k
      induction k with
      | zero => intro _; exact Nat.le_refl _
      | succ k ih =>
        intro hk
        have z1 := step (m + 1 + k) (by omega) (by omega)
        have z2 := ih (by omega)
        show r c (plTr pl mv s (m + 1 + k + 1)) ≤ _
        omega
    have s3 := tail (j - (m + 1)) (by omega)
    rw [show m + 1 + (j - (m + 1)) = j by omega, ← e] at s3
    omega
theorem ldMax_empty {sn : Nat → Int32} {a : Int32} : ∀ k, (∀ u, u < k → sn u < a) → ldMax pl sn a k = -1
  | 0, _ => rfl
  | k + 1, h => by
    simp only [ldMax]
    rw [if_pos (h k (Nat.lt_succ_self k))]
    exact ldMax_empty k (fun u hu => h u (Nat.lt_succ_of_lt hu))
theorem ldMax_ok (hg : gOk0 pl mv) {sn : Nat → Int32} {a : Int32} : ∀ k, (∃ u, u < k ∧ ¬ sn u < a) → ∃ c, c < 10 ∧ ldMax pl sn a k = nI c ∧ (∀ u, u < k → ¬ sn u < a → lB pl u ≤ c) ∧ ∃ u, u < k ∧ ¬ sn u < a ∧ lB pl u = c
  | 0, h => by obtain ⟨u, q, -⟩ := h; omega
  | k + 1, h => by
    have hk := (gOk0_ow hg k).2
    simp only [ldMax]
    by_cases q : sn k < a
    · rw [if_pos q]
      obtain ⟨u, h1, h2⟩ := h
      have hu : u < k := by
        rcases Nat.lt_or_ge u k with z | z
        · exact z
        · rw [show u = k by omega] at h2; exact absurd q h2
      obtain ⟨c, c0, c1, c2, v, c3, c4, c5⟩ := ldMax_ok hg k ⟨u, hu, h2⟩
      refine ⟨c, c0, c1, fun w hw hs => ?_, v, by omega, c4, c5⟩
      rcases Nat.lt_or_ge w k with z | z
      · exact c2 w z hs
      · rw [show w = k by omega] at hs; exact absurd q hs
    · rw [if_neg q]
      by_cases z : ∃ u, u < k ∧ ¬ sn u < a
      · obtain ⟨c, c0, c1, c2, v, c3, c4, c5⟩ := ldMax_ok hg k z
        rw [c1]
        by_cases y : c < lB pl k
        · rw [if_pos (nI_lt y (by omega))]
          refine ⟨lB pl k, hk, rfl, fun w hw hs => ?_, k, Nat.lt_succ_self k, q, rfl⟩
          rcases Nat.lt_or_ge w k with x | x
          · have := c2 w x hs; omega
          · rw [show w = k by omega]; exact Nat.le_refl _
        · rw [if_neg (nI_nlt (by omega) (by omega))]
          refine ⟨c, c0, rfl, fun w hw hs => ?_, v, by omega, c4, c5⟩
          rcases Nat.lt_or_ge w k with x | x
          · exact c2 w x hs
          · rw [show w = k by omega]; omega
      · have e : ldMax pl sn a k = -1 := ldMax_empty k (fun u hu => by
          by_cases x : sn u < a
          · exact x
          · exact absurd ⟨u, hu, x⟩ z)
        refine ⟨lB pl k, hk, ?_, fun w hw hs => ?_, k, Nat.lt_succ_self k, q, rfl⟩
        · rw [e]
          exact if_pos (Int32.lt_iff_toInt_lt.mpr (by rw [nI_toInt (by omega)]; show (-1 : Int) < _; omega))
        · rcases Nat.lt_or_ge w k with x | x
          · exact absurd ⟨w, x, hs⟩ z
          · rw [show w = k by omega]; exact Nat.le_refl _
end WINS
