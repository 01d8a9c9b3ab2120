/-! a move of a place's loser changes no winner -/
theorem p_loser {n C p : Nat} {ow ca : Nat → Nat} {E E' : Nat → Nat → Prop} (ho : ∀ v, ow v < 2) (hC : ∀ v, ca v < C) (hE : ∀ v w, E v w → v < n ∧ w < n) (hs : ∀ v w, E' v w → E v w) (hne : ∀ v w, v ≠ p → E v w → E' v w) (hp : pWin ow ca E (1 - ow p) p) (u : Nat) (hu : u < n) : pWin ow ca E' 0 u ↔ pWin ow ca E 0 u := by
  obtain ⟨Sp, rp, hcp, hsp⟩ := hp
  have hop := ho p
  have key : ∀ i, i < 2 → pWin ow ca E i u → pWin ow ca E' i u := by
    rintro i hi ⟨S, r, hc, hsu⟩
    refine ⟨S, r, fun v hv => ?_, hsu⟩
    obtain ⟨c1, c2⟩ := hc v hv
    refine ⟨fun q => ?_, fun q w hw => c2 q w (hs v w hw)⟩
    obtain ⟨w, a, b⟩ := c1 q
    refine ⟨w, hne v w (fun e => ?_) a, b⟩
    -- the owner of p doesn't win p
    rcases (show ow p = 0 ∨ ow p = 1 by omega) with z | z
    · rw [z] at hcp
      have hi0 : i = 0 := by rw [← q, e, z]
      subst hi0
      exact p_apart ho hC hc hcp hv (by rw [e]; exact hsp)
    · rw [z] at hcp
      have hi1 : i = 1 := by rw [← q, e, z]
      subst hi1
      exact p_apart ho hC hcp hc (by rw [e]; exact hsp) hv
  have hE' : ∀ v w, E' v w → v < n ∧ w < n := fun v w h => hE v w (hs v w h)
  refine ⟨fun h => ?_, key 0 (by decide)⟩
  refine Classical.byContradiction fun z => ?_
  have h1 := (p_det ho hC hE u hu).mp z
  exact (p_det ho hC hE' u hu).mpr (key 1 (by decide) h1) h
/-- of equal moves there is but one -/
theorem lA_inj {mv : List (Nat × Nat)} (h : mv.Nodup) {j k : Nat} (hj : j < mv.length) (hk : k < mv.length) (ha : lA mv j = lA mv k) (hb : lB mv j = lB mv k) : j = k := by
  have e : mv[j] = mv[k] := by
    have e1 : mv.getD j (0, 0) = mv[j] := by rw [List.getD_eq_getElem?_getD, List.getElem?_eq_getElem hj]; rfl
    have e2 : mv.getD k (0, 0) = mv[k] := by rw [List.getD_eq_getElem?_getD, List.getElem?_eq_getElem hk]; rfl
    rw [← e1, ← e2]
    exact Prod.ext ha hb
  exact (List.getElem_inj h).mp e
/-- all moves but k -/
def lvBut (k : Nat) : Nat → Bool := fun j => decide (j ≠ k)
theorem gL_but {mv : List (Nat × Nat)} (h : mv.Nodup) {k v w : Nat} (hk : k < mv.length) : gL mv (lvBut k) v w ↔ gEd mv v w ∧ ¬ (v = lA mv k ∧ w = lB mv k) := by
  constructor
  · rintro ⟨j, a, b, c, d⟩
    refine ⟨⟨j, a, c, d⟩, fun ⟨e, f⟩ => ?_⟩
    have := lA_inj h a hk (by rw [c, e]) (by rw [d, f])
    unfold lvBut at b
    rw [decide_eq_true_eq] at b
    exact b this
  · rintro ⟨⟨j, a, c, d⟩, e⟩
    refine ⟨j, a, ?_, c, d⟩
    unfold lvBut
    rw [decide_eq_true_eq]
    rintro rfl
    exact e ⟨c.symm, d.symm⟩
/-! the reference's trap -/
def trapAt (pl mv : List (Nat × Nat)) (i : Nat) (x : Int32) (u : Nat) : Prop := (lA pl u = i → ∀ w, gEd mv u w → bt x w = true) ∧ (lA pl u ≠ i → ∃ w, gEd mv u w ∧ bt x w = true)
theorem x6_isTrap {pl mv : List (Nat × Nat)} {a x : Int32} {now : Nat → Int32} {post : Int32 → Int32 → Prop} (hg : gOk0 pl mv) (hp : RMp pl now) (hv : RMv mv now)
    (hbad1 : (∀ k, k < 2 → a ≠ nI k) → post 0 1) (hbad2 : (¬ ∀ u, bt x u = true → u < pl.length) → post 0 1)
    (h1 : ∀ i, i < 2 → a = nI i → (∀ u, bt x u = true → u < pl.length) → trap (lA pl) (gEd mv) i (fun u => bt x u = true) → post 1 0)
    (h0 : ∀ i, i < 2 → a = nI i → (∀ u, bt x u = true → u < pl.length) → ¬ trap (lA pl) (gEd mv) i (fun u => bt x u = true) → post 0 0) : wp_X6_isTrap a x now post := by
  have hn := hg.1
  have hm := hg.2.1
  unfold wp_X6_isTrap
  refine x6_inN (n := 2) (by decide) (fun q => ⟨fun _ => hbad1 q, fun z => absurd rfl z⟩) (fun i hi e => ⟨fun z => absurd z (by decide), fun _ => ?_⟩)
  refine x6_isSet hp hn (fun q => ⟨fun z => absurd rfl z, fun _ => hbad2 q⟩) (fun hx => ⟨fun _ => ?_, fun z => absurd z (by decide)⟩)
  subst e
  refine up2 pl.length (by omega) (fun p z => (z = 1 ∧ ∀ u, u < p → bt x u = true → trapAt pl mv i x u) ∨ (z = 0 ∧ ¬ ∀ u, u < p → bt x u = true → trapAt pl mv i x u)) 0 _ (Nat.zero_le _) (Or.inl ⟨rfl, fun u hu => absurd hu (Nat.not_lt_zero _)⟩) (fun rec z hI => ?_) (fun rec p z hpn hI go => ?_)
  · unfold F_X6_isTrap_34
    rw [hp.1]
    refine lpE ?_
    rcases hI with ⟨rfl, h⟩ | ⟨rfl, h⟩
    · exact ⟨rfl, h1 i hi rfl hx (fun u hu => h u (hx u hu) hu)⟩
    · exact ⟨rfl, h0 i hi rfl hx (fun t => h (fun u _ hu => t u hu))⟩
  · unfold F_X6_isTrap_34
    rw [hp.1]
    have hop := (gOk0_ow hg p).1
    refine lpS hpn (by omega) ?_
    have goF : ¬ trapAt pl mv i x p → bt x p = true → rec 0 (nI p + 1) := fun t b => go 0 (Or.inr ⟨rfl, fun h => t (h p (Nat.lt_succ_self p) b)⟩)
    have go0 : z = 0 → rec 0 (nI p + 1) := fun e => go 0 (Or.inr ⟨rfl, fun h => by
      rcases hI with ⟨e2, _⟩ | ⟨_, h2⟩
      · rw [e] at e2; exact absurd e2 (by decide)
      · exact h2 (fun u hu => h u (by omega))⟩)
    have go1 : ¬ z = 0 → (bt x p = true → trapAt pl mv i x p) → rec 1 (nI p + 1) := fun e t => go 1 (Or.inl ⟨rfl, fun u hu b => by
      rcases hI with ⟨_, h2⟩ | ⟨e2, _⟩
      · rcases Nat.lt_or_ge u p with y | y
        · exact h2 u y b
        · have : u = p := by omega
          subst this
          exact t b
      · exact absurd e2 e⟩)
    have bad : ¬ trapAt pl mv i x p → (z = 0 → rec 0 (nI p + 1)) ∧ (¬ z = 0 → wp_X6_has x (nI p) (fun r => (r = 0 → rec 1 (nI p + 1)) ∧ (¬ r = 0 → rec 0 (nI p + 1)))) := fun t =>
      ⟨go0, fun e => x6_has (by omega) (fun b => ⟨fun y => absurd y (by decide), fun _ => goF t b⟩) (fun b => ⟨fun _ => go1 e (fun b2 => absurd b2 b), fun y => absurd rfl y⟩)⟩
    have good : trapAt pl mv i x p → (z = 0 → rec 0 (nI p + 1)) ∧ (¬ z = 0 → wp_X6_has x (nI p) (fun r => (r = 0 → rec 1 (nI p + 1)) ∧ (¬ r = 0 → rec 1 (nI p + 1)))) := fun t =>
      ⟨go0, fun e => x6_has (by omega) (fun b => ⟨fun y => absurd y (by decide), fun _ => go1 e (fun _ => t)⟩) (fun b => ⟨fun _ => go1 e (fun _ => t), fun y => absurd rfl y⟩)⟩
    refine up2 mv.length (by omega) (fun k c => c = nI (pCnt (cTo mv x p) k)) 0 _ (Nat.zero_le _) rfl (fun rec2 c hc => ?_) (fun rec2 k c hk hc go2 => ?_)
    · unfold F_X6_isTrap_51
      subst hc
      have t1 := pCnt_top (cAt mv p) mv.length
      have t2 := pCnt_top (cTo mv x p) mv.length
      rw [hv.1, ix4, nI_clamp (show 4 + p < 2 ^ 31 by omega), (hp.2 p hpn).1]
      refine lpE ⟨vp_in_nI (by omega) (by omega), fun y => ?_, fun y => ?_⟩
      · have ne : lA pl p ≠ i := fun w => y (by rw [w])
        have pos : nI (pCnt (cTo mv x p) mv.length) ≤ (0 : Int32) ↔ ¬ 0 < pCnt (cTo mv x p) mv.length := by
          rw [show (0 : Int32) = nI 0 from rfl, nI_leI (by omega) (by decide)]
          omega
        refine ⟨fun w => bad (fun t => pos.mp w (cTo_pos.mpr (t.2 ne))), fun w => good ⟨fun e => absurd e ne, fun _ => cTo_pos.mp ?_⟩⟩
        exact Nat.pos_of_ne_zero fun y2 => w (pos.mpr (by omega))
      · have eq : lA pl p = i := (nI_eq (by omega) (by omega)).mp y
        refine x6_movesAt (f := lA mv) (s := 44) hv.1 (fun k hk => ⟨(hv.2 k hk).1, by have := (gOk0_mv hg hk).1; omega⟩) (by decide) hm (by omega) ?_
        refine ⟨fun w => bad (fun t => w ?_), fun w => good ⟨fun _ => cTo_all.mp ((nI_eq (by omega) (by have := pCnt_top (fun k => decide (lA mv k = p)) mv.length; omega)).mp w), fun e => absurd eq e⟩⟩
        rw [cTo_all.mpr (t.1 eq)]
        rfl
    · unfold F_X6_isTrap_51
      subst hc
      obtain ⟨g1, g2⟩ := gOk0_mv hg hk
      rw [hv.1, ix44, ix105, nI_clamp (show 44 + k < 2 ^ 31 by omega), nI_clamp (show 105 + k < 2 ^ 31 by omega), (hv.2 k hk).1, (hv.2 k hk).2, add0]
      have no : cTo mv x p k = false → rec2 (nI (pCnt (cTo mv x p) k)) (nI k + 1) := fun h => go2 _ (pCnt_no h)
      refine lpS hk (by omega) ⟨vp_in_nI (by omega) (by omega), fun y => no ?_, fun y => ⟨vp_in_nI (by omega) (by omega), x6_has (by omega) (fun hb => ⟨fun w => absurd w (by decide), fun _ => go2 _ (pCnt_yes ?_)⟩) (fun hb => ⟨fun _ => no ?_, fun w => absurd rfl w⟩)⟩⟩
      · have e : ¬ lA mv k = p := fun w => y (by rw [w])
        show (decide (lA mv k = p) && bt x (lB mv k)) = false
        rw [decide_eq_false e, Bool.false_and]
      · have e : lA mv k = p := (nI_eq (by omega) (by omega)).mp y
        show (decide (lA mv k = p) && bt x (lB mv k)) = true
        rw [decide_eq_true e, hb]
        rfl
      · have e : lA mv k = p := (nI_eq (by omega) (by omega)).mp y
        show (decide (lA mv k = p) && bt x (lB mv k)) = false
        rw [decide_eq_true e, Bool.true_and]
        cases h2 : bt x (lB mv k)
        · rfl
        · exact absurd h2 hb
