/-! the reference: pulling, staying, coming back -/
theorem pCnt_pos {f : Nat → Bool} : ∀ {n : Nat}, 0 < pCnt f n ↔ ∃ k, k < n ∧ f k = true
  | 0 => ⟨fun h => absurd h (Nat.lt_irrefl _), fun ⟨k, h, _⟩ => absurd h (Nat.not_lt_zero _)⟩
  | n + 1 => by
    simp only [pCnt]
    by_cases q : f n = true
    · rw [if_pos q]
      exact ⟨fun _ => ⟨n, Nat.lt_succ_self _, q⟩, fun _ => Nat.succ_pos _⟩
    · rw [if_neg q, Nat.add_zero, pCnt_pos]
      exact ⟨fun ⟨k, a, b⟩ => ⟨k, by omega, b⟩, fun ⟨k, a, b⟩ => ⟨k, by
        rcases Nat.lt_or_ge k n with z | z
        · exact z
        · have : k = n := by omega
          subst this
          exact absurd b q, b⟩⟩
theorem pCnt_same {f g : Nat → Bool} {n : Nat} (h : ∀ k, k < n → f k = true → g k = true) : pCnt f n = pCnt g n ↔ ∀ k, k < n → g k = true → f k = true := by
  constructor
  · intro e k hk hg
    refine Classical.byContradiction fun q => ?_
    have := pCnt_mono_lt h ⟨k, hk, by cases hf : f k; rfl; exact absurd hf q, hg⟩
    omega
  · intro h2
    exact Nat.le_antisymm (pCnt_le h) (pCnt_le h2)
theorem pCnt_yes {f : Nat → Bool} {k : Nat} (h : f k = true) : nI (pCnt f k) + 1 = nI (pCnt f (k + 1)) := by
  simp only [pCnt]
  rw [if_pos h, nI_1]
theorem pCnt_no {f : Nat → Bool} {k : Nat} (h : f k = false) : nI (pCnt f k) = nI (pCnt f (k + 1)) := by
  simp only [pCnt]
  rw [if_neg (by rw [h]; decide)]
  rfl
theorem add0 (x : Int32) : x + (0 : Int32) = x := Int32.add_zero x
/-- of the moves of p, those into X -/
def cTo (mv : List (Nat × Nat)) (x : Int32) (p k : Nat) : Bool := decide (lA mv k = p) && bt x (lB mv k)
def cAt (mv : List (Nat × Nat)) (p k : Nat) : Bool := decide (lA mv k = p)
theorem cAt_pos {mv : List (Nat × Nat)} {p : Nat} : 0 < pCnt (cAt mv p) mv.length ↔ ∃ w, gEd mv p w := by
  rw [pCnt_pos]
  unfold cAt
  exact ⟨fun ⟨k, a, b⟩ => ⟨_, k, a, of_decide_eq_true b, rfl⟩, fun ⟨w, k, a, b, _⟩ => ⟨k, a, decide_eq_true b⟩⟩
theorem cTo_pos {mv : List (Nat × Nat)} {x : Int32} {p : Nat} : 0 < pCnt (cTo mv x p) mv.length ↔ ∃ w, gEd mv p w ∧ bt x w = true := by
  rw [pCnt_pos]
  unfold cTo
  constructor
  · rintro ⟨k, a, b⟩
    rw [Bool.and_eq_true, decide_eq_true_eq] at b
    exact ⟨_, ⟨k, a, b.1, rfl⟩, b.2⟩
  · rintro ⟨w, ⟨k, a, b, rfl⟩, c⟩
    exact ⟨k, a, by rw [Bool.and_eq_true, decide_eq_true_eq]; exact ⟨b, c⟩⟩
theorem cTo_le {mv : List (Nat × Nat)} {x : Int32} {p k : Nat} (h : cTo mv x p k = true) : cAt mv p k = true := by
  unfold cTo at h
  rw [Bool.and_eq_true] at h
  exact h.1
theorem cTo_all {mv : List (Nat × Nat)} {x : Int32} {p : Nat} : pCnt (cTo mv x p) mv.length = pCnt (cAt mv p) mv.length ↔ ∀ w, gEd mv p w → bt x w = true := by
  rw [pCnt_same (fun k _ => cTo_le)]
  constructor
  · rintro h w ⟨k, a, b, rfl⟩
    have := h k a (decide_eq_true b)
    unfold cTo at this
    rw [Bool.and_eq_true] at this
    exact this.2
  · intro h k a b
    have b := of_decide_eq_true b
    unfold cTo
    rw [Bool.and_eq_true, decide_eq_true_eq]
    exact ⟨b, h _ ⟨k, a, b, rfl⟩⟩
/-- the same of those that lead out -/
def cOut (mv : List (Nat × Nat)) (x : Int32) (p k : Nat) : Bool := decide (lA mv k = p) && !bt x (lB mv k)
theorem cOut_pos {mv : List (Nat × Nat)} {x : Int32} {p : Nat} : 0 < pCnt (cOut mv x p) mv.length ↔ ∃ w, gEd mv p w ∧ ¬ bt x w = true := by
  rw [pCnt_pos]
  unfold cOut
  constructor
  · rintro ⟨k, a, b⟩
    rw [Bool.and_eq_true, decide_eq_true_eq, Bool.not_eq_true'] at b
    exact ⟨_, ⟨k, a, b.1, rfl⟩, by rw [b.2]; decide⟩
  · rintro ⟨w, ⟨k, a, b, rfl⟩, c⟩
    refine ⟨k, a, ?_⟩
    rw [Bool.and_eq_true, decide_eq_true_eq, Bool.not_eq_true']
    exact ⟨b, by cases h : bt x (lB mv k); rfl; exact absurd h c⟩
theorem cOut_all {mv : List (Nat × Nat)} {x : Int32} {p : Nat} : pCnt (cOut mv x p) mv.length = pCnt (cAt mv p) mv.length ↔ ∀ w, gEd mv p w → ¬ bt x w = true := by
  have hle : ∀ k, k < mv.length → cOut mv x p k = true → cAt mv p k = true := fun k _ h => by
    unfold cOut at h
    rw [Bool.and_eq_true] at h
    exact h.1
  rw [pCnt_same hle]
  constructor
  · rintro h w ⟨k, a, b, rfl⟩
    have := h k a (decide_eq_true b)
    unfold cOut at this
    rw [Bool.and_eq_true, Bool.not_eq_true'] at this
    rw [this.2]
    decide
  · intro h k a b
    have b := of_decide_eq_true b
    unfold cOut
    rw [Bool.and_eq_true, decide_eq_true_eq, Bool.not_eq_true']
    exact ⟨b, by cases h2 : bt x (lB mv k); rfl; exact absurd h2 (h _ ⟨k, a, b, rfl⟩)⟩
theorem x6_forces {pl mv : List (Nat × Nat)} {i p : Nat} {x : Int32} {now : Nat → Int32} {post : Int32 → Prop} (hg : gOk0 pl mv) (hp : RMp pl now) (hv : RMv mv now) (hi : i < 2) (hpn : p < pl.length)
    (h1 : pre (lA pl) (gEd mv) i (fun u => bt x u = true) p → post 1) (h0 : ¬ pre (lA pl) (gEd mv) i (fun u => bt x u = true) p → post 0) : wp_X6_forces (nI i) (nI p) x now post := by
  have hn := hg.1
  have hm := hg.2.1
  have hop := (gOk0_ow hg p).1
  unfold wp_X6_forces
  refine fx3_go (fun a b v => ∃ k, k ≤ mv.length ∧ v = nI k ∧ a = nI (pCnt (cAt mv p) k) ∧ b = nI (pCnt (cTo mv x p) k)) (fun _ _ v => mv.length - v.toNatClampNeg) ?_ _ _ _ ⟨0, Nat.zero_le _, rfl, rfl, rfl⟩
  rintro rec a b v ⟨k, hk, rfl, rfl, rfl⟩ hrec
  unfold F_X6_forces_9
  rw [hv.1]
  have hcl : (nI k).toNatClampNeg = k := nI_clamp (by omega)
  rcases Nat.lt_or_ge k mv.length with q | q
  · rw [ix44, ix105, nI_clamp (show 44 + k < 2 ^ 31 by omega), nI_clamp (show 105 + k < 2 ^ 31 by omega), (hv.2 k q).1, (hv.2 k q).2]
    obtain ⟨g1, g2⟩ := gOk0_mv hg q
    have hmu : mv.length - (nI k + 1).toNatClampNeg < mv.length - (nI k).toNatClampNeg := by rw [nI_1, nI_clamp (by omega), hcl]; omega
    refine lpS q (by omega) ⟨vp_in_nI (by omega) (by omega), fun z => hrec _ _ _ ⟨k + 1, by omega, nI_1 k, ?_, ?_⟩ hmu, fun z => ⟨vp_in_nI (by omega) (by omega), ?_⟩⟩
    · have e : ¬ lA mv k = p := fun y => z (by rw [y])
      exact pCnt_no (decide_eq_false e)
    · have e : ¬ lA mv k = p := fun y => z (by rw [y])
      exact pCnt_no (show (decide (lA mv k = p) && bt x (lB mv k)) = false by rw [decide_eq_false e, Bool.false_and])
    · have e : lA mv k = p := (nI_eq (by omega) (by omega)).mp z
      refine x6_has (by omega) (fun hb => ⟨fun y => absurd y (by decide), fun _ => hrec _ _ _ ⟨k + 1, by omega, nI_1 k, ?_, ?_⟩ hmu⟩) (fun hb => ⟨fun _ => hrec _ _ _ ⟨k + 1, by omega, nI_1 k, ?_, ?_⟩ hmu, fun y => absurd rfl y⟩)
      · exact pCnt_yes (decide_eq_true e)
      · exact pCnt_yes (show (decide (lA mv k = p) && bt x (lB mv k)) = true by rw [decide_eq_true e, hb]; rfl)
      · exact pCnt_yes (decide_eq_true e)
      · rw [add0]
        exact pCnt_no (show (decide (lA mv k = p) && bt x (lB mv k)) = false by
          rw [decide_eq_true e, Bool.true_and]
          cases h2 : bt x (lB mv k)
          · rfl
          · exact absurd h2 hb)
  · have e : k = mv.length := by omega
    subst e
    have t1 := pCnt_top (cAt mv p) mv.length
    have t2 := pCnt_top (cTo mv x p) mv.length
    have pos : ∀ {c : Nat}, c ≤ 60 → (nI c ≤ (0 : Int32) ↔ ¬ 0 < c) := fun hc => by
      rw [show (0 : Int32) = nI 0 from rfl, nI_leI (by omega) (by decide)]
      omega
    rw [ix4, nI_clamp (show 4 + p < 2 ^ 31 by omega), (hp.2 p hpn).1]
    refine lpE ⟨vp_in_nI (by omega) (by omega), fun z => ⟨fun y => h0 ?_, fun y => ⟨fun w => h0 ?_, fun w => h1 ?_⟩⟩, fun z => ⟨fun y => h0 ?_, fun y => h1 ?_⟩⟩
    · have ne : lA pl p ≠ i := fun y => z (by rw [y])
      rintro (⟨a, _⟩ | ⟨_, a, _⟩)
      · exact ne a
      · exact ((pos (by omega)).mp y) (cAt_pos.mpr a)
    · have ne : lA pl p ≠ i := fun y => z (by rw [y])
      rintro (⟨a, _⟩ | ⟨_, _, a⟩)
      · exact ne a
      · exact w (by rw [cTo_all.mpr a])
    · have ne : lA pl p ≠ i := fun y => z (by rw [y])
      refine Or.inr ⟨ne, cAt_pos.mp (Nat.pos_of_ne_zero fun y2 => y ((pos (by omega)).mpr (by omega))), cTo_all.mp ((nI_eq (by omega) (by omega)).mp w)⟩
    · have eq : lA pl p = i := (nI_eq (by omega) (by omega)).mp z
      rintro (⟨_, a⟩ | ⟨a, _⟩)
      · exact ((pos (by omega)).mp y) (cTo_pos.mpr a)
      · exact a eq
    · have eq : lA pl p = i := (nI_eq (by omega) (by omega)).mp z
      exact Or.inl ⟨eq, cTo_pos.mp (Nat.pos_of_ne_zero fun y2 => y ((pos (by omega)).mpr (by omega)))⟩
theorem or0 (x : Int32) : x ||| (0 : Int32) = x := b_ext (fun i _ => by rw [b_or, b_0, Bool.or_false])
theorem x6_forcing {pl mv : List (Nat × Nat)} {i : Nat} {x : Int32} {X : Nat → Prop} {now : Nat → Int32} {post : Int32 → Prop} (hg : gOk0 pl mv) (hp : RMp pl now) (hv : RMv mv now) (hi : i < 2) (hX : ∀ u, bt x u = true ↔ X u)
    (h : ∀ r, (∀ u, bt r u = true ↔ pre (lA pl) (gEd mv) i X u) → post r) : wp_X6_forcing (nI i) x now post := by
  have hn := hg.1
  unfold wp_X6_forcing
  refine up2 pl.length (by omega) (fun k z => ∀ u, bt z u = true ↔ u < k ∧ pre (lA pl) (gEd mv) i (fun u => bt x u = true) u) 0 _ (Nat.zero_le _) (fun u => by rw [b_0]; simp) (fun rec z hI => ?_) (fun rec k z hk hI go => ?_)
  · unfold F_X6_forcing_5
    rw [hp.1]
    refine lpE (h _ (fun u => ?_))
    rw [hI u, pre_congr hX u]
    exact ⟨fun q => q.2, fun q => ⟨(pre_E q).elim fun w hw => (gEd_lt hg hw).1, q⟩⟩
  · unfold F_X6_forcing_5
    rw [hp.1]
    refine lpS hk (by omega) (x6_forces hg hp hv hi hk (fun q => ⟨fun y => absurd y (by decide), fun _ => go _ (fun u => ?_)⟩) (fun q => ⟨fun _ => go _ (fun u => ?_), fun y => absurd rfl y⟩))
    · rw [b_setbit (by omega), hI u, st_yes (X := fun u => pre (lA pl) (gEd mv) i (fun u => bt x u = true) u) q]
    · rw [or0, hI u, st_no (X := fun u => pre (lA pl) (gEd mv) i (fun u => bt x u = true) u) q]
theorem x6_pulls {pl mv : List (Nat × Nat)} {i : Nat} {x : Int32} {T : Nat → Prop} {now rank : Nat → Int32} {post : Int32 → (Nat → Int32) → Prop} (hg : gOk0 pl mv) (hp : RMp pl now) (hv : RMv mv now) (hi : i < 2) (hT : ∀ u, bt x u = true ↔ T u) (hTn : ∀ u, T u → u < pl.length)
    (h : ∀ r rk, (∀ u, bt r u = true ↔ ∃ k, pIter (lA pl) (gEd mv) i T k u) → (∀ u k, pIter (lA pl) (gEd mv) i T k u → (∀ j, j < k → ¬ pIter (lA pl) (gEd mv) i T j u) → rk u = nI k) → post r rk) : wp_X6_pulls (nI i) x now rank post := by
  have hn := hg.1
  have hEn : ∀ v w, gEd mv v w → v < pl.length ∧ w < pl.length := fun v w q => gEd_lt hg q
  unfold wp_X6_pulls
  refine up2i pl.length (by omega) (fun k rk => ∀ u, u < k → T u → rk u = 0) 0 _ (Nat.zero_le _) (fun u hu => absurd hu (Nat.not_lt_zero _)) (fun rec rk hI => ?_) (fun rec k rk hk hI go => ?_)
  rotate_left
  · unfold F_X6_pulls_2
    rw [hp.1, nI_clamp (show k < 2 ^ 31 by omega)]
    refine lpS hk (by omega) (x6_has (by omega) (fun hb => ⟨fun y => absurd y (by decide), fun _ => ⟨vp_in_nI (by omega) (by omega), go _ (fun u hu ht => ?_)⟩⟩) (fun hb => ⟨fun _ => ⟨vp_in_nI (by omega) (by omega), go _ (fun u hu ht => ?_)⟩, fun y => absurd rfl y⟩))
    · rw [upd_get]
      split
      · rfl
      · exact hI u (by omega) ht
    · have : u ≠ k := fun e => hb ((hT k).mpr (by rw [← e]; exact ht))
      rw [pk_un this]
      exact hI u (by omega) ht
  unfold F_X6_pulls_2
  rw [hp.1]
  refine lpE ?_
  refine fx4_go (fun f m r rk => ∃ k, k ≤ pl.length + 1 ∧ r = nI (k + 1) ∧ (∀ u, bt f u = true ↔ pIter (lA pl) (gEd mv) i T k u) ∧ (m = 0 → ∀ u, pIter (lA pl) (gEd mv) i T (k + 1) u → pIter (lA pl) (gEd mv) i T k u) ∧ (k ≤ pNum (pIter (lA pl) (gEd mv) i T k) pl.length ∨ m = 0) ∧ ∀ u j, j ≤ k → pIter (lA pl) (gEd mv) i T j u → (∀ j', j' < j → ¬ pIter (lA pl) (gEd mv) i T j' u) → rk u = nI j) (fun _ _ r _ => pl.length + 3 - r.toNatClampNeg) ?_ _ _ _ _
    ⟨0, Nat.zero_le _, rfl, hT, fun z u hu => ?_, Or.inl (Nat.zero_le _), fun u j hj hu _ => ?_⟩
  rotate_left
  · -- the empty set: nothing is pulled
    rcases hu with hu | hu
    · exact hu
    · rcases hu with ⟨_, w, _, b⟩ | ⟨_, ⟨w, a⟩, b⟩
      · have := (hT w).mpr b
        rw [z, b_0] at this
        cases this
      · have := (hT w).mpr (b w a)
        rw [z, b_0] at this
        cases this
  · have : j = 0 := by omega
    subst this
    exact hI u (hTn u hu) hu
  rintro rec f m r rk ⟨k, hk, rfl, hb, hz, hcnt, hrk⟩ hrec
  unfold F_X6_pulls_45
  refine ⟨fun q => ?_, fun q => ?_⟩
  · have st := pIter_stab (hz q)
    refine h _ _ (fun u => ?_) (fun u j hu hno => hrk u j ?_ hu hno)
    · rw [hb u]
      exact ⟨fun a => ⟨k, a⟩, fun ⟨j, a⟩ => st j u a⟩
    · exact Nat.le_of_not_lt fun z => hno k z (st j u hu)
  · have hck : k ≤ pNum (pIter (lA pl) (gEd mv) i T k) pl.length := hcnt.resolve_right q
    have hkn : k ≤ pl.length := Nat.le_trans hck (pCnt_top _ _)
    refine x6_forcing hg hp hv hi hb (fun r7 hr7 => ?_)
    have hmore : ∀ u, bt (r7 &&& (f ^^^ (-1 : Int32))) u = true ↔ pIter (lA pl) (gEd mv) i T (k + 1) u ∧ ¬ pIter (lA pl) (gEd mv) i T k u := fun u => by
      rw [b_diff, hr7 u, hb u]
      exact ⟨fun a => ⟨Or.inr a.1, a.2⟩, fun a => ⟨a.1.resolve_left a.2, a.2⟩⟩
    refine up2i pl.length (by omega) (fun p rk2 => ∀ u, rk2 u = if u < p ∧ bt (r7 &&& (f ^^^ (-1 : Int32))) u = true then nI (k + 1) else rk u) 0 _ (Nat.zero_le _) (fun u => by rw [if_neg (fun a => Nat.not_lt_zero _ a.1)]) (fun rec2 rk2 hI2 => ?_) (fun rec2 p rk2 hpn hI2 go => ?_)
    · unfold F_X6_pulls_65
      rw [hp.1]
      refine lpE (hrec _ _ _ _ ⟨k + 1, by omega, nI_1 _, fun u => ?_, fun z u hu => ?_, ?_, fun u j hj hu hno => ?_⟩ (by rw [nI_1, nI_clamp (by omega), nI_clamp (by omega)]; omega))
      · rw [b_orI, hmore u, hb u]
        constructor
        · rintro (a | a)
          · exact Or.inl a
          · exact a.1
        · intro a
          by_cases y : pIter (lA pl) (gEd mv) i T k u
          · exact Or.inl y
          · exact Or.inr ⟨a, y⟩
      · have st : ∀ v, pIter (lA pl) (gEd mv) i T (k + 1) v → pIter (lA pl) (gEd mv) i T k v := fun v a => Classical.byContradiction fun y => b_eq0.mp z v ((hmore v).mpr ⟨a, y⟩)
        exact Or.inl (pIter_stab st (k + 2) u hu)
      · by_cases z : (r7 &&& (f ^^^ (-1 : Int32))) = 0
        · exact Or.inr z
        · obtain ⟨u, hu⟩ := b_ne0 z
          have hu := (hmore u).mp hu
          have := pNum_lt (R := pIter (lA pl) (gEd mv) i T (k + 1)) (R' := pIter (lA pl) (gEd mv) i T k) (n := pl.length) (fun v a => Or.inl a) ⟨u, pIter_n hEn hTn _ u hu.1, hu.1, hu.2⟩
          exact Or.inl (by omega)
      · rw [hI2 u]
        have hun := pIter_n hEn hTn _ u hu
        rcases Nat.lt_or_ge k j with y | y
        · have ej : j = k + 1 := by omega
          subst ej
          rw [if_pos ⟨hun, (hmore u).mpr ⟨hu, hno k (Nat.lt_succ_self _)⟩⟩]
        · rw [if_neg (fun a => ((hmore u).mp a.2).2 (pIter_le hu k y))]
          exact hrk u j y hu hno
    · unfold F_X6_pulls_65
      rw [hp.1, nI_clamp (show p < 2 ^ 31 by omega)]
      refine lpS hpn (by omega) (x6_has (by omega) (fun hb2 => ⟨fun y => absurd y (by decide), fun _ => ⟨vp_in_nI (by omega) (by omega), go _ (fun u => ?_)⟩⟩) (fun hb2 => ⟨fun _ => ⟨vp_in_nI (by omega) (by omega), vp_in_nI (by omega) (by omega), go _ (fun u => ?_)⟩, fun y => absurd rfl y⟩))
      · rw [upd_get]
        by_cases z : u = p
        · rw [if_pos z, if_pos ⟨by omega, by rw [z]; exact hb2⟩]
        · rw [if_neg z, hI2 u]
          by_cases y : u < p ∧ bt (r7 &&& (f ^^^ (-1 : Int32))) u = true
          · rw [if_pos y, if_pos ⟨by omega, y.2⟩]
          · have y2 : ¬ (u < p + 1 ∧ bt (r7 &&& (f ^^^ (-1 : Int32))) u = true) := fun a => y ⟨by omega, a.2⟩
            rw [if_neg y, if_neg y2]
      · rw [upd_get]
        by_cases z : u = p
        · have y1 : ¬ (p < p ∧ bt (r7 &&& (f ^^^ (-1 : Int32))) p = true) := fun a => absurd a.1 (Nat.lt_irrefl _)
          have y2 : ¬ (p < p + 1 ∧ bt (r7 &&& (f ^^^ (-1 : Int32))) p = true) := fun a => hb2 a.2
          rw [if_pos z, z, hI2 p, if_neg y1, if_neg y2]
        · rw [if_neg z, hI2 u]
          by_cases y : u < p ∧ bt (r7 &&& (f ^^^ (-1 : Int32))) u = true
          · rw [if_pos y, if_pos ⟨by omega, y.2⟩]
          · have y2 : ¬ (u < p + 1 ∧ bt (r7 &&& (f ^^^ (-1 : Int32))) u = true) := fun a => y ⟨by omega, a.2⟩
            rw [if_neg y, if_neg y2]
