/-! the class's Game: the other changes -/
theorem i_subp {a : Nat} (h : 0 < a) : nI a - 1 = nI (a - 1) := by
  obtain ⟨k, rfl⟩ : ∃ k, a = k + 1 := ⟨a - 1, by omega⟩
  exact i_sub1
theorem i_addm {k : Nat} : nI (k + 1) + (-1 : Int32) = nI k := by
  have h := i_sub1 (k := k)
  rw [Int32.sub_eq_add_neg] at h
  exact h
theorem lTake {l : List (Nat × Nat)} {k : Nat} (h : k < l.length) : l.take (k + 1) = l.take k ++ [l.getD k (0, 0)] := by
  rw [List.take_add_one, List.getD_eq_getElem?_getD, List.getElem?_eq_getElem h]
  rfl
/-- the moves without those of a place -/
def keepP (p : Nat) (q : Nat × Nat) : Bool := !(decide (q.1 = p)) && !(decide (q.2 = p))
theorem lFil {l : List (Nat × Nat)} {p k : Nat} (h : k < l.length) : (l.take (k + 1)).filter (keepP p) = (l.take k).filter (keepP p) ++ (if keepP p (l.getD k (0, 0)) = true then [l.getD k (0, 0)] else []) := by
  rw [lTake h, List.filter_append, List.filter_cons]
  split <;> rfl
/-- a place's number when p has gone -/
def dcN (p x : Nat) : Nat := if p < x then x - 1 else x
def dcP (p : Nat) (q : Nat × Nat) : Nat × Nat := (dcN p q.1, dcN p q.2)
theorem lMap {l : List (Nat × Nat)} {p k : Nat} (h : k < l.length) : lA (l.map (dcP p)) k = dcN p (lA l k) ∧ lB (l.map (dcP p)) k = dcN p (lB l k) := by
  unfold lA lB
  rw [List.getD_eq_getElem?_getD, List.getD_eq_getElem?_getD, List.getElem?_map, List.getElem?_eq_getElem h]
  exact ⟨rfl, rfl⟩
/-- a move brought to the front -/
def lFront (l : List (Nat × Nat)) (d : Nat) : List (Nat × Nat) := l.getD d (0, 0) :: l.eraseIdx d
theorem lA_front {l : List (Nat × Nat)} {d k : Nat} : lA (lFront l d) k = (if k = 0 then lA l d else if k ≤ d then lA l (k - 1) else lA l k) ∧ lB (lFront l d) k = (if k = 0 then lB l d else if k ≤ d then lB l (k - 1) else lB l k) := by
  cases k with
  | zero => exact ⟨rfl, rfl⟩
  | succ k =>
    have e := lA_erase (l := l) (d := d) (k := k)
    have z : ¬ k + 1 = 0 := by omega
    rw [if_neg z, if_neg z]
    show lA (l.eraseIdx d) k = _ ∧ lB (l.eraseIdx d) k = _
    rw [e.1, e.2]
    by_cases q : k < d
    · have q2 : k + 1 ≤ d := by omega
      rw [if_pos q, if_pos q, if_pos q2, if_pos q2]
      exact ⟨rfl, rfl⟩
    · have q2 : ¬ k + 1 ≤ d := by omega
      rw [if_neg q, if_neg q, if_neg q2, if_neg q2]
      exact ⟨rfl, rfl⟩
theorem lFront_len {l : List (Nat × Nat)} {d : Nat} (h : d < l.length) : (lFront l d).length = l.length := by
  unfold lFront
  rw [List.length_cons, List.length_eraseIdx, if_pos h]
  omega
theorem x1_bringToFront {mv : List (Nat × Nat)} {d : Nat} {moves : Int32} {fr to : Nat → Int32} {post : (Nat → Int32) → (Nat → Int32) → Prop} (hr : RV mv moves fr to) (hm : mv.length ≤ 60) (hd : d < mv.length)
    (h : ∀ f' t', RV (lFront mv d) moves f' t' → post f' t') : wp_X1_bringToFront (nI d) fr to post := by
  obtain ⟨rfl, hr⟩ := hr
  unfold wp_X1_bringToFront
  refine ⟨vp_in_nI (by omega) (by omega), vp_in_nI (by omega) (by omega), ?_⟩
  refine fx3_go (fun v f t => ∃ k, k ≤ d ∧ v = nI k ∧ ∀ j, j < mv.length → f j = nI (if k < j ∧ j ≤ d then lA mv (j - 1) else lA mv j) ∧ t j = nI (if k < j ∧ j ≤ d then lB mv (j - 1) else lB mv j)) (fun v _ _ => v.toNatClampNeg) ?_ _ _ _ ⟨d, Nat.le_refl _, rfl, fun j hj => by
    have e : ¬ (d < j ∧ j ≤ d) := by omega
    rw [if_neg e, if_neg e]; exact hr j hj⟩
  rintro rec v f t ⟨k, hk, rfl, hI⟩ hrec
  unfold F_X1_bringToFront_17
  have hcl : (nI k).toNatClampNeg = k := nI_clamp (by omega)
  refine ⟨fun q => ?_, fun q => ?_⟩
  · have e : k = 0 := by
      have := (nI_leI (a := k) (b := 0) (by omega) (by omega)).mp q
      omega
    subst e
    refine h _ _ ⟨by rw [lFront_len hd], fun j hj => ?_⟩
    rw [lFront_len hd] at hj
    rw [nI_clamp (show d < 2 ^ 31 by omega), upd_get, upd_get, lA_front.1, lA_front.2, (hr d hd).1, (hr d hd).2]
    by_cases z : j = 0
    · rw [if_pos z, if_pos z, if_pos z, if_pos z]; exact ⟨rfl, rfl⟩
    · rw [if_neg z, if_neg z, if_neg z, if_neg z]
      obtain ⟨a, b⟩ := hI j hj
      rw [a, b]
      by_cases y : j ≤ d
      · have y2 : 0 < j ∧ j ≤ d := by omega
        rw [if_pos y2, if_pos y2, if_pos y, if_pos y]; exact ⟨rfl, rfl⟩
      · have y2 : ¬ (0 < j ∧ j ≤ d) := by omega
        rw [if_neg y2, if_neg y2, if_neg y, if_neg y]; exact ⟨rfl, rfl⟩
  · obtain ⟨k, rfl⟩ : ∃ j, k = j + 1 := ⟨k - 1, by
      have : k ≠ 0 := fun e => q (by rw [e]; exact Int32.le_refl _)
      omega⟩
    rw [i_sub1, i_addm, nI_clamp (show k + 1 < 2 ^ 31 by omega), nI_clamp (show k < 2 ^ 31 by omega)]
    refine ⟨vp_in_nI (by omega) (by omega), vp_in_nI (by omega) (by omega), vp_in_nI (by omega) (by omega), vp_in_nI (by omega) (by omega), hrec _ _ _ ⟨k, by omega, rfl, fun j hj => ?_⟩ (by rw [nI_clamp (by omega), nI_clamp (by omega)]; omega)⟩
    rw [upd_get, upd_get]
    by_cases z : j = k + 1
    · subst z
      obtain ⟨a, b⟩ := hI k (by omega)
      have e : ¬ (k + 1 < k ∧ k ≤ d) := by omega
      have e2 : k < k + 1 ∧ k + 1 ≤ d := by omega
      rw [if_pos rfl, if_pos rfl, a, b, if_neg e, if_neg e, if_pos e2, if_pos e2]
      exact ⟨rfl, rfl⟩
    · rw [if_neg z, if_neg z]
      obtain ⟨a, b⟩ := hI j hj
      rw [a, b]
      by_cases y : k + 1 < j ∧ j ≤ d
      · have y2 : k < j ∧ j ≤ d := by omega
        rw [if_pos y, if_pos y, if_pos y2, if_pos y2]; exact ⟨rfl, rfl⟩
      · have y2 : ¬ (k < j ∧ j ≤ d) := by omega
        rw [if_neg y, if_neg y, if_neg y2, if_neg y2]; exact ⟨rfl, rfl⟩
/-- how often the calls were heard when the token is laid at p -/
def hdLay (pl : List (Nat × Nat)) (p : Nat) : Nat → Int32 := fun c => if c = lB pl p then 1 else 0
def hdStep (pl : List (Nat × Nat)) (p : Nat) (hd : Nat → Int32) : Nat → Int32 := fun c => if c = lB pl p then hd c + 1 else hd c
theorem x1_layAt {pl : List (Nat × Nat)} {p : Nat} {places odd : Int32} {calls heard : Nat → Int32} {post : Int32 → Int32 → (Nat → Int32) → Prop} (hp : RP pl places odd calls) (hn : pl.length ≤ 20) (hc : lB pl p < 10) (hd : p < pl.length)
    (h : ∀ t m h', RT p 0 (hdLay pl p) t m h' → post t m h') : wp_X1_layAt (nI p) calls heard post := by
  unfold wp_X1_layAt
  refine up2i 10 (by decide) (fun k c => ∀ j, j < k → c j = 0) 0 _ (Nat.zero_le _) (fun j hj => absurd hj (Nat.not_lt_zero _)) (fun rec c hI => ?_) (fun rec k c hk hI go => ?_)
  · unfold F_X1_layAt_12
    rw [nI_clamp (show p < 2 ^ 31 by omega), hp.2.2 p hd, nI_clamp (show lB pl p < 2 ^ 31 by omega)]
    refine lpE (e := 10) ⟨vp_in_nI (by omega) (by omega), vp_in_nI (by omega) (by omega), h _ _ _ ⟨rfl, rfl, fun c hc => ?_⟩⟩
    rw [upd_get]
    unfold hdLay
    by_cases z : c = lB pl p
    · rw [if_pos z, if_pos z]
    · rw [if_neg z, if_neg z]; exact hI c hc
  · unfold F_X1_layAt_12
    refine lpS (e := 10) hk (by decide) ⟨vp_in_nI hk (by decide), go _ (fun j hj => ?_)⟩
    rw [nI_clamp (by omega), upd_get]
    split
    · rfl
    · exact hI j (by omega)
theorem x1_step {pl mv : List (Nat × Nat)} {k tk : Nat} {md token made moves places odd : Int32} {hd : Nat → Int32} {calls fr to heard : Nat → Int32} {post : Int32 → Int32 → (Nat → Int32) → Prop} (hp : RP pl places odd calls) (hr : RV mv moves fr to) (ht : RT tk md hd token made heard) (hg : gOk0 pl mv) (hk : k < mv.length)
    (h : ∀ t m h', RT (lB mv k) (md + 1) (hdStep pl (lB mv k) hd) t m h' → post t m h') : wp_X1_step (nI k) made calls heard to post := by
  have hn := hg.1
  have hm := hg.2.1
  obtain ⟨g1, g2⟩ := gOk0_mv hg hk
  have hc := (gOk0_ow hg (lB mv k)).2
  unfold wp_X1_step
  rw [nI_clamp (show k < 2 ^ 31 by omega), (hr.2 k hk).2, nI_clamp (show lB mv k < 2 ^ 31 by omega), hp.2.2 _ g2, nI_clamp (show lB pl (lB mv k) < 2 ^ 31 by omega)]
  refine ⟨vp_in_nI (by omega) (by omega), vp_in_nI (by omega) (by omega), vp_in_nI (by omega) (by omega), vp_in_nI (by omega) (by omega), h _ _ _ ⟨rfl, by rw [ht.2.1], fun c hc2 => ?_⟩⟩
  rw [upd_get, ht.2.2 _ hc]
  unfold hdStep
  by_cases z : c = lB pl (lB mv k)
  · rw [if_pos z, if_pos z, z]
  · rw [if_neg z, if_neg z]; exact ht.2.2 c hc2
theorem x1_copy {g : gm} {places odd moves token made : Int32} {calls fr heard to calls0 fr0 heard0 to0 : Nat → Int32} {post : Int32 → Int32 → Int32 → Int32 → Int32 → (Nat → Int32) → (Nat → Int32) → (Nat → Int32) → (Nat → Int32) → Prop} (hg : g.1.length ≤ 20 ∧ g.2.1.length ≤ 60) (hr : RG g places odd moves token made calls fr heard to)
    (h : ∀ p' o' m' t' d' c' f' h' e', RG g p' o' m' t' d' c' f' h' e' → post p' o' m' t' d' c' f' h' e') : wp_X1_copy places odd moves token made calls fr heard to calls0 fr0 heard0 to0 post := by
  unfold wp_X1_copy
  obtain ⟨⟨a1, a2, a3⟩, ⟨b1, b2⟩, c1, c2, c3⟩ := hr
  refine h _ _ _ _ _ _ _ _ _ ⟨⟨a1, a2, fun u hu => ?_⟩, ⟨b1, fun k hk => ⟨?_, ?_⟩⟩, c1, c2, fun c hc => ?_⟩
  · rw [sb_cpy0 (by omega)]; exact a3 u hu
  · rw [sb_cpy0 (by omega)]; exact (b2 k hk).1
  · rw [sb_cpy0 (by omega)]; exact (b2 k hk).2
  · rw [sb_cpy0 hc]; exact c3 c hc
