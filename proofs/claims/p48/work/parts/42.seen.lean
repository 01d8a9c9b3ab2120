/-! how many places the play has seen -/
theorem pCnt_add1 {f g : Nat → Bool} {x : Nat} : ∀ {n : Nat}, (∀ v, v < n → g v = true → f v = true ∨ v = x) → pCnt g n ≤ pCnt f n + (if x < n then 1 else 0)
  | 0, _ => Nat.zero_le _
  | n + 1, h => by
    have ih := pCnt_add1 (n := n) (fun v hv => h v (by omega))
    have h2 := h n (Nat.lt_succ_self n)
    simp only [pCnt]
    by_cases hg : g n = true
    · rw [if_pos hg]
      rcases h2 hg with q | q
      · rw [if_pos q]
        by_cases hx : x < n
        · have hx2 : x < n + 1 := by omega
          rw [if_pos hx] at ih
          rw [if_pos hx2]; omega
        · rw [if_neg hx] at ih
          split <;> omega
      · subst q
        have hx2 : n < n + 1 := Nat.lt_succ_self n
        rw [if_neg (Nat.lt_irrefl n)] at ih
        rw [if_pos hx2]
        split <;> omega
    · rw [if_neg hg]
      by_cases hx : x < n
      · have hx2 : x < n + 1 := by omega
        rw [if_pos hx] at ih
        rw [if_pos hx2]; omega
      · rw [if_neg hx] at ih
        split <;> omega
theorem image_le {t : Nat → Nat} {n : Nat} : ∀ j, pNum (fun u => ∃ i, i < j ∧ t i = u) n ≤ j
  | 0 => by
    have : pNum (fun u => ∃ i, i < 0 ∧ t i = u) n = 0 := Classical.byContradiction fun z => by
      obtain ⟨k, _, hk⟩ := pCnt_pos.mp (Nat.pos_of_ne_zero z)
      obtain ⟨i, hi, _⟩ := @of_decide_eq_true _ (Classical.propDecidable _) hk
      exact Nat.not_lt_zero i hi
    omega
  | j + 1 => by
    have ih := image_le (t := t) (n := n) j
    have h := pCnt_add1 (f := fun u => @decide (∃ i, i < j ∧ t i = u) (Classical.propDecidable _)) (g := fun u => @decide (∃ i, i < j + 1 ∧ t i = u) (Classical.propDecidable _)) (x := t j) (n := n) (fun v _ hv => by
      obtain ⟨i, a, b⟩ := @of_decide_eq_true _ (Classical.propDecidable _) hv
      rcases Nat.lt_or_ge i j with q | q
      · exact Or.inl (@decide_eq_true _ (Classical.propDecidable _) ⟨i, q, b⟩)
      · have : i = j := by omega
        subst this
        exact Or.inr b.symm)
    have e1 : pNum (fun u => ∃ i, i < j + 1 ∧ t i = u) n = pCnt (fun u => @decide (∃ i, i < j + 1 ∧ t i = u) (Classical.propDecidable _)) n := rfl
    have e2 : pNum (fun u => ∃ i, i < j ∧ t i = u) n = pCnt (fun u => @decide (∃ i, i < j ∧ t i = u) (Classical.propDecidable _)) n := rfl
    rw [e1]
    rw [e2] at ih
    split at h <;> omega
theorem pCnt_ext {f g : Nat → Bool} {n : Nat} (h : ∀ v, v < n → (f v = true ↔ g v = true)) : pCnt f n = pCnt g n := Nat.le_antisymm (pCnt_le fun v hv => (h v hv).mp) (pCnt_le fun v hv => (h v hv).mpr)
theorem seen_count {pl mv : List (Nat × Nat)} (hg : gOk0 pl mv) {s j : Nat} {sn : Nat → Int32} (hs : s < pl.length) (h : plGo pl mv s j) (hsn : plSeen pl mv s j sn) : pCnt (fun u => decide (¬ sn u = -1)) pl.length = j := by
  have hjn := plGo_le hg hs h
  have hn := hg.1
  have e : pCnt (fun u => decide (¬ sn u = -1)) pl.length = pNum (fun u => ∃ i, i < j ∧ plTr pl mv s i = u) pl.length := pCnt_ext (fun v hv => by
    constructor
    · intro a
      have a := of_decide_eq_true a
      exact @decide_eq_true _ (Classical.propDecidable _) (Classical.byContradiction fun q => a (hsn.2 v hv (fun i hi e => q ⟨i, hi, e⟩)))
    · intro a
      obtain ⟨i, hi, b⟩ := @of_decide_eq_true _ (Classical.propDecidable _) a
      refine decide_eq_true ?_
      rw [← b, hsn.1 i hi]
      exact nI_m1 (by omega))
  rw [e]
  exact Nat.le_antisymm (image_le j) (pigeon j (fun i hi => ⟨plTr_lt hg hs i (fun a ha => h a (by omega)), (h i hi).2⟩))
theorem placesSeen_ok {n : Nat} {sn : Nat → Int32} {post : Int32 → Prop} (hn : n ≤ 20) (h : post (nI (pCnt (fun u => decide (¬ sn u = -1)) n))) : wp_X5_placesSeen (nI n) sn post := by
  unfold wp_X5_placesSeen
  refine up2 n (by omega) (fun k z => z = nI (pCnt (fun u => decide (¬ sn u = -1)) k)) 0 _ (Nat.zero_le _) rfl (fun rec z hz => ?_) (fun rec k z hk hz go => ?_)
  · unfold F_X5_placesSeen_4
    subst hz
    exact lpE h
  · unfold F_X5_placesSeen_4
    subst hz
    rw [nI_clamp (show k < 2 ^ 31 by omega)]
    exact lpS hk (by omega) ⟨vp_in_nI (by omega) (by omega), fun q => go _ (pCnt_no (decide_eq_false fun z => z q)), fun q => go _ (pCnt_yes (decide_eq_true q))⟩
