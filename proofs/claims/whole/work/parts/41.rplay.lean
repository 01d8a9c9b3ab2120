/-! the play: the reference, and what is asked of it -/
theorem plSeen_eq {pl mv : List (Nat × Nat)} {s j : Nat} {sn sn' : Nat → Int32} (h : plSeen pl mv s j sn) (h' : plSeen pl mv s j sn') (u : Nat) (hu : u < pl.length) : sn u = sn' u := by
  by_cases q : ∃ i, i < j ∧ plTr pl mv s i = u
  · obtain ⟨i, a, rfl⟩ := q
    rw [h.1 i a, h'.1 i a]
  · rw [h.2 u hu (fun i hi e => q ⟨i, hi, e⟩), h'.2 u hu (fun i hi e => q ⟨i, hi, e⟩)]
/-- the greatest call of the places seen from move a on -/
def ldMax (pl : List (Nat × Nat)) (sn : Nat → Int32) (a : Int32) : Nat → Int32
  | 0 => -1
  | k + 1 => if sn k < a then ldMax pl sn a k else if ldMax pl sn a k < nI (lB pl k) then nI (lB pl k) else ldMax pl sn a k
theorem ldMax_congr {pl : List (Nat × Nat)} {sn sn' : Nat → Int32} {a : Int32} : ∀ k, (∀ u, u < k → sn u = sn' u) → ldMax pl sn a k = ldMax pl sn' a k
  | 0, _ => rfl
  | k + 1, h => by
    simp only [ldMax]
    rw [h k (Nat.lt_succ_self k), ldMax_congr k (fun u hu => h u (by omega))]
theorem greatestCallSince_ok {pl : List (Nat × Nat)} {places odd a : Int32} {calls sn : Nat → Int32} {post : Int32 → Prop} (hp : RP pl places odd calls) (hn : pl.length ≤ 20) (h : post (ldMax pl sn a pl.length)) : wp_X5_greatestCallSince a places sn calls post := by
  obtain ⟨rfl, -, hp⟩ := hp
  unfold wp_X5_greatestCallSince
  refine up2 pl.length (by omega) (fun k z => z = ldMax pl sn a k) 0 _ (Nat.zero_le _) rfl (fun rec z hz => ?_) (fun rec k z hk hz go => ?_)
  · unfold F_X5_greatestCallSince_4
    subst hz
    exact lpE h
  · unfold F_X5_greatestCallSince_4
    subst hz
    rw [nI_clamp (show k < 2 ^ 31 by omega), hp k hk]
    refine lpS hk (by omega) ⟨vp_in_nI (by omega) (by omega), fun q => go _ ?_, fun q => ⟨vp_in_nI (by omega) (by omega), go _ ?_⟩⟩
    · simp only [ldMax]
      rw [if_pos q]
    · simp only [ldMax]
      rw [if_neg q]
theorem x6_plays {pl mv : List (Nat × Nat)} {s : Nat} {came now planned : Nat → Int32} {post : Int32 → Int32 → Int32 → (Nat → Int32) → Prop} (hg : gOk0 pl mv) (hp : RMp pl now) (hv : RMv mv now) (hc : ∀ u, u < pl.length → planned u = plV pl mv u) (hs : s < pl.length)
    (h0 : ∀ j sn, plEnd pl mv s j → j ≤ pl.length → plSeen pl mv s j sn → plV pl mv (plTr pl mv s j) = -1 → post (nI j) 0 (-1) sn)
    (h1 : ∀ j sn, plEnd pl mv s j → j ≤ pl.length → plSeen pl mv s j sn → ¬ plV pl mv (plTr pl mv s j) = -1 → post (sn (plTr pl mv s j)) (nI j - sn (plTr pl mv s j)) (ldMax pl sn (sn (plTr pl mv s j)) pl.length) sn) : wp_X6_plays (nI s) came now planned post := by
  have hn := hg.1
  have hm := hg.2.1
  unfold wp_X6_plays
  refine up2i pl.length (by omega) (fun k c => ∀ j, j < k → c j = -1) 0 _ (Nat.zero_le _) (fun j hj => absurd hj (Nat.not_lt_zero _)) (fun rec c hI => ?_) (fun rec k c hk hI go => ?_)
  rotate_left
  · unfold F_X6_plays_2
    rw [hp.1, nI_clamp (show k < 2 ^ 31 by omega)]
    refine lpS hk (by omega) ⟨vp_in_nI (by omega) (by omega), go _ (fun j hj => ?_)⟩
    rw [upd_get]
    split
    · rfl
    · exact hI j (by omega)
  unfold F_X6_plays_2
  rw [hp.1]
  refine lpE ?_
  refine fx3_go (fun a v sn => ∃ j, j ≤ pl.length ∧ v = nI j ∧ a = nI (plTr pl mv s j) ∧ plGo pl mv s j ∧ plSeen pl mv s j sn) (fun _ v _ => 21 - v.toNatClampNeg) ?_ _ _ _ ⟨0, Nat.zero_le _, rfl, rfl, fun i hi => absurd hi (Nat.not_lt_zero _), fun i hi => absurd hi (Nat.not_lt_zero _), fun u hu _ => hI u hu⟩
  rintro rec a v sn ⟨j, hj, rfl, rfl, hgo, hsn⟩ hrec
  have hlt := plTr_lt hg hs j hgo
  unfold F_X6_plays_29
  rw [nI_clamp (show plTr pl mv s j < 2 ^ 31 by omega), hc _ hlt]
  have hin : vp_in (nI (plTr pl mv s j)) 20 := vp_in_nI (by omega) (by omega)
  have fin : plEnd pl mv s j → (vp_in (nI (plTr pl mv s j)) 20 ∧ ((¬ plV pl mv (plTr pl mv s j) = (-1 : Int32) → (vp_in (nI (plTr pl mv s j)) 20 ∧ (vp_in (nI (plTr pl mv s j)) 20 ∧ (∃ n, fx2 (F_X6_plays_133 (sn (plTr pl mv s j)) sn now (fun v4_6 t_loudest_7 => (post (sn (plTr pl mv s j)) ((nI j - (sn (plTr pl mv s j)))) t_loudest_7 sn))) n (0 : Int32) (-1 : Int32))))) ∧ (plV pl mv (plTr pl mv s j) = (-1 : Int32) → (post (nI j) (0 : Int32) (-1 : Int32) sn)))) := fun he => by
    refine ⟨hin, fun z => ⟨hin, hin, ?_⟩, fun z => h0 j sn he hj hsn z⟩
    refine up2i pl.length (by omega) (fun k l => l = ldMax pl sn (sn (plTr pl mv s j)) k) 0 _ (Nat.zero_le _) rfl (fun rec l hl => ?_) (fun rec k l hk hl go => ?_)
    · unfold F_X6_plays_133
      rw [hp.1]
      subst hl
      exact lpE (h1 j sn he hj hsn z)
    · unfold F_X6_plays_133
      subst hl
      rw [hp.1, ix24, nI_clamp (show k < 2 ^ 31 by omega), nI_clamp (show 24 + k < 2 ^ 31 by omega), (hp.2 k hk).2]
      refine lpS hk (by omega) ⟨vp_in_nI (by omega) (by omega), fun q => go _ ?_, fun q => ⟨vp_in_nI (by omega) (by omega), fun q2 => go _ ?_, fun q2 => ⟨vp_in_nI (by omega) (by omega), go _ ?_⟩⟩⟩
      · simp only [ldMax]
        rw [if_pos q]
      · simp only [ldMax]
        rw [if_neg q, if_neg (Int32.not_lt.mpr q2)]
      · simp only [ldMax]
        rw [if_neg q, if_pos (Int32.not_le.mp q2)]
  refine ⟨hin, fun z => ?_, fun z => ⟨hin, fun y => ?_, fun y => ?_⟩⟩
  · dsimp only
    rw [nI_clamp (show plTr pl mv s j < 2 ^ 31 by omega), hc _ hlt]
    exact fin (plGo_stop hg hs hgo hsn z)
  · dsimp only
    rw [nI_clamp (show plTr pl mv s j < 2 ^ 31 by omega), hc _ hlt]
    exact fin ⟨hgo, Or.inl y⟩
  rcases plV_cases hg (plTr pl mv s j) with x | ⟨k, x1, x2, x3⟩
  · exact absurd x y
  · obtain ⟨g1, g2⟩ := plGo_step hg hs hgo hsn z y
    have hj1 := plGo_le hg hs g1
    have e : plTr pl mv s (j + 1) = lB mv k := by
      show plNx pl mv (plTr pl mv s j) = _
      unfold plNx
      rw [x3, nI_clamp (by omega)]
    rw [x3, ix105, nI_clamp (show 105 + k < 2 ^ 31 by omega), (hv.2 k x1).2]
    exact ⟨hin, hin, vp_in_nI (by omega) (by decide), hrec _ _ _ ⟨j + 1, hj1, nI_1 j, by rw [e], g1, g2⟩ (by rw [nI_1, nI_clamp (by omega), nI_clamp (by omega)]; omega)⟩
