/-! the play: the reference, and what is asked of it -/
theorem plSeen_eq {pl mv : List (Nat × Nat)} {s j : Nat} {sn sn' : Nat → Int32} (h : plSeen pl mv s j sn) (h' : plSeen pl mv s j sn') (u : Nat) (hu : u < pl.length) : sn u = sn' u := by
  by_cases q : ∃ i, i < j ∧ plTr pl mv s i = u
  · obtain ⟨i, a, rfl⟩ := q
    rw [h.1 i a, h'.1 i a]
  · rw [h.2 u hu (fun i hi e => q ⟨i, hi, e⟩), h'.2 u hu (fun i hi e => q ⟨i, hi, e⟩)]
/-- the greatest call of the places seen from move a on -/
def ldMax (pl : List (Nat × Nat)) (sn : Nat → Int32) (a : Int32) : Nat → Int32
  | 0 => -1
  | k + 1 => if sn k < a then ldMax pl sn a k else if ldMax pl sn a k < nI (lB pl k) then nI (lB pl k) else ldMax pl sn a k
theorem ldMax_congr {pl : List (Nat × Nat)} {sn sn' : Nat → Int32} {a : Int32} : ∀ k, (∀ u, u < k → sn u = sn' u) → ldMax pl sn a k = ldMax pl sn' a k
  | 0, _ => rfl
  | k + 1, h => by
    simp only [ldMax]
    rw [h k (Nat.lt_succ_self k), ldMax_congr k (fun u hu => h u (by omega))]
theorem greatestCallSince_ok {pl : List (Nat × Nat)} {places odd a : Int32} {calls sn : Nat → Int32} {post : Int32 → Prop} (hp : RP pl places odd calls) (hn : pl.length ≤ 20) (h : post (ldMax pl sn a pl.length)) : wp_X5_greatestCallSince a places sn calls post := by
  obtain ⟨rfl, -, hp⟩ := hp
  unfold wp_X5_greatestCallSince
  refine up2 pl.length (by omega) (fun k z => z = ldMax pl sn a k) 0 _ (Nat.zero_le _) rfl (fun rec z hz => ?_) (fun rec k z hk hz go => ?_)
  · unfold F_X5_greatestCallSince_4
    subst hz
    exact lpE h
  · unfold F_X5_greatestCallSince_4
    subst hz
    rw [nI_clamp (show k < 2 ^ 31 by omega), hp k hk]
    refine lpS hk (by omega) ⟨vp_in_nI (by omega) (by omega), fun q => go _ ?_, fun q => ⟨vp_in_nI (by omega) (by omega), go _ ?_⟩⟩
    · simp only [ldMax]
      rw [if_pos q]
    · simp only [ldMax]
      rw [if_neg q]
