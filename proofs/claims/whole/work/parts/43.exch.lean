/-! exchange: the reference's loop -/
def exP (q : Nat × Nat) : Nat × Nat := (1 - q.1, q.2 + 1)
theorem lMapE {l : List (Nat × Nat)} {k : Nat} (h : k < l.length) : lA (l.map exP) k = 1 - lA l k ∧ lB (l.map exP) k = lB l k + 1 := by
  unfold lA lB
  rw [List.getD_eq_getElem?_getD, List.getD_eq_getElem?_getD, List.getElem?_map, List.getElem?_eq_getElem h]
  exact ⟨rfl, rfl⟩
theorem exch_ok {pl : List (Nat × Nat)} {now : Nat → Int32} {K : Int32 → (Nat → Int32) → Prop} (hp : RMp pl now) (hn : pl.length ≤ 20) (ho : ∀ u, lA pl u < 2)
    (h : ∀ v n', RMp (pl.map exP) n' → (∀ i, i < 4 ∨ 44 ≤ i → n' i = now i) → K v n') : ∃ n, fx2 (F_X6_exchange_21 K) n (0 : Int32) now := by
  obtain ⟨h0, hp⟩ := hp
  refine up2i pl.length (by omega) (fun k w => (∀ j, j < pl.length → w (4 + j) = nI (if j < k then 1 - lA pl j else lA pl j) ∧ w (24 + j) = nI (if j < k then lB pl j + 1 else lB pl j)) ∧ ∀ i, i < 4 ∨ 44 ≤ i → w i = now i) 0 _ (Nat.zero_le _)
    ⟨fun j hj => by rw [if_neg (Nat.not_lt_zero _), if_neg (Nat.not_lt_zero _)]; exact hp j hj, fun _ _ => rfl⟩ (fun rec w ⟨hI, hw⟩ => ?_) (fun rec k w hk ⟨hI, hw⟩ go => ?_)
  · unfold F_X6_exchange_21
    rw [hw 0 (by omega), h0]
    refine lpE (h _ _ ⟨by rw [hw 0 (by omega), h0, List.length_map], fun j hj => ?_⟩ hw)
    rw [List.length_map] at hj
    obtain ⟨a, b⟩ := hI j hj
    rw [a, b, if_pos hj, if_pos hj, (lMapE hj).1, (lMapE hj).2]
    exact ⟨rfl, rfl⟩
  · unfold F_X6_exchange_21
    obtain ⟨r1, r2⟩ := hI k hk
    rw [if_neg (Nat.lt_irrefl _)] at r1 r2
    have ho2 := ho k
    have z1 : ¬ 24 + k = 4 + k := by omega
    have e1 : (1 : Int32) - nI (lA pl k) = nI (1 - lA pl k) := i_subn (a := 1) (by omega)
    have e2 : ∀ X, upd w (4 + k) X (24 + k) = nI (lB pl k) := fun X => by rw [upd_get, if_neg z1]; exact r2
    rw [hw 0 (by omega), h0, ix4, ix24, nI_clamp (show 4 + k < 2 ^ 31 by omega), nI_clamp (show 24 + k < 2 ^ 31 by omega), e2, r1, e1, nI_1 (lB pl k)]
    refine lpS hk (by omega) ⟨vp_in_nI (by omega) (by omega), vp_in_nI (by omega) (by omega), vp_in_nI (by omega) (by omega), vp_in_nI (by omega) (by omega), go _ ⟨fun j hj => ?_, fun i x => ?_⟩⟩
    · have z2 : ¬ 4 + j = 24 + k := by omega
      have z3 : ¬ 24 + j = 4 + k := by omega
      simp only [upd_get, if_neg z2, if_neg z3]
      obtain ⟨x, y⟩ := hI j hj
      by_cases q : j = k
      · subst q
        rw [if_pos rfl, if_pos rfl, if_pos (Nat.lt_succ_self _), if_pos (Nat.lt_succ_self _)]
        exact ⟨rfl, rfl⟩
      · have q1 : ¬ 4 + j = 4 + k := by omega
        have q2 : ¬ 24 + j = 24 + k := by omega
        rw [if_neg q1, if_neg q2, x, y]
        by_cases u : j < k
        · have u2 : j < k + 1 := by omega
          rw [if_pos u, if_pos u, if_pos u2, if_pos u2]; exact ⟨rfl, rfl⟩
        · have u2 : ¬ j < k + 1 := by omega
          rw [if_neg u, if_neg u, if_neg u2, if_neg u2]; exact ⟨rfl, rfl⟩
    · rw [pk_un (by omega), pk_un (by omega)]
      exact hw i x
