/-! the reference's rows: copies -/
theorem i_row (b k : Nat) : nI b * (176 : Int32) + nI k = nI (b * 176 + k) := by
  rw [show (176 : Int32) = nI 176 from rfl, i_mul, nI_add]
theorem row_restore {s : Nat} {saved now : Nat → Int32} {K : Int32 → (Nat → Int32) → Prop} (hs : s < 2) (h : ∀ v n', (∀ k, k < 176 → n' k = saved (s * 176 + k)) → K v n') : ∃ n, fx2 (F_X6_restore_38 (nI s) saved K) n (0 : Int32) now := by
  refine up2i 176 (by decide) (fun k o => ∀ j, j < k → o j = saved (s * 176 + j)) 0 _ (Nat.zero_le _) (fun j hj => absurd hj (Nat.not_lt_zero _)) (fun rec o hI => ?_) (fun rec k o hk hI go => ?_)
  · unfold F_X6_restore_38
    exact lpE (e := 176) (h _ _ hI)
  · unfold F_X6_restore_38
    rw [i_row, nI_clamp (show k < 2 ^ 31 by omega), nI_clamp (show s * 176 + k < 2 ^ 31 by omega)]
    refine lpS (e := 176) hk (by decide) ⟨vp_in_nI (by omega) (by decide), vp_in_nI (by omega) (by decide), go _ (fun j hj => ?_)⟩
    rw [upd_get]
    by_cases z : j = k
    · rw [if_pos z, z]
    · rw [if_neg z]; exact hI j (by omega)
theorem row_undo {s : Nat} {old now : Nat → Int32} {K : Int32 → (Nat → Int32) → Prop} (hs : s < 10) (h : ∀ v n', (∀ k, k < 176 → n' k = old (s * 176 + k)) → K v n') : ∃ n, fx2 (F_X6_undo_25 (nI s) old K) n (0 : Int32) now := by
  refine up2i 176 (by decide) (fun k o => ∀ j, j < k → o j = old (s * 176 + j)) 0 _ (Nat.zero_le _) (fun j hj => absurd hj (Nat.not_lt_zero _)) (fun rec o hI => ?_) (fun rec k o hk hI go => ?_)
  · unfold F_X6_undo_25
    exact lpE (e := 176) (h _ _ hI)
  · unfold F_X6_undo_25
    rw [i_row, nI_clamp (show k < 2 ^ 31 by omega), nI_clamp (show s * 176 + k < 2 ^ 31 by omega)]
    refine lpS (e := 176) hk (by decide) ⟨vp_in_nI (by omega) (by decide), vp_in_nI (by omega) (by decide), go _ (fun j hj => ?_)⟩
    rw [upd_get]
    by_cases z : j = k
    · rw [if_pos z, z]
    · rw [if_neg z]; exact hI j (by omega)
theorem row_save {s : Nat} {saved now : Nat → Int32} {K : Int32 → (Nat → Int32) → Prop} (hs : s < 2) (h : ∀ v o', (∀ k, k < 176 → o' (s * 176 + k) = now k) → (∀ i, i < s * 176 ∨ s * 176 + 176 ≤ i → o' i = saved i) → K v o') : ∃ n, fx2 (F_X6_save_17 (nI s) now K) n (0 : Int32) saved := by
  refine up2i 176 (by decide) (fun k o => (∀ j, j < k → o (s * 176 + j) = now j) ∧ ∀ i, i < s * 176 ∨ s * 176 + 176 ≤ i → o i = saved i) 0 _ (Nat.zero_le _) ⟨fun j hj => absurd hj (Nat.not_lt_zero _), fun _ _ => rfl⟩ (fun rec o hI => ?_) (fun rec k o hk hI go => ?_)
  · unfold F_X6_save_17
    exact lpE (e := 176) (h _ _ hI.1 hI.2)
  · unfold F_X6_save_17
    rw [i_row, nI_clamp (show k < 2 ^ 31 by omega), nI_clamp (show s * 176 + k < 2 ^ 31 by omega)]
    refine lpS (e := 176) hk (by decide) ⟨vp_in_nI (by omega) (by decide), vp_in_nI (by omega) (by decide), go _ ⟨fun j hj => ?_, fun i hi => ?_⟩⟩
    · rw [upd_get]
      by_cases z : j = k
      · rw [if_pos (by rw [z]), z]
      · rw [if_neg (by omega)]; exact hI.1 j (by omega)
    · rw [pk_un (by omega)]; exact hI.2 i hi
theorem x6_putsAside {aside now : Nat → Int32} {post : (Nat → Int32) → Prop} (h : ∀ o', (∀ k, k < 176 → o' k = now k) → post o') : wp_X6_putsAside aside now post := by
  unfold wp_X6_putsAside
  refine up2i 176 (by decide) (fun k o => ∀ j, j < k → o j = now j) 0 _ (Nat.zero_le _) (fun j hj => absurd hj (Nat.not_lt_zero _)) (fun rec o hI => ?_) (fun rec k o hk hI go => ?_)
  · unfold F_X6_putsAside_2
    exact lpE (e := 176) (h _ hI)
  · unfold F_X6_putsAside_2
    rw [nI_clamp (show k < 2 ^ 31 by omega)]
    refine lpS (e := 176) hk (by decide) ⟨vp_in_nI (by omega) (by decide), vp_in_nI (by omega) (by decide), go _ (fun j hj => ?_)⟩
    rw [upd_get]
    by_cases z : j = k
    · rw [if_pos z, z]
    · rw [if_neg z]; exact hI j (by omega)
theorem x6_putsBack {aside now : Nat → Int32} {post : (Nat → Int32) → Prop} (h : ∀ o', (∀ k, k < 176 → o' k = aside k) → post o') : wp_X6_putsBack aside now post := by
  unfold wp_X6_putsBack
  refine up2i 176 (by decide) (fun k o => ∀ j, j < k → o j = aside j) 0 _ (Nat.zero_le _) (fun j hj => absurd hj (Nat.not_lt_zero _)) (fun rec o hI => ?_) (fun rec k o hk hI go => ?_)
  · unfold F_X6_putsBack_2
    exact lpE (e := 176) (h _ hI)
  · unfold F_X6_putsBack_2
    rw [nI_clamp (show k < 2 ^ 31 by omega)]
    refine lpS (e := 176) hk (by decide) ⟨vp_in_nI (by omega) (by decide), vp_in_nI (by omega) (by decide), go _ (fun j hj => ?_)⟩
    rw [upd_get]
    by_cases z : j = k
    · rw [if_pos z, z]
    · rw [if_neg z]; exact hI j (by omega)
theorem x6_undo {hs : List gm} {many : Int32} {now old : Nat → Int32} {post : Int32 → Int32 → Int32 → (Nat → Int32) → Prop} (hH : RHm hs many old)
    (h0 : hs = [] → post 0 1 many now)
    (h1 : ∀ hs' g n', hs = hs' ++ [g] → RHm hs' (nI hs'.length) old → RM g n' → post (nI hs'.length) 0 (nI hs'.length) n') : wp_X6_undo many now old post := by
  obtain ⟨rfl, hl, hok, hold⟩ := hH
  unfold wp_X6_undo wp_X6_told wp_X6_refuse
  refine ⟨fun q => ?_, fun q => h0 (List.length_eq_zero_iff.mp ((nI_eq (b := 0) (by omega) (by decide)).mp q))⟩
  have hne : hs ≠ [] := fun e => q (by rw [e]; rfl)
  obtain ⟨hs', g, rfl⟩ : ∃ hs' g, hs = hs' ++ [g] := ⟨hs.dropLast, hs.getLast hne, (List.dropLast_concat_getLast hne).symm⟩
  rw [List.length_append, List.length_singleton] at hl
  rw [List.length_append, List.length_singleton, i_sub1]
  have hg : gOk g := hok g (List.mem_append.mpr (Or.inr (List.mem_singleton.mpr rfl)))
  refine row_undo (by omega) (fun v n' hn' => h1 hs' g n' rfl ⟨rfl, by omega, fun q hq => hok q (List.mem_append.mpr (Or.inl hq)), fun j y hy => hold j y ?_⟩ ?_)
  · have hj : j < hs'.length := by
      rcases Nat.lt_or_ge j hs'.length with z | z
      · exact z
      · rw [List.getElem?_eq_none z] at hy; cases hy
    rw [List.getElem?_append_left hj]; exact hy
  · exact RM_of (gOk_sz hg) (hold hs'.length g (by rw [List.getElem?_append_right (Nat.le_refl _), Nat.sub_self]; rfl)) hn'
/-- the reference's preferMove: the moves before d go up by one place -/
theorem pref_ok {mv : List (Nat × Nat)} {d : Nat} {now : Nat → Int32} {K : Int32 → (Nat → Int32) → Prop} (hr : RMv mv now) (hm : mv.length ≤ 60) (hd : d < mv.length)
    (h : ∀ v n', RMv (lFront mv d) (upd (upd n' 44 (nI (lA mv d))) 105 (nI (lB mv d))) → (∀ i, i < 44 ∨ 166 ≤ i → n' i = now i) → K v n') : ∃ n, fx2 (F_X6_preferMove_41 K) n (nI d) now := by
  obtain ⟨h1, hr⟩ := hr
  refine fx2_go (fun v w => ∃ k, k ≤ d ∧ v = nI k ∧ (∀ j, j < mv.length → w (44 + j) = nI (if k < j ∧ j ≤ d then lA mv (j - 1) else lA mv j) ∧ w (105 + j) = nI (if k < j ∧ j ≤ d then lB mv (j - 1) else lB mv j)) ∧ w 1 = nI mv.length ∧ ∀ i, i < 44 ∨ 166 ≤ i → w i = now i) (fun v _ => v.toNatClampNeg) ?_ _ _ ⟨d, Nat.le_refl _, rfl, fun j hj => by
    have e : ¬ (d < j ∧ j ≤ d) := by omega
    rw [if_neg e, if_neg e]; exact hr j hj, h1, fun _ _ => rfl⟩
  rintro rec v w ⟨k, hk, rfl, hI, hw1, hw⟩ hrec
  unfold F_X6_preferMove_41
  refine ⟨fun q => ?_, fun q => ?_⟩
  · have e : k = 0 := by
      have := (nI_leI (a := k) (b := 0) (by omega) (by omega)).mp q
      omega
    subst e
    refine h _ _ ⟨by rw [lFront_len hd, pk_un (by decide), pk_un (by decide)]; exact hw1, fun j hj => ?_⟩ hw
    rw [lFront_len hd] at hj
    have z2 : ¬ 44 + j = 105 := by omega
    have z3 : ¬ 105 + j = 44 := by omega
    rw [lA_front.1, lA_front.2]
    simp only [upd_get, if_neg z2, if_neg z3]
    by_cases z : j = 0
    · subst z
      exact ⟨rfl, rfl⟩
    · have y1 : ¬ 44 + j = 44 := by omega
      have y2 : ¬ 105 + j = 105 := by omega
      rw [if_neg y1, if_neg y2, if_neg z, if_neg z]
      obtain ⟨a, b⟩ := hI j hj
      rw [a, b]
      by_cases y : j ≤ d
      · have y2 : 0 < j ∧ j ≤ d := by omega
        rw [if_pos y2, if_pos y2, if_pos y, if_pos y]; exact ⟨rfl, rfl⟩
      · have y2 : ¬ (0 < j ∧ j ≤ d) := by omega
        rw [if_neg y2, if_neg y2, if_neg y, if_neg y]; exact ⟨rfl, rfl⟩
  · obtain ⟨k, rfl⟩ : ∃ j, k = j + 1 := ⟨k - 1, by
      have : k ≠ 0 := fun e => q (by rw [e]; exact Int32.le_refl _)
      omega⟩
    have s1 : nI (44 + (k + 1)) - (1 : Int32) = nI (44 + k) := i_sub1
    have s2 : nI (105 + (k + 1)) - (1 : Int32) = nI (105 + k) := i_sub1
    rw [ix44, ix105, s1, s2, i_addm, nI_clamp (show 44 + (k + 1) < 2 ^ 31 by omega), nI_clamp (show 44 + k < 2 ^ 31 by omega), nI_clamp (show 105 + (k + 1) < 2 ^ 31 by omega), nI_clamp (show 105 + k < 2 ^ 31 by omega)]
    obtain ⟨a, b⟩ := hI k (by omega)
    have e0 : ¬ (k + 1 < k ∧ k ≤ d) := by omega
    rw [if_neg e0] at a b
    have z1 : ¬ 105 + k = 44 + (k + 1) := by omega
    have e2 : upd w (44 + (k + 1)) (w (44 + k)) (105 + k) = nI (lB mv k) := by rw [upd_get, if_neg z1]; exact b
    rw [e2, a]
    refine ⟨vp_in_nI (by omega) (by omega), vp_in_nI (by omega) (by omega), vp_in_nI (by omega) (by omega), vp_in_nI (by omega) (by omega), hrec _ _ ⟨k, by omega, rfl, fun j hj => ?_, ?_, fun i x => ?_⟩ (by rw [nI_clamp (by omega), nI_clamp (by omega)]; omega)⟩
    · have z2 : ¬ 44 + j = 105 + (k + 1) := by omega
      have z3 : ¬ 105 + j = 44 + (k + 1) := by omega
      simp only [upd_get, if_neg z2, if_neg z3]
      obtain ⟨x, y⟩ := hI j hj
      by_cases z : j = k + 1
      · subst z
        have e3 : k < k + 1 ∧ k + 1 ≤ d := by omega
        rw [if_pos rfl, if_pos rfl, if_pos e3, if_pos e3]
        exact ⟨rfl, rfl⟩
      · have q1 : ¬ 44 + j = 44 + (k + 1) := by omega
        have q2 : ¬ 105 + j = 105 + (k + 1) := by omega
        rw [if_neg q1, if_neg q2, x, y]
        by_cases u : k + 1 < j ∧ j ≤ d
        · have u2 : k < j ∧ j ≤ d := by omega
          rw [if_pos u, if_pos u, if_pos u2, if_pos u2]; exact ⟨rfl, rfl⟩
        · have u2 : ¬ (k < j ∧ j ≤ d) := by omega
          rw [if_neg u, if_neg u, if_neg u2, if_neg u2]; exact ⟨rfl, rfl⟩
    · rw [pk_un (by omega), pk_un (by omega)]; exact hw1
    · rw [pk_un (by omega), pk_un (by omega)]; exact hw i x
