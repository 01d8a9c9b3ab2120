/-! the reference's removePlace -/
theorem lA_left {l l2 : List (Nat × Nat)} {k : Nat} (h : k < l.length) : lA (l ++ l2) k = lA l k ∧ lB (l ++ l2) k = lB l k := by
  unfold lA lB
  rw [List.getD_eq_getElem?_getD, List.getElem?_append_left h, List.getD_eq_getElem?_getD]
  exact ⟨rfl, rfl⟩
theorem lA_take {l : List (Nat × Nat)} {j k : Nat} (h : k < j) : lA (l.take j) k = lA l k ∧ lB (l.take j) k = lB l k := by
  unfold lA lB
  rw [List.getD_eq_getElem?_getD, List.getElem?_take_of_lt h, List.getD_eq_getElem?_getD]
  exact ⟨rfl, rfl⟩
theorem lDrop {l : List (Nat × Nat)} {j : Nat} (h : j < l.length) : l.drop j = l.getD j (0, 0) :: l.drop (j + 1) := by
  rw [List.drop_eq_getElem_cons h, List.getD_eq_getElem?_getD, List.getElem?_eq_getElem h]
  rfl
/-- the moves when those from place k on have been looked at, from the last -/
def lRem (mv : List (Nat × Nat)) (p k : Nat) : List (Nat × Nat) := mv.take k ++ (mv.drop k).filter (keepP p)
theorem lRem_len {mv : List (Nat × Nat)} {p k : Nat} (h : k ≤ mv.length) : k ≤ (lRem mv p k).length ∧ (lRem mv p k).length ≤ mv.length := by
  unfold lRem
  have h1 := List.length_filter_le (keepP p) (mv.drop k)
  rw [List.length_append, List.length_take]
  rw [List.length_drop] at h1
  omega
theorem lRem_at {mv : List (Nat × Nat)} {p j : Nat} (h : j < mv.length) : lA (lRem mv p (j + 1)) j = lA mv j ∧ lB (lRem mv p (j + 1)) j = lB mv j := by
  unfold lRem
  have hl : j < (mv.take (j + 1)).length := by rw [List.length_take]; omega
  rw [(lA_left hl).1, (lA_left hl).2, (lA_take (Nat.lt_succ_self j)).1, (lA_take (Nat.lt_succ_self j)).2]
  exact ⟨rfl, rfl⟩
theorem lRem_keep {mv : List (Nat × Nat)} {p j : Nat} (h : j < mv.length) (hk : keepP p (mv.getD j (0, 0)) = true) : lRem mv p j = lRem mv p (j + 1) := by
  unfold lRem
  rw [lDrop h, List.filter_cons, if_pos hk, lTake h, List.append_assoc]
  rfl
theorem lRem_drop {mv : List (Nat × Nat)} {p j : Nat} (h : j < mv.length) (hk : ¬ keepP p (mv.getD j (0, 0)) = true) : lRem mv p j = (lRem mv p (j + 1)).eraseIdx j := by
  unfold lRem
  have hl : (mv.take j).length = j := by rw [List.length_take]; omega
  rw [lDrop h, List.filter_cons, if_neg hk, lTake h, List.append_assoc, List.eraseIdx_append_of_length_le (by omega), hl, Nat.sub_self]
  rfl
theorem rem_moves {mv : List (Nat × Nat)} {p : Nat} {now : Nat → Int32} {K : Int32 → (Nat → Int32) → Prop} (hr : RMv mv now) (hm : mv.length ≤ 60) (hv : ∀ k, k < mv.length → lA mv k < 1000 ∧ lB mv k < 1000) (hp : p < 1000)
    (h : ∀ v n', RMv (mv.filter (keepP p)) n' → (∀ i, i ≠ 1 → i < 44 ∨ 166 ≤ i → n' i = now i) → K v n') : ∃ n, fx2 (F_X6_removePlace_50 (nI p) K) n (nI mv.length - 1) now := by
  refine fx2_go (fun v w => ∃ k, k ≤ mv.length ∧ v = nI k - 1 ∧ RMv (lRem mv p k) w ∧ ∀ i, i ≠ 1 → i < 44 ∨ 166 ≤ i → w i = now i) (fun v _ => (v + 1).toNatClampNeg) ?_ _ _ ⟨mv.length, Nat.le_refl _, rfl, by unfold lRem; rw [List.take_length, List.drop_length, List.filter_nil, List.append_nil]; exact hr, fun _ _ _ => rfl⟩
  rintro rec v w ⟨k, hk, rfl, hw, hfr⟩ hrec
  unfold F_X6_removePlace_50
  rcases Nat.eq_zero_or_pos k with q | q
  · subst q
    refine ⟨fun _ => h _ _ ?_ hfr, fun y => absurd (show nI 0 - (1 : Int32) < 0 by decide) y⟩
    unfold lRem at hw
    rw [List.take_zero, List.drop_zero, List.nil_append] at hw
    exact hw
  · obtain ⟨j, rfl⟩ : ∃ j, k = j + 1 := ⟨k - 1, by omega⟩
    have hj : j < mv.length := by omega
    have hl := lRem_len (p := p) hk
    obtain ⟨a1, a2⟩ := lRem_at (p := p) hj
    obtain ⟨b1, b2⟩ := hw.2 j (by omega)
    rw [a1] at b1
    rw [a2] at b2
    obtain ⟨v1, v2⟩ := hv j hj
    have hmu : (nI j - (1 : Int32) + 1).toNatClampNeg < (nI (j + 1) - (1 : Int32) + 1).toNatClampNeg := by
      rw [Int32.sub_add_cancel, Int32.sub_add_cancel, nI_clamp (by omega), nI_clamp (by omega)]
      omega
    have hnx : nI j + (-1 : Int32) = nI j - 1 := (Int32.sub_eq_add_neg (nI j) 1).symm
    have keep : keepP p (mv.getD j (0, 0)) = true → rec (nI j + (-1 : Int32)) w := fun z => by
      rw [hnx]
      exact hrec _ _ ⟨j, by omega, rfl, by rw [lRem_keep hj z]; exact hw, hfr⟩ hmu
    have drop : ¬ keepP p (mv.getD j (0, 0)) = true → wp_X6_drops (nI j) w (fun n' => rec (nI j + (-1 : Int32)) n') := fun z => by
      refine x6_drops hw (by omega) (by omega) (fun n' c d => ?_)
      rw [hnx]
      exact hrec _ _ ⟨j, by omega, rfl, by rw [lRem_drop hj z]; exact c, fun i x y => by rw [d i x y]; exact hfr i x y⟩ hmu
    rw [i_sub1, ix44, ix105, nI_clamp (show 44 + j < 2 ^ 31 by omega), nI_clamp (show 105 + j < 2 ^ 31 by omega), b1, b2]
    refine ⟨fun y => absurd y (nI_pos (by omega)), fun _ => ⟨vp_in_nI (by omega) (by omega), fun y => drop ?_, fun y => ⟨vp_in_nI (by omega) (by omega), fun z => keep ?_, fun z => drop ?_⟩⟩⟩
    · have e : (mv.getD j (0, 0)).1 = p := (nI_eq (show lA mv j < 2 ^ 31 by omega) (by omega)).mp y
      unfold keepP
      rw [decide_eq_true e, Bool.not_true, Bool.false_and]
      decide
    · have e1 : ¬ (mv.getD j (0, 0)).1 = p := fun e => y (congrArg nI e)
      have e2 : ¬ (mv.getD j (0, 0)).2 = p := fun e => z (congrArg nI e)
      unfold keepP
      rw [decide_eq_false e1, decide_eq_false e2]
      rfl
    · have e : (mv.getD j (0, 0)).2 = p := (nI_eq (show lB mv j < 2 ^ 31 by omega) (by omega)).mp z
      unfold keepP
      rw [decide_eq_true e, Bool.not_true, Bool.and_false]
      decide
theorem rem_decr {mv : List (Nat × Nat)} {p : Nat} {now : Nat → Int32} {K : Int32 → (Nat → Int32) → Prop} (hr : RMv mv now) (hm : mv.length ≤ 60) (hv : ∀ k, k < mv.length → lA mv k < 1000 ∧ lB mv k < 1000) (hp : p < 1000)
    (h : ∀ v n', RMv (mv.map (dcP p)) n' → (∀ i, i < 44 ∨ 166 ≤ i → n' i = now i) → K v n') : ∃ n, fx2 (F_X6_removePlace_93 (nI p) K) n (0 : Int32) now := by
  obtain ⟨h1, hr⟩ := hr
  refine up2i mv.length (by omega) (fun k w => (∀ j, j < mv.length → w (44 + j) = nI (if j < k then dcN p (lA mv j) else lA mv j) ∧ w (105 + j) = nI (if j < k then dcN p (lB mv j) else lB mv j)) ∧ w 1 = nI mv.length ∧ ∀ i, i < 44 ∨ 166 ≤ i → w i = now i) 0 _ (Nat.zero_le _)
    ⟨fun j hj => by rw [if_neg (Nat.not_lt_zero _), if_neg (Nat.not_lt_zero _)]; exact hr j hj, h1, fun _ _ => rfl⟩ (fun rec w ⟨hI, hw1, hw⟩ => ?_) (fun rec k w hk ⟨hI, hw1, hw⟩ go => ?_)
  · unfold F_X6_removePlace_93
    rw [hw1]
    refine lpE (h _ _ ⟨by rw [hw1, List.length_map], fun j hj => ?_⟩ hw)
    rw [List.length_map] at hj
    obtain ⟨a, b⟩ := hI j hj
    rw [a, b, if_pos hj, if_pos hj, (lMap hj).1, (lMap hj).2]
    exact ⟨rfl, rfl⟩
  · unfold F_X6_removePlace_93
    obtain ⟨r1, r2⟩ := hI k hk
    rw [if_neg (Nat.lt_irrefl _)] at r1 r2
    obtain ⟨v1, v2⟩ := hv k hk
    have z1 : ¬ 105 + k = 44 + k := by omega
    have e2 : ∀ X, upd w (44 + k) X (105 + k) = nI (lB mv k) := fun X => by rw [upd_get, if_neg z1]; exact r2
    have step : ∀ a b : Nat, nI a = nI (dcN p (lA mv k)) → nI b = nI (dcN p (lB mv k)) → rec (nI k + 1) (upd (upd w (44 + k) (nI a)) (105 + k) (nI b)) := fun a b ha hb => go _ ⟨fun j hj => by
        have z2 : ¬ 44 + j = 105 + k := by omega
        have z3 : ¬ 105 + j = 44 + k := by omega
        simp only [upd_get, if_neg z2, if_neg z3]
        obtain ⟨x, y⟩ := hI j hj
        by_cases q : j = k
        · subst q
          rw [if_pos rfl, if_pos rfl, if_pos (Nat.lt_succ_self _), if_pos (Nat.lt_succ_self _)]
          exact ⟨ha, hb⟩
        · have q1 : ¬ 44 + j = 44 + k := by omega
          have q2 : ¬ 105 + j = 105 + k := by omega
          rw [if_neg q1, if_neg q2, x, y]
          by_cases u : j < k
          · have u2 : j < k + 1 := by omega
            rw [if_pos u, if_pos u, if_pos u2, if_pos u2]; exact ⟨rfl, rfl⟩
          · have u2 : ¬ j < k + 1 := by omega
            rw [if_neg u, if_neg u, if_neg u2, if_neg u2]; exact ⟨rfl, rfl⟩, by
        rw [pk_un (by omega), pk_un (by omega)]; exact hw1, fun i x => by
        rw [pk_un (by omega), pk_un (by omega)]; exact hw i x⟩
    have le : ∀ {x : Nat}, x < 1000 → nI x ≤ nI p → dcN p x = x := fun hx q => if_neg (by have := (nI_leI (by omega) (by omega)).mp q; omega)
    have gt : ∀ {x : Nat}, x < 1000 → ¬ nI x ≤ nI p → nI x - 1 = nI (x - 1) ∧ dcN p x = x - 1 := fun {x} hx q => by
      have : p < x := Nat.lt_of_not_le fun y => q ((nI_leI (by omega) (by omega)).mpr y)
      exact ⟨i_subp (by omega), if_pos this⟩
    have s0 : ∀ x : Int32, x - 0 = x := fun x => Int32.sub_zero x
    have hin : vp_in (nI (44 + k)) 176 := vp_in_nI (by omega) (by omega)
    have hin2 : vp_in (nI (105 + k)) 176 := vp_in_nI (by omega) (by omega)
    rw [hw1, ix44, ix105, nI_clamp (show 44 + k < 2 ^ 31 by omega), nI_clamp (show 105 + k < 2 ^ 31 by omega), r1]
    simp only [e2, s0]
    refine lpS hk (by omega) ⟨hin, hin, fun q => ⟨hin, hin2, hin2, fun q2 => ⟨hin2, step _ _ (by rw [le v1 q]) (by rw [le v2 q2])⟩, fun q2 => ⟨hin2, ?_⟩⟩, fun q => ⟨hin, hin2, hin2, fun q2 => ⟨hin2, ?_⟩, fun q2 => ⟨hin2, ?_⟩⟩⟩
    · rw [(gt v2 q2).1]
      exact step _ _ (by rw [le v1 q]) (by rw [(gt v2 q2).2])
    · rw [(gt v1 q).1]
      exact step _ _ (by rw [(gt v1 q).2]) (by rw [le v2 q2])
    · rw [(gt v1 q).1, (gt v2 q2).1]
      exact step _ _ (by rw [(gt v1 q).2]) (by rw [(gt v2 q2).2])
theorem rem_places {pl : List (Nat × Nat)} {d : Nat} {now : Nat → Int32} {K : Int32 → (Nat → Int32) → Prop} (hr : RMp pl now) (hn : pl.length ≤ 20) (hd : d < pl.length)
    (h : ∀ v n', RMp (pl.eraseIdx d) n' → (∀ i, i ≠ 0 → i < 4 ∨ 44 ≤ i → n' i = now i) → K v n') : ∃ n, fx2 (F_X6_removePlace_181 K) n (nI d) (upd now 0 (now 0 - 1)) := by
  obtain ⟨h1, hr⟩ := hr
  obtain ⟨n, hN⟩ : ∃ n, pl.length = n + 1 := ⟨pl.length - 1, by omega⟩
  have hle : (pl.eraseIdx d).length = n := by rw [List.length_eraseIdx, if_pos hd, hN]; rfl
  rw [h1, hN, i_sub1]
  refine up2i n (by omega) (fun k w => d ≤ k ∧ (∀ j, j < pl.length → w (4 + j) = nI (if d ≤ j ∧ j < k then lA pl (j + 1) else lA pl j) ∧ w (24 + j) = nI (if d ≤ j ∧ j < k then lB pl (j + 1) else lB pl j)) ∧ w 0 = nI n ∧ ∀ i, i ≠ 0 → i < 4 ∨ 44 ≤ i → w i = now i) d _ (by omega)
    ⟨Nat.le_refl _, fun j hj => ?_, pk_us, fun i a _ => pk_un a⟩ (fun rec w ⟨_, hI, hw1, hw⟩ => ?_) (fun rec k w hk ⟨hdk, hI, hw1, hw⟩ go => ?_)
  · have e : ¬ (d ≤ j ∧ j < d) := by omega
    rw [if_neg e, if_neg e, pk_un (by omega), pk_un (by omega)]
    exact hr j hj
  · unfold F_X6_removePlace_181
    rw [hw1]
    refine lpE (h _ _ ⟨by rw [hw1, hle], fun j hj => ?_⟩ hw)
    rw [hle] at hj
    obtain ⟨a, b⟩ := hI j (by omega)
    rw [a, b, lA_erase.1, lA_erase.2]
    by_cases q : j < d
    · have e : ¬ (d ≤ j ∧ j < n) := by omega
      rw [if_neg e, if_neg e, if_pos q, if_pos q]; exact ⟨rfl, rfl⟩
    · have e : d ≤ j ∧ j < n := by omega
      rw [if_pos e, if_pos e, if_neg q, if_neg q]; exact ⟨rfl, rfl⟩
  · unfold F_X6_removePlace_181
    obtain ⟨a', b'⟩ := hI (k + 1) (by omega)
    have e1 : ¬ (d ≤ k + 1 ∧ k + 1 < k) := by omega
    rw [if_neg e1] at a' b'
    rw [hw1, ix4, ix24, nI_1, nI_1, nI_clamp (show 4 + k < 2 ^ 31 by omega), nI_clamp (show 24 + k < 2 ^ 31 by omega), nI_clamp (show 4 + k + 1 < 2 ^ 31 by omega), nI_clamp (show 24 + k + 1 < 2 ^ 31 by omega)]
    have z1 : ¬ 24 + k + 1 = 4 + k := by omega
    have e2 : upd w (4 + k) (w (4 + k + 1)) (24 + k + 1) = nI (lB pl (k + 1)) := by rw [upd_get, if_neg z1]; exact b'
    have e3 : w (4 + k + 1) = nI (lA pl (k + 1)) := a'
    rw [e2, e3]
    refine lpS hk (by omega) ⟨vp_in_nI (by omega) (by omega), vp_in_nI (by omega) (by omega), vp_in_nI (by omega) (by omega), vp_in_nI (by omega) (by omega), go _ ⟨by omega, fun j hj => ?_, ?_, fun i x y => ?_⟩⟩
    · have z2 : ¬ 4 + j = 24 + k := by omega
      have z3 : ¬ 24 + j = 4 + k := by omega
      simp only [upd_get, if_neg z2, if_neg z3]
      obtain ⟨a, b⟩ := hI j hj
      by_cases q : j = k
      · subst q
        have e4 : d ≤ j ∧ j < j + 1 := by omega
        rw [if_pos rfl, if_pos rfl, if_pos e4, if_pos e4]
        exact ⟨rfl, rfl⟩
      · have q1 : ¬ 4 + j = 4 + k := by omega
        have q2 : ¬ 24 + j = 24 + k := by omega
        rw [if_neg q1, if_neg q2, a, b]
        by_cases z : d ≤ j ∧ j < k
        · have e4 : d ≤ j ∧ j < k + 1 := by omega
          rw [if_pos z, if_pos z, if_pos e4, if_pos e4]; exact ⟨rfl, rfl⟩
        · have e4 : ¬ (d ≤ j ∧ j < k + 1) := by omega
          rw [if_neg z, if_neg z, if_neg e4, if_neg e4]; exact ⟨rfl, rfl⟩
    · rw [pk_un (by omega), pk_un (by omega)]
      exact hw1
    · rw [pk_un (by omega), pk_un (by omega)]
      exact hw i x y
