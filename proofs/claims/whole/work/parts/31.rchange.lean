/-! the reference's row: changes -/
theorem RMp_of {pl : List (Nat × Nat)} {now now' : Nat → Int32} (hn : pl.length ≤ 20) (h : RMp pl now) (e0 : now' 0 = now 0) (e : ∀ i, 4 ≤ i → i < 44 → now' i = now i) : RMp pl now' :=
  ⟨by rw [e0]; exact h.1, fun u hu => by
    rw [e (4 + u) (by omega) (by omega), e (24 + u) (by omega) (by omega)]
    exact h.2 u hu⟩
theorem RMv_of {mv : List (Nat × Nat)} {now now' : Nat → Int32} (hm : mv.length ≤ 61) (h : RMv mv now) (e1 : now' 1 = now 1) (e : ∀ i, 44 ≤ i → i < 166 → now' i = now i) : RMv mv now' :=
  ⟨by rw [e1]; exact h.1, fun u hu => by
    rw [e (44 + u) (by omega) (by omega), e (105 + u) (by omega) (by omega)]
    exact h.2 u hu⟩
theorem RMt_of {tk : Nat} {md : Int32} {hd now now' : Nat → Int32} (h : RMt tk md hd now) (e2 : now' 2 = now 2) (e3 : now' 3 = now 3) (e : ∀ i, 166 ≤ i → i < 176 → now' i = now i) : RMt tk md hd now' :=
  ⟨by rw [e2]; exact h.1, by rw [e3]; exact h.2.1, fun u hu => by
    rw [e (166 + u) (by omega) (by omega)]
    exact h.2.2 u hu⟩
theorem RM_of {g : gm} {now now' : Nat → Int32} (hg : g.1.length ≤ 20 ∧ g.2.1.length ≤ 60) (h : RM g now) (e : ∀ i, i < 176 → now' i = now i) : RM g now' :=
  ⟨RMp_of hg.1 h.1 (e 0 (by decide)) (fun i _ _ => e i (by omega)), RMv_of (by omega) h.2.1 (e 1 (by decide)) (fun i _ _ => e i (by omega)), RMt_of h.2.2 (e 2 (by decide)) (e 3 (by decide)) (fun i _ a => e i a)⟩
theorem x6_joins {pl : List (Nat × Nat)} {o c : Nat} {now : Nat → Int32} {post : (Nat → Int32) → Prop} (hn : pl.length < 20) (hr : RMp pl now)
    (h : ∀ n', RMp (pl ++ [(o, c)]) n' → (∀ i, i ≠ 0 → i < 4 ∨ 44 ≤ i → n' i = now i) → post n') : wp_X6_joins (nI o) (nI c) now post := by
  obtain ⟨h0, hr⟩ := hr
  unfold wp_X6_joins
  rw [h0, ix4, nI_clamp (show 4 + pl.length < 2 ^ 31 by omega)]
  have e1 : upd now (4 + pl.length) (nI o) 0 = nI pl.length := by rw [upd_get, if_neg (by omega), h0]
  rw [e1, ix24, nI_clamp (show 24 + pl.length < 2 ^ 31 by omega)]
  have e2 : upd (upd now (4 + pl.length) (nI o)) (24 + pl.length) (nI c) 0 = nI pl.length := by rw [upd_get, if_neg (by omega), e1]
  rw [e2]
  refine ⟨vp_in_nI (by omega) (by omega), vp_in_nI (by omega) (by omega), h _ ⟨?_, fun u hu => ?_⟩ (fun i a b => ?_)⟩
  · rw [pk_us, nI_1, List.length_append]
    rfl
  · rw [List.length_append, List.length_singleton] at hu
    have z1 : ¬ 4 + u = 0 := by omega
    have z2 : ¬ 24 + u = 0 := by omega
    have z3 : ¬ 4 + u = 24 + pl.length := by omega
    have z4 : ¬ 24 + u = 4 + pl.length := by omega
    simp only [upd_get, if_neg z1, if_neg z2, if_neg z3, if_neg z4]
    rw [lA_app.1, lA_app.2]
    by_cases q : u = pl.length
    · subst q
      rw [if_pos rfl, if_pos rfl, if_pos rfl, if_pos rfl]
      exact ⟨rfl, rfl⟩
    · have q1 : ¬ 4 + u = 4 + pl.length := by omega
      have q2 : ¬ 24 + u = 24 + pl.length := by omega
      rw [if_neg q1, if_neg q2, if_neg q, if_neg q]
      exact hr u (by omega)
  · have z1 : ¬ i = 24 + pl.length := by omega
    have z2 : ¬ i = 4 + pl.length := by omega
    simp only [upd_get, if_neg a, if_neg z1, if_neg z2]
theorem x6_leads {mv : List (Nat × Nat)} {a b : Nat} {now : Nat → Int32} {post : (Nat → Int32) → Prop} (hm : mv.length ≤ 60) (hr : RMv mv now)
    (h : ∀ n', RMv (mv ++ [(a, b)]) n' → (∀ i, i ≠ 1 → i < 44 ∨ 166 ≤ i → n' i = now i) → post n') : wp_X6_leads (nI a) (nI b) now post := by
  obtain ⟨h0, hr⟩ := hr
  unfold wp_X6_leads
  rw [h0, ix44, nI_clamp (show 44 + mv.length < 2 ^ 31 by omega)]
  have e1 : upd now (44 + mv.length) (nI a) 1 = nI mv.length := by rw [upd_get, if_neg (by omega), h0]
  rw [e1, ix105, nI_clamp (show 105 + mv.length < 2 ^ 31 by omega)]
  have e2 : upd (upd now (44 + mv.length) (nI a)) (105 + mv.length) (nI b) 1 = nI mv.length := by rw [upd_get, if_neg (by omega), e1]
  rw [e2]
  refine ⟨vp_in_nI (by omega) (by omega), vp_in_nI (by omega) (by omega), h _ ⟨?_, fun u hu => ?_⟩ (fun i x y => ?_)⟩
  · rw [pk_us, nI_1, List.length_append]
    rfl
  · rw [List.length_append, List.length_singleton] at hu
    have z1 : ¬ 44 + u = 1 := by omega
    have z2 : ¬ 105 + u = 1 := by omega
    have z3 : ¬ 44 + u = 105 + mv.length := by omega
    have z4 : ¬ 105 + u = 44 + mv.length := by omega
    simp only [upd_get, if_neg z1, if_neg z2, if_neg z3, if_neg z4]
    rw [lA_app.1, lA_app.2]
    by_cases q : u = mv.length
    · subst q
      rw [if_pos rfl, if_pos rfl, if_pos rfl, if_pos rfl]
      exact ⟨rfl, rfl⟩
    · have q1 : ¬ 44 + u = 44 + mv.length := by omega
      have q2 : ¬ 105 + u = 105 + mv.length := by omega
      rw [if_neg q1, if_neg q2, if_neg q, if_neg q]
      exact hr u (by omega)
  · have z1 : ¬ i = 105 + mv.length := by omega
    have z2 : ¬ i = 44 + mv.length := by omega
    simp only [upd_get, if_neg x, if_neg z1, if_neg z2]
theorem x6_hears {pl : List (Nat × Nat)} {p : Nat} {md : Int32} {hd now : Nat → Int32} {post : (Nat → Int32) → Prop} (hn : pl.length ≤ 20) (hp : RMp pl now) (hc : lB pl p < 10) (hpn : p < pl.length) (ht1 : now 3 = md) (ht2 : ∀ c, c < 10 → now (166 + c) = hd c)
    (h : ∀ n', RMt p md (hdStep pl p hd) n' → (∀ i, i ≠ 2 → i < 166 → n' i = now i) → post n') : wp_X6_hears (nI p) now post := by
  unfold wp_X6_hears
  rw [ix24, nI_clamp (show 24 + p < 2 ^ 31 by omega)]
  have e1 : upd now 2 (nI p) (24 + p) = nI (lB pl p) := by rw [upd_get, if_neg (by omega)]; exact (hp.2 p hpn).2
  rw [e1, ix166, nI_clamp (show 166 + lB pl p < 2 ^ 31 by omega)]
  have e2 : upd now 2 (nI p) (166 + lB pl p) = hd (lB pl p) := by rw [upd_get, if_neg (by omega)]; exact ht2 _ hc
  rw [e2]
  refine ⟨vp_in_nI (by omega) (by omega), vp_in_nI (by omega) (by omega), vp_in_nI (by omega) (by omega), h _ ⟨?_, ?_, fun c hc2 => ?_⟩ (fun i a b => ?_)⟩
  · have z : ¬ 2 = 166 + lB pl p := by omega
    rw [upd_get, if_neg z, pk_us]
  · have z : ¬ 3 = 166 + lB pl p := by omega
    rw [upd_get, if_neg z, pk_un (by decide)]
    exact ht1
  · have z : ¬ 166 + c = 2 := by omega
    unfold hdStep
    simp only [upd_get, if_neg z]
    by_cases y : c = lB pl p
    · rw [if_pos (by rw [y]), if_pos y, y]
    · have y2 : ¬ 166 + c = 166 + lB pl p := by omega
      rw [if_neg y2, if_neg y]
      exact ht2 c hc2
  · have z : ¬ i = 166 + lB pl p := by omega
    simp only [upd_get, if_neg a, if_neg z]
theorem x6_lays {pl : List (Nat × Nat)} {p : Nat} {now : Nat → Int32} {post : (Nat → Int32) → Prop} (hn : pl.length ≤ 20) (hp : RMp pl now) (hc : lB pl p < 10) (hpn : p < pl.length)
    (h : ∀ n', RMt p 0 (hdLay pl p) n' → (∀ i, i ≠ 2 → i ≠ 3 → i < 166 → n' i = now i) → post n') : wp_X6_lays (nI p) now post := by
  unfold wp_X6_lays
  refine up2i 10 (by decide) (fun k n1 => (∀ j, j < k → n1 (166 + j) = 0) ∧ ∀ i, i < 166 → n1 i = now i) 0 _ (Nat.zero_le _) ⟨fun j hj => absurd hj (Nat.not_lt_zero _), fun _ _ => rfl⟩ (fun rec n1 hI => ?_) (fun rec k n1 hk hI go => ?_)
  · unfold F_X6_lays_2
    refine lpE (e := 10) ?_
    have hp1 : RMp pl (upd n1 3 0) := RMp_of hn hp (by rw [pk_un (by decide)]; exact hI.2 0 (by decide)) (fun i a b => by rw [pk_un (by omega)]; exact hI.2 i (by omega))
    exact x6_hears (hd := fun _ => 0) hn hp1 hc hpn (by rw [pk_us]) (fun c hc2 => by rw [pk_un (by omega)]; exact hI.1 c hc2) (fun n' a b => by
      refine h _ ⟨a.1, a.2.1, fun c hc2 => ?_⟩ (fun i x y z => by rw [b i x z, pk_un y]; exact hI.2 i z)
      rw [a.2.2 c hc2]
      unfold hdStep hdLay
      by_cases w : c = lB pl p
      · rw [if_pos w, if_pos w]; rfl
      · rw [if_neg w, if_neg w])
  · unfold F_X6_lays_2
    rw [ix166, nI_clamp (show 166 + k < 2 ^ 31 by omega)]
    refine lpS (e := 10) hk (by decide) ⟨vp_in_nI (by omega) (by decide), go _ ⟨fun j hj => ?_, fun i hi => ?_⟩⟩
    · rw [upd_get]
      split
      · rfl
      · exact hI.1 j (by omega)
    · rw [pk_un (by omega)]
      exact hI.2 i hi
theorem x6_goes {pl mv : List (Nat × Nat)} {k tk : Nat} {md : Int32} {hd now : Nat → Int32} {post : (Nat → Int32) → Prop} (hg : gOk0 pl mv) (hp : RMp pl now) (hv : RMv mv now) (ht : RMt tk md hd now) (hk : k < mv.length)
    (h : ∀ n', RMt (lB mv k) (md + 1) (hdStep pl (lB mv k) hd) n' → (∀ i, i ≠ 2 → i ≠ 3 → i < 166 → n' i = now i) → post n') : wp_X6_goes (nI k) now post := by
  have hn := hg.1
  have hm := hg.2.1
  obtain ⟨g1, g2⟩ := gOk0_mv hg hk
  have hc := (gOk0_ow hg (lB mv k)).2
  unfold wp_X6_goes
  have z : ¬ 105 + k = 3 := by omega
  have e1 : upd now 3 (now 3 + 1) (105 + k) = nI (lB mv k) := by
    rw [upd_get, if_neg z]
    exact (hv.2 k hk).2
  rw [ix105, nI_clamp (show 105 + k < 2 ^ 31 by omega), e1]
  refine ⟨vp_in_nI (by omega) (by omega), x6_hears (hd := hd) (md := md + 1) hn (RMp_of hn hp (pk_un (by decide)) (fun i a b => pk_un (by omega))) hc g2 (by rw [pk_us, ht.2.1]) (fun c hc2 => by rw [pk_un (by omega)]; exact ht.2.2 c hc2) (fun n' a b => h n' a (fun i x y w => by rw [b i x w, pk_un y]))⟩
theorem x6_drops {mv : List (Nat × Nat)} {d : Nat} {now : Nat → Int32} {post : (Nat → Int32) → Prop} (hr : RMv mv now) (hm : mv.length ≤ 60) (hd : d < mv.length)
    (h : ∀ n', RMv (mv.eraseIdx d) n' → (∀ i, i ≠ 1 → i < 44 ∨ 166 ≤ i → n' i = now i) → post n') : wp_X6_drops (nI d) now post := by
  obtain ⟨h1, hr⟩ := hr
  obtain ⟨n, hn⟩ : ∃ n, mv.length = n + 1 := ⟨mv.length - 1, by omega⟩
  have hle : (mv.eraseIdx d).length = n := by rw [List.length_eraseIdx, if_pos hd, hn]; rfl
  unfold wp_X6_drops
  rw [h1, hn, i_sub1]
  refine up2i n (by omega) (fun k w => d ≤ k ∧ (∀ j, j < mv.length → w (44 + j) = nI (if d ≤ j ∧ j < k then lA mv (j + 1) else lA mv j) ∧ w (105 + j) = nI (if d ≤ j ∧ j < k then lB mv (j + 1) else lB mv j)) ∧ w 1 = nI n ∧ ∀ i, i ≠ 1 → i < 44 ∨ 166 ≤ i → w i = now i) d _ (by omega)
    ⟨Nat.le_refl _, fun j hj => ?_, pk_us, fun i a _ => pk_un a⟩ (fun rec w ⟨_, hI, hw1, hw⟩ => ?_) (fun rec k w hk ⟨hdk, hI, hw1, hw⟩ go => ?_)
  · have e : ¬ (d ≤ j ∧ j < d) := by omega
    rw [if_neg e, if_neg e, pk_un (by omega), pk_un (by omega)]
    exact hr j hj
  · unfold F_X6_drops_12
    rw [hw1]
    refine lpE (h _ ⟨by rw [hw1, hle], fun j hj => ?_⟩ hw)
    rw [hle] at hj
    obtain ⟨a, b⟩ := hI j (by omega)
    rw [a, b, lA_erase.1, lA_erase.2]
    by_cases q : j < d
    · have e : ¬ (d ≤ j ∧ j < n) := by omega
      rw [if_neg e, if_neg e, if_pos q, if_pos q]; exact ⟨rfl, rfl⟩
    · have e : d ≤ j ∧ j < n := by omega
      rw [if_pos e, if_pos e, if_neg q, if_neg q]; exact ⟨rfl, rfl⟩
  · unfold F_X6_drops_12
    obtain ⟨a', b'⟩ := hI (k + 1) (by omega)
    have e1 : ¬ (d ≤ k + 1 ∧ k + 1 < k) := by omega
    rw [if_neg e1] at a' b'
    rw [hw1, ix44, ix105, nI_1, nI_1, nI_clamp (show 44 + k < 2 ^ 31 by omega), nI_clamp (show 105 + k < 2 ^ 31 by omega), nI_clamp (show 44 + k + 1 < 2 ^ 31 by omega), nI_clamp (show 105 + k + 1 < 2 ^ 31 by omega)]
    have z1 : ¬ 105 + k + 1 = 44 + k := by omega
    have e2 : upd w (44 + k) (w (44 + k + 1)) (105 + k + 1) = nI (lB mv (k + 1)) := by rw [upd_get, if_neg z1]; exact b'
    have e3 : w (44 + k + 1) = nI (lA mv (k + 1)) := a'
    rw [e2, e3]
    refine lpS hk (by omega) ⟨vp_in_nI (by omega) (by omega), vp_in_nI (by omega) (by omega), vp_in_nI (by omega) (by omega), vp_in_nI (by omega) (by omega), go _ ⟨by omega, fun j hj => ?_, ?_, fun i x y => ?_⟩⟩
    · have z2 : ¬ 44 + j = 105 + k := by omega
      have z3 : ¬ 105 + j = 44 + k := by omega
      simp only [upd_get, if_neg z2, if_neg z3]
      obtain ⟨a, b⟩ := hI j hj
      by_cases q : j = k
      · subst q
        have e4 : d ≤ j ∧ j < j + 1 := by omega
        rw [if_pos rfl, if_pos rfl, if_pos e4, if_pos e4]
        exact ⟨rfl, rfl⟩
      · have q1 : ¬ 44 + j = 44 + k := by omega
        have q2 : ¬ 105 + j = 105 + k := by omega
        rw [if_neg q1, if_neg q2, a, b]
        by_cases z : d ≤ j ∧ j < k
        · have e4 : d ≤ j ∧ j < k + 1 := by omega
          rw [if_pos z, if_pos z, if_pos e4, if_pos e4]; exact ⟨rfl, rfl⟩
        · have e4 : ¬ (d ≤ j ∧ j < k + 1) := by omega
          rw [if_neg z, if_neg z, if_neg e4, if_neg e4]; exact ⟨rfl, rfl⟩
    · rw [pk_un (by omega), pk_un (by omega)]
      exact hw1
    · rw [pk_un (by omega), pk_un (by omega)]
      exact hw i x y
theorem x6_between {mv : List (Nat × Nat)} {a b : Nat} {now : Nat → Int32} {post : Int32 → Prop} (hr : RMv mv now) (hm : mv.length ≤ 60) (hv : ∀ k, k < mv.length → lA mv k < 1000 ∧ lB mv k < 1000) (ha : a < 1000) (hb : b < 1000)
    (h : post (rFst (fun k => decide (lA mv k = a) && decide (lB mv k = b)) mv.length)) : wp_X6_between (nI a) (nI b) now post := by
  obtain ⟨h1, hr⟩ := hr
  unfold wp_X6_between
  refine up1 mv.length (by omega) (fun k => ∀ j, j < k → ¬ (decide (lA mv j = a) && decide (lB mv j = b)) = true) 0 (Nat.zero_le _) (fun j hj => absurd hj (Nat.not_lt_zero _)) (fun rec hI => ?_) (fun rec k hk hI go => ?_)
  · unfold F_X6_between_2
    rw [h1]
    refine lpE ?_
    rw [rFst_none hI] at h
    exact h
  · unfold F_X6_between_2
    rw [h1, ix44, ix105, nI_clamp (show 44 + k < 2 ^ 31 by omega), nI_clamp (show 105 + k < 2 ^ 31 by omega), (hr k hk).1, (hr k hk).2]
    obtain ⟨v1, v2⟩ := hv k hk
    refine lpS hk (by omega) ⟨vp_in_nI (by omega) (by omega), fun q => go (fun j hj => ?_), fun q => ⟨vp_in_nI (by omega) (by omega), fun q2 => go (fun j hj => ?_), fun q2 => ?_⟩⟩
    · rcases Nat.lt_or_ge j k with z | z
      · exact hI j z
      · have : j = k := by omega
        subst this
        intro y
        rw [Bool.and_eq_true, decide_eq_true_eq, decide_eq_true_eq] at y
        exact q (by rw [y.1])
    · rcases Nat.lt_or_ge j k with z | z
      · exact hI j z
      · have : j = k := by omega
        subst this
        intro y
        rw [Bool.and_eq_true, decide_eq_true_eq, decide_eq_true_eq] at y
        exact q2 (by rw [y.2])
    · have e1 := (nI_eq (by omega) (by omega)).mp q
      have e2 := (nI_eq (by omega) (by omega)).mp q2
      rw [rFst_hit (k := k) (by rw [e1, e2]; simp) hI hk] at h
      exact h
theorem x6_movesAt {mv : List (Nat × Nat)} {f : Nat → Nat} {a s : Nat} {now : Nat → Int32} {post : Int32 → Prop} (h1 : now 1 = nI mv.length) (hr : ∀ k, k < mv.length → now (s + k) = nI (f k) ∧ f k < 1000) (hs : s ≤ 105) (hm : mv.length ≤ 60) (ha : a < 1000)
    (h : post (nI (pCnt (fun k => decide (f k = a)) mv.length))) : wp_X6_movesAt (nI a) (nI s) now post := by
  unfold wp_X6_movesAt
  refine up2 mv.length (by omega) (fun k z => z = nI (pCnt (fun k => decide (f k = a)) k)) 0 _ (Nat.zero_le _) rfl (fun rec z hI => ?_) (fun rec k z hk hI go => ?_)
  · unfold F_X6_movesAt_5
    rw [h1]
    refine lpE ?_
    rw [hI]
    exact h
  · unfold F_X6_movesAt_5
    obtain ⟨r1, r2⟩ := hr k hk
    rw [h1, nI_add, nI_clamp (show s + k < 2 ^ 31 by omega), r1, hI]
    refine lpS hk (by omega) ⟨vp_in_nI (by omega) (by omega), fun q => go _ ?_, fun q => go _ ?_⟩
    · simp only [pCnt]
      rw [if_neg (fun y => q (by rw [decide_eq_true_eq] at y; rw [y]))]
      exact nI_add _ 0
    · simp only [pCnt]
      rw [if_pos (by rw [decide_eq_true_eq]; exact (nI_eq (by omega) (by omega)).mp q), nI_1]
theorem x6_greatestCall {pl : List (Nat × Nat)} {now : Nat → Int32} {post : Int32 → Prop} (hp : RMp pl now) (hn : pl.length ≤ 20) (hc : ∀ u, lB pl u < 1000) (h : post (nI (pMax (lB pl) pl.length))) : wp_X6_greatestCall now post := by
  unfold wp_X6_greatestCall
  refine up2 pl.length (by omega) (fun k z => z = nI (pMax (lB pl) k)) 0 _ (Nat.zero_le _) rfl (fun rec z hI => ?_) (fun rec k z hk hI go => ?_)
  · unfold F_X6_greatestCall_4
    rw [hp.1]
    refine lpE ?_
    rw [hI]
    exact h
  · unfold F_X6_greatestCall_4
    have h1 := pMax_le (f := lB pl) (b := 1000) k (fun j _ => by have := hc j; omega)
    have h2 := hc k
    rw [hp.1, ix24, nI_clamp (show 24 + k < 2 ^ 31 by omega), (hp.2 k hk).2, hI]
    refine lpS hk (by omega) ⟨vp_in_nI (by omega) (by omega), fun q => go _ ?_, fun q => ⟨vp_in_nI (by omega) (by omega), go _ ?_⟩⟩
    · simp only [pMax]
      have := (nI_leI (by omega) (by omega)).mp q
      rw [if_neg (by omega)]
    · simp only [pMax]
      have : ¬ lB pl k ≤ pMax (lB pl) k := fun y => q ((nI_leI (by omega) (by omega)).mpr y)
      rw [if_pos (by omega)]
