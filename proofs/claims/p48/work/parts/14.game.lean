/-! THE STATE OF A GAME: places (owner, call), moves (from, to), the token's place, the moves it has made, how often each call was heard -/
abbrev gm : Type := List (Nat × Nat) × List (Nat × Nat) × Nat × Int32 × (Nat → Int32)
def lA (l : List (Nat × Nat)) (k : Nat) : Nat := (l.getD k (0, 0)).1
def lB (l : List (Nat × Nat)) (k : Nat) : Nat := (l.getD k (0, 0)).2
/-- a game without its token -/
def gOk0 (pl mv : List (Nat × Nat)) : Prop := pl.length ≤ 20 ∧ mv.length ≤ 60 ∧ (∀ q ∈ pl, q.1 < 2 ∧ q.2 < 10) ∧ (∀ q ∈ mv, q.1 < pl.length ∧ q.2 < pl.length) ∧ mv.Nodup
def gOk (g : gm) : Prop := gOk0 g.1 g.2.1 ∧ 1 ≤ g.1.length ∧ g.2.2.1 < g.1.length
/-- the class's fields show places, moves -/
def RP (pl : List (Nat × Nat)) (places odd : Int32) (calls : Nat → Int32) : Prop := places = nI pl.length ∧ (∀ u, bt odd u = true ↔ u < pl.length ∧ lA pl u = 1) ∧ ∀ u, u < pl.length → calls u = nI (lB pl u)
def RV (mv : List (Nat × Nat)) (moves : Int32) (fr to : Nat → Int32) : Prop := moves = nI mv.length ∧ ∀ k, k < mv.length → fr k = nI (lA mv k) ∧ to k = nI (lB mv k)
def RT (tk : Nat) (md : Int32) (hd : Nat → Int32) (token made : Int32) (heard : Nat → Int32) : Prop := token = nI tk ∧ made = md ∧ ∀ c, c < 10 → heard c = hd c
def RG (g : gm) (places odd moves token made : Int32) (calls fr heard to : Nat → Int32) : Prop := RP g.1 places odd calls ∧ RV g.2.1 moves fr to ∧ RT g.2.2.1 g.2.2.2.1 g.2.2.2.2 token made heard
/-- the reference's row shows a game -/
def RMp (pl : List (Nat × Nat)) (now : Nat → Int32) : Prop := now 0 = nI pl.length ∧ ∀ u, u < pl.length → now (4 + u) = nI (lA pl u) ∧ now (24 + u) = nI (lB pl u)
def RMv (mv : List (Nat × Nat)) (now : Nat → Int32) : Prop := now 1 = nI mv.length ∧ ∀ k, k < mv.length → now (44 + k) = nI (lA mv k) ∧ now (105 + k) = nI (lB mv k)
def RMt (tk : Nat) (md : Int32) (hd : Nat → Int32) (now : Nat → Int32) : Prop := now 2 = nI tk ∧ now 3 = md ∧ ∀ c, c < 10 → now (166 + c) = hd c
def RM (g : gm) (now : Nat → Int32) : Prop := RMp g.1 now ∧ RMv g.2.1 now ∧ RMt g.2.2.1 g.2.2.2.1 g.2.2.2.2 now
theorem lAt {l : List (Nat × Nat)} {k : Nat} (h : k < l.length) : l.getD k (0, 0) ∈ l := by
  rw [List.getD_eq_getElem?_getD, List.getElem?_eq_getElem h]
  exact List.getElem_mem h
theorem lOut {l : List (Nat × Nat)} {k : Nat} (h : l.length ≤ k) : lA l k = 0 ∧ lB l k = 0 := by
  unfold lA lB
  rw [List.getD_eq_getElem?_getD, List.getElem?_eq_none h]
  exact ⟨rfl, rfl⟩
theorem gOk0_ow {pl mv : List (Nat × Nat)} (h : gOk0 pl mv) (v : Nat) : lA pl v < 2 ∧ lB pl v < 10 := by
  rcases Nat.lt_or_ge v pl.length with q | q
  · exact h.2.2.1 _ (lAt q)
  · rw [(lOut q).1, (lOut q).2]; exact ⟨by decide, by decide⟩
theorem gOk0_mv {pl mv : List (Nat × Nat)} (h : gOk0 pl mv) {k : Nat} (hk : k < mv.length) : lA mv k < pl.length ∧ lB mv k < pl.length := h.2.2.2.1 _ (lAt hk)
/-- the moves, as a relation -/
def gEd (mv : List (Nat × Nat)) (v w : Nat) : Prop := ∃ k, k < mv.length ∧ lA mv k = v ∧ lB mv k = w
theorem mdOk_of {pl mv : List (Nat × Nat)} {now : Nat → Int32} (h : gOk0 pl mv) (hp : RMp pl now) (hv : RMv mv now) : mdOk pl.length mv.length (lA pl) (lB pl) (lA mv) (lB mv) now :=
  ⟨h.1, by have := h.2.1; omega, fun v => (gOk0_ow h v).1, fun v => (gOk0_ow h v).2, hp.1, hv.1, hp.2, fun k hk => ⟨(hv.2 k hk).1, (hv.2 k hk).2, (gOk0_mv h hk).1, (gOk0_mv h hk).2⟩⟩
/-! the class's Game: questions -/
theorem x1_hasPlace {a : Int32} {n : Nat} {post : Int32 → Prop} (hn : n ≤ 20) (h0 : (∀ k, k < n → a ≠ nI k) → post 0) (h1 : ∀ k, k < n → a = nI k → post 1) : wp_X1_hasPlace a (nI n) post := by
  unfold wp_X1_hasPlace
  refine ⟨fun q => h0 (fun k hk e => nI_pos (n := k) (by omega) (by rw [← e]; exact q)), fun q => ⟨fun q2 => h0 (fun k hk e => ?_), fun q2 => ?_⟩⟩
  · rw [e] at q2
    exact nI_ge hk (by omega) q2
  · rcases pk_ix a (n := n) (by omega) with z | z | ⟨j, hj, e⟩
    · exact absurd z q
    · exact absurd z q2
    · exact h1 j hj e
theorem x1_ownerOf {pl : List (Nat × Nat)} {u : Nat} {places odd : Int32} {calls : Nat → Int32} {post : Int32 → Prop} (hr : RP pl places odd calls) (hu : u < pl.length) (hn : pl.length ≤ 20) (h2 : lA pl u < 2) (h : post (nI (lA pl u))) : wp_X1_ownerOf (nI u) odd post := by
  unfold wp_X1_ownerOf
  have e : ((odd.toUInt32 >>> ((nI u).toUInt32 &&& Int32.toUInt32 31)).toInt32) &&& (1 : Int32) = nI (lA pl u) := by
    refine b_ext (fun i hi => ?_)
    rw [b_and, b_ushr u (by omega) odd i]
    have h1 : ∀ j, j < 32 → bt 1 j = decide (j = 0) := by decide +kernel
    rw [h1 i hi]
    rcases (show lA pl u = 0 ∨ lA pl u = 1 by omega) with q | q
    · rw [q, show nI 0 = (0 : Int32) from rfl, b_0]
      by_cases z : i = 0
      · subst z
        have : ¬ bt odd u = true := fun y => by have := ((hr.2.1 u).mp y).2; omega
        rw [Nat.add_zero]
        cases hb : bt odd u
        · rfl
        · exact absurd hb this
      · rw [decide_eq_false z, Bool.and_false]
    · rw [q, show nI 1 = (1 : Int32) from rfl, h1 i hi]
      by_cases z : i = 0
      · subst z
        have : bt odd u = true := (hr.2.1 u).mpr ⟨hu, q⟩
        rw [Nat.add_zero, this]
        rfl
      · rw [decide_eq_false z, Bool.and_false]
  rw [e]
  exact h
theorem x1_findMove {mv : List (Nat × Nat)} {a b : Nat} {moves : Int32} {fr to : Nat → Int32} {post : Int32 → Prop} (hr : RV mv moves fr to) (hm : mv.length ≤ 60) (hv : ∀ k, k < mv.length → lA mv k < 1000 ∧ lB mv k < 1000) (ha : a < 1000) (hb : b < 1000)
    (h : post (rFst (fun k => decide (lA mv k = a) && decide (lB mv k = b)) mv.length)) : wp_X1_findMove (nI a) (nI b) moves fr to post := by
  obtain ⟨rfl, hr⟩ := hr
  unfold wp_X1_findMove
  refine up1 mv.length (by omega) (fun k => ∀ j, j < k → ¬ (decide (lA mv j = a) && decide (lB mv j = b)) = true) 0 (Nat.zero_le _) (fun j hj => absurd hj (Nat.not_lt_zero _)) (fun rec hI => ?_) (fun rec k hk hI go => ?_)
  · refine lpE ?_
    rw [rFst_none hI] at h
    exact h
  · unfold F_X1_findMove_2
    refine lpS hk (by omega) ⟨vp_in_nI (by omega) (by omega), ?_⟩
    obtain ⟨r1, r2⟩ := hr k hk
    obtain ⟨v1, v2⟩ := hv k hk
    rw [nI_clamp (by omega), r1, r2]
    refine ⟨fun q => go (fun j hj => ?_), fun q => ⟨vp_in_nI (by omega) (by omega), fun q2 => go (fun j hj => ?_), fun q2 => ?_⟩⟩
    · rcases Nat.lt_or_ge j k with z | z
      · exact hI j z
      · have : j = k := by omega
        subst this
        intro y
        rw [Bool.and_eq_true, decide_eq_true_eq, decide_eq_true_eq] at y
        exact q (by rw [y.1])
    · rcases Nat.lt_or_ge j k with z | z
      · exact hI j z
      · have : j = k := by omega
        subst this
        intro y
        rw [Bool.and_eq_true, decide_eq_true_eq, decide_eq_true_eq] at y
        exact q2 (by rw [y.2])
    · have e1 := (nI_eq (by omega) (by omega)).mp q
      have e2 := (nI_eq (by omega) (by omega)).mp q2
      rw [rFst_hit (k := k) (by rw [e1, e2]; simp) hI hk] at h
      exact h
theorem x1_firstMove {mv : List (Nat × Nat)} {a : Nat} {moves : Int32} {fr to : Nat → Int32} {post : Int32 → Prop} (hr : RV mv moves fr to) (hm : mv.length ≤ 60) (hv : ∀ k, k < mv.length → lA mv k < 1000 ∧ lB mv k < 1000) (ha : a < 1000)
    (h : post (rFst (fun k => decide (lA mv k = a)) mv.length)) : wp_X1_firstMove (nI a) moves fr post := by
  obtain ⟨rfl, hr⟩ := hr
  unfold wp_X1_firstMove
  refine up1 mv.length (by omega) (fun k => ∀ j, j < k → ¬ decide (lA mv j = a) = true) 0 (Nat.zero_le _) (fun j hj => absurd hj (Nat.not_lt_zero _)) (fun rec hI => ?_) (fun rec k hk hI go => ?_)
  · refine lpE ?_
    rw [rFst_none hI] at h
    exact h
  · unfold F_X1_firstMove_2
    refine lpS hk (by omega) ⟨vp_in_nI (by omega) (by omega), ?_⟩
    obtain ⟨r1, r2⟩ := hr k hk
    obtain ⟨v1, v2⟩ := hv k hk
    rw [nI_clamp (by omega), r1]
    refine ⟨fun q => go (fun j hj => ?_), fun q => ?_⟩
    · rcases Nat.lt_or_ge j k with z | z
      · exact hI j z
      · have : j = k := by omega
        subst this
        intro y
        rw [decide_eq_true_eq] at y
        exact q (by rw [y])
    · have e1 := (nI_eq (by omega) (by omega)).mp q
      rw [rFst_hit (k := k) (by rw [e1]; simp) hI hk] at h
      exact h
theorem x1_movesFrom {mv : List (Nat × Nat)} {a : Nat} {moves : Int32} {fr to : Nat → Int32} {post : Int32 → Prop} (hr : RV mv moves fr to) (hm : mv.length ≤ 60) (hv : ∀ k, k < mv.length → lA mv k < 1000 ∧ lB mv k < 1000) (ha : a < 1000)
    (h : post (nI (pCnt (fun k => decide (lA mv k = a)) mv.length))) : wp_X1_movesFrom (nI a) moves fr post := by
  obtain ⟨rfl, hr⟩ := hr
  unfold wp_X1_movesFrom
  refine up2 mv.length (by omega) (fun k z => z = nI (pCnt (fun k => decide (lA mv k = a)) k)) 0 _ (Nat.zero_le _) rfl (fun rec z hI => ?_) (fun rec k z hk hI go => ?_)
  · refine lpE ?_
    rw [hI]
    exact h
  · unfold F_X1_movesFrom_4
    refine lpS hk (by omega) ⟨vp_in_nI (by omega) (by omega), ?_⟩
    obtain ⟨r1, r2⟩ := hr k hk
    obtain ⟨v1, v2⟩ := hv k hk
    rw [nI_clamp (by omega), r1, hI]
    refine ⟨fun q => go _ ?_, fun q => go _ ?_⟩
    · simp only [pCnt]
      rw [if_neg (fun y => q (by rw [decide_eq_true_eq] at y; rw [y]))]
      rfl
    · simp only [pCnt]
      rw [if_pos (by rw [decide_eq_true_eq]; exact (nI_eq (by omega) (by omega)).mp q), nI_1]
theorem x1_movesTo {mv : List (Nat × Nat)} {a : Nat} {moves : Int32} {fr to : Nat → Int32} {post : Int32 → Prop} (hr : RV mv moves fr to) (hm : mv.length ≤ 60) (hv : ∀ k, k < mv.length → lA mv k < 1000 ∧ lB mv k < 1000) (ha : a < 1000)
    (h : post (nI (pCnt (fun k => decide (lB mv k = a)) mv.length))) : wp_X1_movesTo (nI a) moves to post := by
  obtain ⟨rfl, hr⟩ := hr
  unfold wp_X1_movesTo
  refine up2 mv.length (by omega) (fun k z => z = nI (pCnt (fun k => decide (lB mv k = a)) k)) 0 _ (Nat.zero_le _) rfl (fun rec z hI => ?_) (fun rec k z hk hI go => ?_)
  · refine lpE ?_
    rw [hI]
    exact h
  · unfold F_X1_movesTo_4
    refine lpS hk (by omega) ⟨vp_in_nI (by omega) (by omega), ?_⟩
    obtain ⟨r1, r2⟩ := hr k hk
    obtain ⟨v1, v2⟩ := hv k hk
    rw [nI_clamp (by omega), r2, hI]
    refine ⟨fun q => go _ ?_, fun q => go _ ?_⟩
    · simp only [pCnt]
      rw [if_neg (fun y => q (by rw [decide_eq_true_eq] at y; rw [y]))]
      rfl
    · simp only [pCnt]
      rw [if_pos (by rw [decide_eq_true_eq]; exact (nI_eq (by omega) (by omega)).mp q), nI_1]
theorem x1_greatestCall {pl : List (Nat × Nat)} {places odd : Int32} {calls : Nat → Int32} {post : Int32 → Prop} (hr : RP pl places odd calls) (hn : pl.length ≤ 20) (hc : ∀ u, lB pl u < 10) (h : post (nI (pMax (lB pl) pl.length))) : wp_X1_greatestCall places calls post := by
  obtain ⟨rfl, -, hr⟩ := hr
  unfold wp_X1_greatestCall
  refine up2 pl.length (by omega) (fun k z => z = nI (pMax (lB pl) k)) 0 _ (Nat.zero_le _) rfl (fun rec z hI => ?_) (fun rec k z hk hI go => ?_)
  · refine lpE ?_
    rw [hI]
    exact h
  · unfold F_X1_greatestCall_4
    refine lpS hk (by omega) ⟨vp_in_nI (by omega) (by omega), go _ ?_⟩
    rw [nI_clamp (by omega), hr k hk, hI]
    have h1 := pMax_le (f := lB pl) (b := 9) k (fun j _ => by have := hc j; omega)
    have h2 := hc k
    simp only [pMax]
    by_cases q : pMax (lB pl) k < lB pl k
    · rw [if_pos q, if_pos ((nI_ltI (by omega) (by omega)).mpr q)]
    · rw [if_neg q, if_neg (fun y => q ((nI_ltI (by omega) (by omega)).mp y))]
/-! the class's Game: changes -/
theorem upd_get {f : Nat → Int32} {k j : Nat} {x : Int32} : upd f k x j = if j = k then x else f j := by
  by_cases h : j = k
  · rw [if_pos h, h]; exact pk_us
  · rw [if_neg h]; exact pk_un h
theorem lA_app {l : List (Nat × Nat)} {q : Nat × Nat} {k : Nat} : lA (l ++ [q]) k = (if k = l.length then q.1 else lA l k) ∧ lB (l ++ [q]) k = (if k = l.length then q.2 else lB l k) := by
  unfold lA lB
  rw [List.getD_eq_getElem?_getD, List.getD_eq_getElem?_getD]
  rcases Nat.lt_trichotomy k l.length with h | h | h
  · rw [List.getElem?_append_left h, if_neg (by omega), if_neg (by omega)]; exact ⟨rfl, rfl⟩
  · subst h; rw [List.getElem?_append_right (Nat.le_refl _)]; simp
  · rw [List.getElem?_append_right (by omega), if_neg (by omega), if_neg (by omega), List.getElem?_eq_none (by simp; omega), List.getElem?_eq_none (by omega)]; exact ⟨rfl, rfl⟩
theorem x1_appendMove {mv : List (Nat × Nat)} {a b : Nat} {moves : Int32} {fr to : Nat → Int32} {post : Int32 → (Nat → Int32) → (Nat → Int32) → Prop} (hr : RV mv moves fr to) (hm : mv.length < 60)
    (h : ∀ m' f' t', RV (mv ++ [(a, b)]) m' f' t' → post m' f' t') : wp_X1_appendMove (nI a) (nI b) moves fr to post := by
  obtain ⟨rfl, hr⟩ := hr
  unfold wp_X1_appendMove
  have e60 : (60 : Int32) = nI 60 := rfl
  rw [e60]
  refine lpS hm (by omega) ⟨vp_in_nI (by omega) (by omega), vp_in_nI (by omega) (by omega), h _ _ _ ⟨by rw [nI_1, List.length_append]; rfl, fun k hk => ?_⟩⟩
  rw [List.length_append, List.length_singleton] at hk
  rw [nI_clamp (by omega), upd_get, upd_get, lA_app.1, lA_app.2]
  by_cases q : k = mv.length
  · rw [if_pos q, if_pos q, if_pos q, if_pos q]; exact ⟨rfl, rfl⟩
  · rw [if_neg q, if_neg q, if_neg q, if_neg q]; exact hr k (by omega)
theorem x1_appendPlace {pl : List (Nat × Nat)} {o c : Nat} {places odd : Int32} {calls : Nat → Int32} {post : Int32 → Int32 → (Nat → Int32) → Prop} (hr : RP pl places odd calls) (hn : pl.length < 20) (ho : o < 2)
    (h : ∀ p' o' c', RP (pl ++ [(o, c)]) p' o' c' → post p' o' c') : wp_X1_appendPlace (nI o) (nI c) places odd calls post := by
  obtain ⟨rfl, hr1, hr2⟩ := hr
  unfold wp_X1_appendPlace
  have e20 : (20 : Int32) = nI 20 := rfl
  rw [e20]
  refine lpS hn (by omega) ⟨vp_in_nI (by omega) (by omega), h _ _ _ ⟨by rw [nI_1, List.length_append]; rfl, fun u => ?_, fun k hk => ?_⟩⟩
  · rw [b_orI, b_diff, b_one (by omega), hr1, decide_eq_true_eq, List.length_append, List.length_singleton, lA_app.1]
    have hsh : bt (nI o <<< (nI pl.length &&& 31)) u = true ↔ (u = pl.length ∧ o = 1) := by
      rcases (show o = 0 ∨ o = 1 by omega) with e | e
      · subst e
        constructor
        · intro z
          have hu := b_lt z
          rw [b_shl pl.length (by omega) _ hu, show nI 0 = (0 : Int32) from rfl, b_0, Bool.and_false] at z
          cases z
        · rintro ⟨-, z⟩; cases z
      · subst e
        rw [show nI 1 = (1 : Int32) from rfl, b_one (by omega), decide_eq_true_eq]
        exact ⟨fun z => ⟨z, rfl⟩, fun z => z.1⟩
    rw [hsh]
    by_cases q : u = pl.length
    · rw [if_pos q]
      constructor
      · rintro (⟨z, -⟩ | z)
        · omega
        · exact ⟨by omega, z.2⟩
      · rintro ⟨-, z⟩
        exact Or.inr ⟨q, z⟩
    · rw [if_neg q]
      constructor
      · rintro (⟨z, -⟩ | z)
        · exact ⟨by omega, z.2⟩
        · exact absurd z.1 q
      · rintro ⟨z1, z2⟩
        exact Or.inl ⟨⟨by omega, z2⟩, q⟩
  · rw [List.length_append, List.length_singleton] at hk
    rw [nI_clamp (by omega), upd_get, lA_app.2]
    by_cases q : k = pl.length
    · rw [if_pos q, if_pos q]
    · rw [if_neg q, if_neg q]; exact hr2 k (by omega)
theorem lA_erase {l : List (Nat × Nat)} {d k : Nat} : lA (l.eraseIdx d) k = (if k < d then lA l k else lA l (k + 1)) ∧ lB (l.eraseIdx d) k = (if k < d then lB l k else lB l (k + 1)) := by
  unfold lA lB
  rw [List.getD_eq_getElem?_getD, List.getElem?_eraseIdx]
  by_cases h : k < d
  · rw [if_pos h, if_pos h, if_pos h, List.getD_eq_getElem?_getD]; exact ⟨rfl, rfl⟩
  · rw [if_neg h, if_neg h, if_neg h, List.getD_eq_getElem?_getD]; exact ⟨rfl, rfl⟩
theorem x1_dropMove {mv : List (Nat × Nat)} {d : Nat} {moves : Int32} {fr to : Nat → Int32} {post : Int32 → (Nat → Int32) → (Nat → Int32) → Prop} (hr : RV mv moves fr to) (hm : mv.length ≤ 60) (hd : d < mv.length)
    (h : ∀ m' f' t', RV (mv.eraseIdx d) m' f' t' → post m' f' t') : wp_X1_dropMove (nI d) moves fr to post := by
  obtain ⟨rfl, hr⟩ := hr
  obtain ⟨n, hn⟩ : ∃ n, mv.length = n + 1 := ⟨mv.length - 1, by omega⟩
  have hle : (mv.eraseIdx d).length = n := by rw [List.length_eraseIdx, if_pos hd, hn]; rfl
  unfold wp_X1_dropMove
  refine up3i n (by omega) (fun k f t => d ≤ k ∧ ∀ j, j < mv.length → f j = nI (if d ≤ j ∧ j < k then lA mv (j + 1) else lA mv j) ∧ t j = nI (if d ≤ j ∧ j < k then lB mv (j + 1) else lB mv j)) d _ _ (by omega)
    ⟨Nat.le_refl _, fun j hj => ?_⟩ (fun rec f t ⟨_, hI⟩ => ?_) (fun rec k f t hk ⟨hdk, hI⟩ go => ?_)
  · have e : ¬ (d ≤ j ∧ j < d) := by omega
    rw [if_neg e, if_neg e]; exact hr j hj
  · unfold F_X1_dropMove_2
    rw [hn, i_sub1]
    refine lpE (h _ _ _ ⟨by rw [hle], fun j hj => ?_⟩)
    rw [hle] at hj
    obtain ⟨a, b⟩ := hI j (by omega)
    rw [a, b, lA_erase.1, lA_erase.2]
    by_cases q : j < d
    · have e : ¬ (d ≤ j ∧ j < n) := by omega
      rw [if_neg e, if_neg e, if_pos q, if_pos q]; exact ⟨rfl, rfl⟩
    · have e : d ≤ j ∧ j < n := by omega
      rw [if_pos e, if_pos e, if_neg q, if_neg q]; exact ⟨rfl, rfl⟩
  · unfold F_X1_dropMove_2
    rw [hn, i_sub1]
    rw [nI_1, nI_clamp (show k < 2 ^ 31 by omega), nI_clamp (show k + 1 < 2 ^ 31 by omega)]
    refine lpS hk (by omega) ⟨vp_in_nI (by omega) (by omega), vp_in_nI (by omega) (by omega), vp_in_nI (by omega) (by omega), vp_in_nI (by omega) (by omega), ?_⟩
    rw [nI_1] at go
    refine go _ _ ⟨by omega, fun j hj => ?_⟩
    rw [upd_get, upd_get]
    obtain ⟨a, b⟩ := hI j hj
    by_cases q : j = k
    · subst q
      obtain ⟨a', b'⟩ := hI (j + 1) (by omega)
      have e1 : ¬ (d ≤ j + 1 ∧ j + 1 < j) := by omega
      rw [if_neg e1] at a' b'
      rw [if_pos rfl, if_pos rfl, a', b']
      by_cases z : d ≤ j
      · have e2 : d ≤ j ∧ j < j + 1 := by omega
        rw [if_pos e2, if_pos e2]; exact ⟨rfl, rfl⟩
      · exact absurd z (by omega)
    · rw [if_neg q, if_neg q, a, b]
      by_cases z : d ≤ j ∧ j < k
      · have e2 : d ≤ j ∧ j < k + 1 := by omega
        rw [if_pos z, if_pos e2, if_pos z, if_pos e2]; exact ⟨rfl, rfl⟩
      · have e2 : ¬ (d ≤ j ∧ j < k + 1) := by omega
        rw [if_neg z, if_neg e2, if_neg z, if_neg e2]; exact ⟨rfl, rfl⟩
