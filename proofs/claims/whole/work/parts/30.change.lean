/-! the class's Game: the other changes -/
theorem i_subp {a : Nat} (h : 0 < a) : nI a - 1 = nI (a - 1) := by
  obtain ⟨k, rfl⟩ : ∃ k, a = k + 1 := ⟨a - 1, by omega⟩
  exact i_sub1
theorem i_addm {k : Nat} : nI (k + 1) + (-1 : Int32) = nI k := by
  have h := i_sub1 (k := k)
  rw [Int32.sub_eq_add_neg] at h
  exact h
theorem lTake {l : List (Nat × Nat)} {k : Nat} (h : k < l.length) : l.take (k + 1) = l.take k ++ [l.getD k (0, 0)] := by
  rw [List.take_add_one, List.getD_eq_getElem?_getD, List.getElem?_eq_getElem h]
  rfl
/-- the moves without those of a place -/
def keepP (p : Nat) (q : Nat × Nat) : Bool := !(decide (q.1 = p)) && !(decide (q.2 = p))
theorem lFil {l : List (Nat × Nat)} {p k : Nat} (h : k < l.length) : (l.take (k + 1)).filter (keepP p) = (l.take k).filter (keepP p) ++ (if keepP p (l.getD k (0, 0)) = true then [l.getD k (0, 0)] else []) := by
  rw [lTake h, List.filter_append, List.filter_cons]
  split <;> rfl
theorem x1_dropMovesOf {mv : List (Nat × Nat)} {p : Nat} {moves : Int32} {fr to : Nat → Int32} {post : Int32 → (Nat → Int32) → (Nat → Int32) → Prop} (hr : RV mv moves fr to) (hm : mv.length ≤ 60) (hv : ∀ k, k < mv.length → lA mv k < 1000 ∧ lB mv k < 1000) (hp : p < 1000)
    (h : ∀ m' f' t', RV (mv.filter (keepP p)) m' f' t' → post m' f' t') : wp_X1_dropMovesOf (nI p) moves fr to post := by
  obtain ⟨rfl, hr⟩ := hr
  unfold wp_X1_dropMovesOf
  refine up4 mv.length (by omega) (fun k a f t => a = nI ((mv.take k).filter (keepP p)).length ∧ ((mv.take k).filter (keepP p)).length ≤ k ∧ (∀ j, j < ((mv.take k).filter (keepP p)).length → f j = nI (lA ((mv.take k).filter (keepP p)) j) ∧ t j = nI (lB ((mv.take k).filter (keepP p)) j)) ∧ ∀ j, k ≤ j → j < mv.length → f j = nI (lA mv j) ∧ t j = nI (lB mv j)) 0 _ _ _ (Nat.zero_le _)
    ⟨rfl, Nat.le_refl _, fun j hj => absurd hj (Nat.not_lt_zero _), fun j _ hj => hr j hj⟩ (fun rec a f t ⟨ha, _, hI, _⟩ => ?_) (fun rec k a f t hk ⟨ha, hle, hI, hJ⟩ go => ?_)
  · unfold F_X1_dropMovesOf_4
    rw [List.take_length] at ha hI
    exact lpE (h _ _ _ ⟨ha, hI⟩)
  · unfold F_X1_dropMovesOf_4
    obtain ⟨r1, r2⟩ := hJ k (Nat.le_refl _) hk
    obtain ⟨v1, v2⟩ := hv k hk
    have v1 : (mv.getD k (0, 0)).1 < 1000 := v1
    have v2 : (mv.getD k (0, 0)).2 < 1000 := v2
    rw [ha, nI_clamp (show k < 2 ^ 31 by omega), nI_clamp (show ((mv.take k).filter (keepP p)).length < 2 ^ 31 by omega), r1, r2]
    have no : ¬ keepP p (mv.getD k (0, 0)) = true → rec (nI ((mv.take k).filter (keepP p)).length) (nI k + 1) f t := fun q => go _ _ _ ⟨by rw [lFil hk, if_neg q, List.append_nil], by rw [lFil hk, if_neg q, List.append_nil]; omega, by rw [lFil hk, if_neg q, List.append_nil]; exact hI, fun j a b => hJ j (by omega) b⟩
    refine lpS hk (by omega) ⟨vp_in_nI (by omega) (by omega), fun q => no ?_, fun q => ⟨vp_in_nI (by omega) (by omega), fun q2 => no ?_, fun q2 => ?_⟩⟩
    · have e : (mv.getD k (0, 0)).1 = p := (nI_eq (by omega) (by omega)).mp q
      unfold keepP
      rw [decide_eq_true e, Bool.not_true, Bool.false_and]
      decide
    · have e : (mv.getD k (0, 0)).2 = p := (nI_eq (by omega) (by omega)).mp q2
      unfold keepP
      rw [decide_eq_true e, Bool.not_true, Bool.and_false]
      decide
    · have e1 : ¬ (mv.getD k (0, 0)).1 = p := fun y => q (congrArg nI y)
      have e2 : ¬ (mv.getD k (0, 0)).2 = p := fun y => q2 (congrArg nI y)
      have yes : keepP p (mv.getD k (0, 0)) = true := by
        unfold keepP
        rw [decide_eq_false e1, decide_eq_false e2]
        rfl
      refine ⟨vp_in_nI (by omega) (by omega), vp_in_nI (by omega) (by omega), vp_in_nI (by omega) (by omega), vp_in_nI (by omega) (by omega), go _ _ _ ?_⟩
      rw [lFil hk, if_pos yes, List.length_append, List.length_singleton]
      refine ⟨nI_1 _, by omega, fun j hj => ?_, fun j a b => ?_⟩
      · rw [upd_get, upd_get, lA_app.1, lA_app.2]
        by_cases z : j = ((mv.take k).filter (keepP p)).length
        · rw [if_pos z, if_pos z, if_pos z, if_pos z]; exact ⟨rfl, rfl⟩
        · rw [if_neg z, if_neg z, if_neg z, if_neg z]; exact hI j (by omega)
      · have z : ¬ j = ((mv.take k).filter (keepP p)).length := by omega
        rw [upd_get, upd_get, if_neg z, if_neg z]
        exact hJ j (by omega) b
/-- a place's number when p has gone -/
def dcN (p x : Nat) : Nat := if p < x then x - 1 else x
def dcP (p : Nat) (q : Nat × Nat) : Nat × Nat := (dcN p q.1, dcN p q.2)
theorem lMap {l : List (Nat × Nat)} {p k : Nat} (h : k < l.length) : lA (l.map (dcP p)) k = dcN p (lA l k) ∧ lB (l.map (dcP p)) k = dcN p (lB l k) := by
  unfold lA lB
  rw [List.getD_eq_getElem?_getD, List.getD_eq_getElem?_getD, List.getElem?_map, List.getElem?_eq_getElem h]
  exact ⟨rfl, rfl⟩
theorem x1_dropPlace {pl mv : List (Nat × Nat)} {p : Nat} {places odd moves : Int32} {calls fr to : Nat → Int32} {post : Int32 → Int32 → (Nat → Int32) → (Nat → Int32) → (Nat → Int32) → Prop} (hp : RP pl places odd calls) (hr : RV mv moves fr to) (hn : pl.length ≤ 20) (hm : mv.length ≤ 60) (hv : ∀ k, k < mv.length → lA mv k < 1000 ∧ lB mv k < 1000) (hd : p < pl.length)
    (h : ∀ p' o' c' f' t', RP (pl.eraseIdx p) p' o' c' → RV (mv.map (dcP p)) moves f' t' → post p' o' c' f' t') : wp_X1_dropPlace (nI p) places odd moves calls fr to post := by
  obtain ⟨rfl, hr⟩ := hr
  obtain ⟨rfl, hp1, hp2⟩ := hp
  obtain ⟨n, hN⟩ : ∃ n, pl.length = n + 1 := ⟨pl.length - 1, by omega⟩
  have hle : (pl.eraseIdx p).length = n := by rw [List.length_eraseIdx, if_pos hd, hN]; rfl
  unfold wp_X1_dropPlace
  refine up2i n (by omega) (fun k c => p ≤ k ∧ ∀ j, j < pl.length → c j = nI (if p ≤ j ∧ j < k then lB pl (j + 1) else lB pl j)) p _ (by omega) ⟨Nat.le_refl _, fun j hj => by rw [if_neg (by omega)]; exact hp2 j hj⟩ (fun rec c ⟨_, hI⟩ => ?_) (fun rec k c hk ⟨hpk, hI⟩ go => ?_)
  · unfold F_X1_dropPlace_2
    rw [hN, i_sub1]
    refine lpE ?_
    refine up3i mv.length (by omega) (fun k f t => ∀ j, j < mv.length → f j = nI (if j < k then dcN p (lA mv j) else lA mv j) ∧ t j = nI (if j < k then dcN p (lB mv j) else lB mv j)) 0 _ _ (Nat.zero_le _) (fun j hj => by rw [if_neg (Nat.not_lt_zero _), if_neg (Nat.not_lt_zero _)]; exact hr j hj) (fun rec f t hJ => ?_) (fun rec k f t hk hJ go => ?_)
    · unfold F_X1_dropPlace_71
      refine lpE (h _ _ _ _ _ ⟨by rw [hle], fun u => ?_, fun u hu => ?_⟩ ⟨by rw [List.length_map], fun k hk => ?_⟩)
      · have hs : bt ((odd.toUInt32 >>> ((1 : Int32).toUInt32 &&& Int32.toUInt32 31)).toInt32) u = bt odd (1 + u) := b_ushr 1 (by decide) odd u
        have ha : ∀ u, bt (((1 : Int32) <<< (nI p &&& 31)) - 1) u = decide (u < p) := fun u => b_all (by omega) u
        rw [b_orI, b_andI, ha, b_diff, hs, ha, hp1, hp1, hle, lA_erase.1, decide_eq_true_eq]
        by_cases z : u < p
        · rw [if_pos z]
          constructor
          · rintro (⟨⟨a, b⟩, _⟩ | ⟨_, b⟩)
            · exact ⟨by omega, b⟩
            · exact absurd z b
          · rintro ⟨a, b⟩
            exact Or.inl ⟨⟨by omega, b⟩, z⟩
        · rw [if_neg z, Nat.add_comm 1 u]
          constructor
          · rintro (⟨_, b⟩ | ⟨⟨a, b⟩, _⟩)
            · exact absurd b z
            · exact ⟨by omega, b⟩
          · rintro ⟨a, b⟩
            exact Or.inr ⟨⟨by omega, b⟩, z⟩
      · rw [hle] at hu
        rw [hI u (by omega), lA_erase.2]
        by_cases z : u < p
        · have e : ¬ (p ≤ u ∧ u < n) := by omega
          rw [if_neg e, if_pos z]
        · have e : p ≤ u ∧ u < n := by omega
          rw [if_pos e, if_neg z]
      · rw [List.length_map] at hk
        obtain ⟨a, b⟩ := hJ k hk
        rw [a, b, if_pos hk, if_pos hk, (lMap hk).1, (lMap hk).2]
        exact ⟨rfl, rfl⟩
    · unfold F_X1_dropPlace_71
      obtain ⟨r1, r2⟩ := hJ k hk
      rw [if_neg (Nat.lt_irrefl _)] at r1 r2
      obtain ⟨v1, v2⟩ := hv k hk
      rw [nI_clamp (show k < 2 ^ 31 by omega), r1, r2]
      have step : ∀ f' t' : Nat → Int32, (∀ j, j ≠ k → f' j = f j) → (∀ j, j ≠ k → t' j = t j) → f' k = nI (dcN p (lA mv k)) → t' k = nI (dcN p (lB mv k)) → rec (nI k + 1) f' t' := fun f' t' a b c d => go _ _ (fun j hj => by
        by_cases z : j = k
        · subst z
          rw [if_pos (Nat.lt_succ_self _), if_pos (Nat.lt_succ_self _)]
          exact ⟨c, d⟩
        · rw [a j z, b j z]
          obtain ⟨x, y⟩ := hJ j hj
          by_cases w : j < k
          · have w2 : j < k + 1 := by omega
            rw [if_pos w2, if_pos w2]
            rw [if_pos w] at x y
            exact ⟨x, y⟩
          · have w2 : ¬ j < k + 1 := by omega
            rw [if_neg w2, if_neg w2]
            rw [if_neg w] at x y
            exact ⟨x, y⟩)
      have le : ∀ {x : Nat}, x < 1000 → nI x ≤ nI p → dcN p x = x := fun hx q => if_neg (by have := (nI_leI (by omega) (by omega)).mp q; omega)
      have gt : ∀ {x : Nat}, x < 1000 → ¬ nI x ≤ nI p → nI x - 1 = nI (dcN p x) := fun {x} hx q => by
        have : p < x := Nat.lt_of_not_le fun y => q ((nI_leI (by omega) (by omega)).mpr y)
        unfold dcN
        rw [if_pos this, i_subp (by omega)]
      have hin : vp_in (nI k) 60 := vp_in_nI (by omega) (by omega)
      refine lpS hk (by omega) ⟨hin, fun q => ⟨hin, fun q2 => ?_, fun q2 => ⟨hin, hin, ?_⟩⟩, fun q => ⟨hin, hin, hin, fun q2 => ?_, fun q2 => ⟨hin, hin, ?_⟩⟩⟩
      · exact step _ _ (fun _ _ => rfl) (fun _ _ => rfl) (by rw [r1, le v1 q]) (by rw [r2, le v2 q2])
      · exact step _ _ (fun _ _ => rfl) (fun _ y => pk_un y) (by rw [r1, le v1 q]) (by rw [pk_us, gt v2 q2])
      · exact step _ _ (fun _ y => pk_un y) (fun _ _ => rfl) (by rw [pk_us, gt v1 q]) (by rw [r2, le v2 q2])
      · exact step _ _ (fun _ y => pk_un y) (fun _ y => pk_un y) (by rw [pk_us, gt v1 q]) (by rw [pk_us, gt v2 q2])
  · unfold F_X1_dropPlace_2
    rw [hN, i_sub1, nI_1, nI_clamp (show k < 2 ^ 31 by omega), nI_clamp (show k + 1 < 2 ^ 31 by omega)]
    rw [nI_1] at go
    refine lpS hk (by omega) ⟨vp_in_nI (by omega) (by omega), vp_in_nI (by omega) (by omega), go _ ⟨by omega, fun j hj => ?_⟩⟩
    rw [upd_get]
    by_cases z : j = k
    · subst z
      have e : ¬ (p ≤ j + 1 ∧ j + 1 < j) := by omega
      have e2 : p ≤ j ∧ j < j + 1 := by omega
      rw [if_pos rfl, hI (j + 1) (by omega), if_neg e, if_pos e2]
    · rw [if_neg z, hI j hj]
      by_cases y : p ≤ j ∧ j < k
      · have y2 : p ≤ j ∧ j < k + 1 := by omega
        rw [if_pos y, if_pos y2]
      · have y2 : ¬ (p ≤ j ∧ j < k + 1) := by omega
        rw [if_neg y, if_neg y2]
/-- a move brought to the front -/
def lFront (l : List (Nat × Nat)) (d : Nat) : List (Nat × Nat) := l.getD d (0, 0) :: l.eraseIdx d
theorem lA_front {l : List (Nat × Nat)} {d k : Nat} : lA (lFront l d) k = (if k = 0 then lA l d else if k ≤ d then lA l (k - 1) else lA l k) ∧ lB (lFront l d) k = (if k = 0 then lB l d else if k ≤ d then lB l (k - 1) else lB l k) := by
  cases k with
  | zero => exact ⟨rfl, rfl⟩
  | succ k =>
    have e := lA_erase (l := l) (d := d) (k := k)
    have z : ¬ k + 1 = 0 := by omega
    rw [if_neg z, if_neg z]
    show lA (l.eraseIdx d) k = _ ∧ lB (l.eraseIdx d) k = _
    rw [e.1, e.2]
    by_cases q : k < d
    · have q2 : k + 1 ≤ d := by omega
      rw [if_pos q, if_pos q, if_pos q2, if_pos q2]
      exact ⟨rfl, rfl⟩
    · have q2 : ¬ k + 1 ≤ d := by omega
      rw [if_neg q, if_neg q, if_neg q2, if_neg q2]
      exact ⟨rfl, rfl⟩
theorem lFront_len {l : List (Nat × Nat)} {d : Nat} (h : d < l.length) : (lFront l d).length = l.length := by
  unfold lFront
  rw [List.length_cons, List.length_eraseIdx, if_pos h]
  omega
theorem x1_bringToFront {mv : List (Nat × Nat)} {d : Nat} {moves : Int32} {fr to : Nat → Int32} {post : (Nat → Int32) → (Nat → Int32) → Prop} (hr : RV mv moves fr to) (hm : mv.length ≤ 60) (hd : d < mv.length)
    (h : ∀ f' t', RV (lFront mv d) moves f' t' → post f' t') : wp_X1_bringToFront (nI d) fr to post := by
  obtain ⟨rfl, hr⟩ := hr
  unfold wp_X1_bringToFront
  refine ⟨vp_in_nI (by omega) (by omega), vp_in_nI (by omega) (by omega), ?_⟩
  refine fx3_go (fun v f t => ∃ k, k ≤ d ∧ v = nI k ∧ ∀ j, j < mv.length → f j = nI (if k < j ∧ j ≤ d then lA mv (j - 1) else lA mv j) ∧ t j = nI (if k < j ∧ j ≤ d then lB mv (j - 1) else lB mv j)) (fun v _ _ => v.toNatClampNeg) ?_ _ _ _ ⟨d, Nat.le_refl _, rfl, fun j hj => by
    have e : ¬ (d < j ∧ j ≤ d) := by omega
    rw [if_neg e, if_neg e]; exact hr j hj⟩
  rintro rec v f t ⟨k, hk, rfl, hI⟩ hrec
  unfold F_X1_bringToFront_17
  have hcl : (nI k).toNatClampNeg = k := nI_clamp (by omega)
  refine ⟨fun q => ?_, fun q => ?_⟩
  · have e : k = 0 := by
      have := (nI_leI (a := k) (b := 0) (by omega) (by omega)).mp q
      omega
    subst e
    refine h _ _ ⟨by rw [lFront_len hd], fun j hj => ?_⟩
    rw [lFront_len hd] at hj
    rw [nI_clamp (show d < 2 ^ 31 by omega), upd_get, upd_get, lA_front.1, lA_front.2, (hr d hd).1, (hr d hd).2]
    by_cases z : j = 0
    · rw [if_pos z, if_pos z, if_pos z, if_pos z]; exact ⟨rfl, rfl⟩
    · rw [if_neg z, if_neg z, if_neg z, if_neg z]
      obtain ⟨a, b⟩ := hI j hj
      rw [a, b]
      by_cases y : j ≤ d
      · have y2 : 0 < j ∧ j ≤ d := by omega
        rw [if_pos y2, if_pos y2, if_pos y, if_pos y]; exact ⟨rfl, rfl⟩
      · have y2 : ¬ (0 < j ∧ j ≤ d) := by omega
        rw [if_neg y2, if_neg y2, if_neg y, if_neg y]; exact ⟨rfl, rfl⟩
  · obtain ⟨k, rfl⟩ : ∃ j, k = j + 1 := ⟨k - 1, by
      have : k ≠ 0 := fun e => q (by rw [e]; exact Int32.le_refl _)
      omega⟩
    rw [i_sub1, i_addm, nI_clamp (show k + 1 < 2 ^ 31 by omega), nI_clamp (show k < 2 ^ 31 by omega)]
    refine ⟨vp_in_nI (by omega) (by omega), vp_in_nI (by omega) (by omega), vp_in_nI (by omega) (by omega), vp_in_nI (by omega) (by omega), hrec _ _ _ ⟨k, by omega, rfl, fun j hj => ?_⟩ (by rw [nI_clamp (by omega), nI_clamp (by omega)]; omega)⟩
    rw [upd_get, upd_get]
    by_cases z : j = k + 1
    · subst z
      obtain ⟨a, b⟩ := hI k (by omega)
      have e : ¬ (k + 1 < k ∧ k ≤ d) := by omega
      have e2 : k < k + 1 ∧ k + 1 ≤ d := by omega
      rw [if_pos rfl, if_pos rfl, a, b, if_neg e, if_neg e, if_pos e2, if_pos e2]
      exact ⟨rfl, rfl⟩
    · rw [if_neg z, if_neg z]
      obtain ⟨a, b⟩ := hI j hj
      rw [a, b]
      by_cases y : k + 1 < j ∧ j ≤ d
      · have y2 : k < j ∧ j ≤ d := by omega
        rw [if_pos y, if_pos y, if_pos y2, if_pos y2]; exact ⟨rfl, rfl⟩
      · have y2 : ¬ (k < j ∧ j ≤ d) := by omega
        rw [if_neg y, if_neg y, if_neg y2, if_neg y2]; exact ⟨rfl, rfl⟩
/-- how often the calls were heard when the token is laid at p -/
def hdLay (pl : List (Nat × Nat)) (p : Nat) : Nat → Int32 := fun c => if c = lB pl p then 1 else 0
def hdStep (pl : List (Nat × Nat)) (p : Nat) (hd : Nat → Int32) : Nat → Int32 := fun c => if c = lB pl p then hd c + 1 else hd c
theorem x1_layAt {pl : List (Nat × Nat)} {p : Nat} {places odd : Int32} {calls heard : Nat → Int32} {post : Int32 → Int32 → (Nat → Int32) → Prop} (hp : RP pl places odd calls) (hn : pl.length ≤ 20) (hc : lB pl p < 10) (hd : p < pl.length)
    (h : ∀ t m h', RT p 0 (hdLay pl p) t m h' → post t m h') : wp_X1_layAt (nI p) calls heard post := by
  unfold wp_X1_layAt
  refine up2i 10 (by decide) (fun k c => ∀ j, j < k → c j = 0) 0 _ (Nat.zero_le _) (fun j hj => absurd hj (Nat.not_lt_zero _)) (fun rec c hI => ?_) (fun rec k c hk hI go => ?_)
  · unfold F_X1_layAt_12
    rw [nI_clamp (show p < 2 ^ 31 by omega), hp.2.2 p hd, nI_clamp (show lB pl p < 2 ^ 31 by omega)]
    refine lpE (e := 10) ⟨vp_in_nI (by omega) (by omega), vp_in_nI (by omega) (by omega), h _ _ _ ⟨rfl, rfl, fun c hc => ?_⟩⟩
    rw [upd_get]
    unfold hdLay
    by_cases z : c = lB pl p
    · rw [if_pos z, if_pos z]
    · rw [if_neg z, if_neg z]; exact hI c hc
  · unfold F_X1_layAt_12
    refine lpS (e := 10) hk (by decide) ⟨vp_in_nI hk (by decide), go _ (fun j hj => ?_)⟩
    rw [nI_clamp (by omega), upd_get]
    split
    · rfl
    · exact hI j (by omega)
theorem x1_step {pl mv : List (Nat × Nat)} {k tk : Nat} {md token made moves places odd : Int32} {hd : Nat → Int32} {calls fr to heard : Nat → Int32} {post : Int32 → Int32 → (Nat → Int32) → Prop} (hp : RP pl places odd calls) (hr : RV mv moves fr to) (ht : RT tk md hd token made heard) (hg : gOk0 pl mv) (hk : k < mv.length)
    (h : ∀ t m h', RT (lB mv k) (md + 1) (hdStep pl (lB mv k) hd) t m h' → post t m h') : wp_X1_step (nI k) made calls heard to post := by
  have hn := hg.1
  have hm := hg.2.1
  obtain ⟨g1, g2⟩ := gOk0_mv hg hk
  have hc := (gOk0_ow hg (lB mv k)).2
  unfold wp_X1_step
  rw [nI_clamp (show k < 2 ^ 31 by omega), (hr.2 k hk).2, nI_clamp (show lB mv k < 2 ^ 31 by omega), hp.2.2 _ g2, nI_clamp (show lB pl (lB mv k) < 2 ^ 31 by omega)]
  refine ⟨vp_in_nI (by omega) (by omega), vp_in_nI (by omega) (by omega), vp_in_nI (by omega) (by omega), vp_in_nI (by omega) (by omega), h _ _ _ ⟨rfl, by rw [ht.2.1], fun c hc2 => ?_⟩⟩
  rw [upd_get, ht.2.2 _ hc]
  unfold hdStep
  by_cases z : c = lB pl (lB mv k)
  · rw [if_pos z, if_pos z, z]
  · rw [if_neg z, if_neg z]; exact ht.2.2 c hc2
theorem x1_copy {g : gm} {places odd moves token made : Int32} {calls fr heard to calls0 fr0 heard0 to0 : Nat → Int32} {post : Int32 → Int32 → Int32 → Int32 → Int32 → (Nat → Int32) → (Nat → Int32) → (Nat → Int32) → (Nat → Int32) → Prop} (hg : g.1.length ≤ 20 ∧ g.2.1.length ≤ 60) (hr : RG g places odd moves token made calls fr heard to)
    (h : ∀ p' o' m' t' d' c' f' h' e', RG g p' o' m' t' d' c' f' h' e' → post p' o' m' t' d' c' f' h' e') : wp_X1_copy places odd moves token made calls fr heard to calls0 fr0 heard0 to0 post := by
  unfold wp_X1_copy
  obtain ⟨⟨a1, a2, a3⟩, ⟨b1, b2⟩, c1, c2, c3⟩ := hr
  refine h _ _ _ _ _ _ _ _ _ ⟨⟨a1, a2, fun u hu => ?_⟩, ⟨b1, fun k hk => ⟨?_, ?_⟩⟩, c1, c2, fun c hc => ?_⟩
  · rw [sb_cpy0 (by omega)]; exact a3 u hu
  · rw [sb_cpy0 (by omega)]; exact (b2 k hk).1
  · rw [sb_cpy0 (by omega)]; exact (b2 k hk).2
  · rw [sb_cpy0 hc]; exact c3 c hc
