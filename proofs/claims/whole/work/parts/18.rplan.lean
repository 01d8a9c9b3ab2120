/-! the reference's plan -/
theorem x6_has {x : Int32} {u : Nat} {post : Int32 → Prop} (hu : u < 32) (h1 : bt x u = true → post 1) (h0 : ¬ bt x u = true → post 0) : wp_X6_has x (nI u) post := by
  have hb1 : ∀ j, j < 32 → bt 1 j = decide (j = 0) := by decide +kernel
  have hb : ∀ j, j < 32 → bt ((x >>> (nI u &&& 31)) &&& (1 : Int32)) j = (decide (j = 0) && bt x u) := by
    intro j hj
    rw [b_and, b_sshr u hu x hj, hb1 j hj]
    by_cases z : j = 0
    · subst z
      rw [if_pos (by omega), Nat.add_zero]
      cases bt x u <;> rfl
    · rw [decide_eq_false z, Bool.and_false, Bool.false_and]
  have e : ((x >>> (nI u &&& 31)) &&& (1 : Int32)) = 1 ↔ bt x u = true := by
    constructor
    · intro h
      have h2 := hb 0 (by decide)
      rw [h, hb1 0 (by decide)] at h2
      cases hx : bt x u
      · rw [hx] at h2; exact absurd h2 (by decide)
      · rfl
    · intro h
      refine b_ext (fun j hj => ?_)
      rw [hb j hj, h, hb1 j hj, Bool.and_true]
  unfold wp_X6_has
  exact ⟨fun q => h0 (fun z => q (e.mpr z)), fun q => h1 (e.mp q)⟩
theorem x6_looksAtAll {m : Nat} {live now : Nat → Int32} {post : (Nat → Int32) → Prop} (hm : m ≤ 60) (h1 : now 1 = nI m) (h : ∀ l', mLive m allL l' → post l') : wp_X6_looksAtAll live now post := by
  unfold wp_X6_looksAtAll
  refine up2i m (by omega) (fun k l => ∀ j, j < k → l j = 1) 0 _ (Nat.zero_le _) (fun j hj => absurd hj (Nat.not_lt_zero _)) (fun rec l hI => ?_) (fun rec k l hk hI go => ?_)
  · unfold F_X6_looksAtAll_2
    rw [h1]
    exact lpE (h _ (fun k hk => by rw [hI k hk]; rfl))
  · unfold F_X6_looksAtAll_2
    rw [h1, nI_clamp (by omega)]
    refine lpS hk (by omega) ⟨vp_in_nI (by omega) (by omega), go _ (fun j hj => ?_)⟩
    rw [upd_get]
    split
    · rfl
    · exact hI j (by omega)
theorem x6_only {mv : List (Nat × Nat)} {lv : Nat → Bool} {p k : Nat} {live now : Nat → Int32} {post : (Nat → Int32) → Prop} (hm : mv.length ≤ 60) (hf : ∀ j, j < mv.length → lA mv j < 1000) (hp : p < 1000) (hk : k < 1000) (hv : RMv mv now) (hl : mLive mv.length lv live) (h : ∀ l', mLive mv.length (lvO mv lv p k) l' → post l') : wp_X6_only (nI p) (nI k) live now post := by
  obtain ⟨h1, hv⟩ := hv
  unfold wp_X6_only
  refine up2i mv.length (by omega) (fun j l => ∀ q, q < mv.length → l q = if q < j then (if lvO mv lv p k q = true then 1 else 0) else (if lv q = true then 1 else 0)) 0 _ (Nat.zero_le _) (fun q hq => by rw [if_neg (Nat.not_lt_zero _)]; exact hl q hq) (fun rec l hI => ?_) (fun rec j l hj hI go => ?_)
  · unfold F_X6_only_2
    rw [h1]
    exact lpE (h _ (fun q hq => by rw [hI q hq, if_pos hq]))
  · unfold F_X6_only_2
    rw [h1, ix44, nI_clamp (show 44 + j < 2 ^ 31 by omega), nI_clamp (show j < 2 ^ 31 by omega), (hv j hj).1]
    have hfj := hf j hj
    have step : ∀ (l' : Nat → Int32), (∀ q, q ≠ j → l' q = l q) → l' j = (if lvO mv lv p k j = true then 1 else 0) → ∀ q, q < mv.length → l' q = if q < j + 1 then (if lvO mv lv p k q = true then 1 else 0) else (if lv q = true then 1 else 0) := by
      intro l' a b q hq
      by_cases z : q = j
      · subst z
        rw [b, if_pos (Nat.lt_succ_self _)]
      · rw [a q z, hI q hq]
        by_cases y : q < j
        · have y2 : q < j + 1 := by omega
          rw [if_pos y, if_pos y2]
        · have y2 : ¬ q < j + 1 := by omega
          rw [if_neg y, if_neg y2]
    refine lpS hj (by omega) ⟨vp_in_nI (by omega) (by omega), fun q => go _ (step _ (fun _ _ => rfl) ?_), fun q => ⟨fun z => ⟨vp_in_nI (by omega) (by omega), go _ (step _ (fun _ y => pk_un y) ?_)⟩, fun z => ⟨vp_in_nI (by omega) (by omega), go _ (step _ (fun _ y => pk_un y) ?_)⟩⟩⟩
    · have e : ¬ lA mv j = p := fun z => q (by rw [z])
      unfold lvO
      rw [hI j hj, if_neg (Nat.lt_irrefl _), if_neg e]
    · have e : lA mv j = p := (nI_eq (by omega) (by omega)).mp q
      have e2 : ¬ j = k := fun y => z (by rw [y])
      unfold lvO
      rw [pk_us, if_pos e, decide_eq_false e2]
      rfl
    · have e : lA mv j = p := (nI_eq (by omega) (by omega)).mp q
      have e2 : j = k := (nI_eq (by omega) (by omega)).mp z
      unfold lvO
      rw [pk_us, if_pos e, decide_eq_true e2]
      rfl
theorem x6_firstMove {mv : List (Nat × Nat)} {a : Nat} {now : Nat → Int32} {post : Int32 → Prop} (hr : RMv mv now) (hm : mv.length ≤ 60) (hv : ∀ k, k < mv.length → lA mv k < 1000) (ha : a < 1000)
    (h : post (rFst (fun k => decide (lA mv k = a)) mv.length)) : wp_X6_firstMove (nI a) now post := by
  obtain ⟨h1, hr⟩ := hr
  unfold wp_X6_firstMove
  refine up1 mv.length (by omega) (fun k => ∀ j, j < k → ¬ decide (lA mv j = a) = true) 0 (Nat.zero_le _) (fun j hj => absurd hj (Nat.not_lt_zero _)) (fun rec hI => ?_) (fun rec k hk hI go => ?_)
  · unfold F_X6_firstMove_2
    rw [h1]
    refine lpE ?_
    rw [rFst_none hI] at h
    exact h
  · unfold F_X6_firstMove_2
    rw [h1, ix44, nI_clamp (show 44 + k < 2 ^ 31 by omega), (hr k hk).1]
    have v1 := hv k hk
    refine lpS hk (by omega) ⟨vp_in_nI (by omega) (by omega), fun q => go (fun j hj => ?_), fun q => ?_⟩
    · rcases Nat.lt_or_ge j k with z | z
      · exact hI j z
      · have : j = k := by omega
        subst this
        intro y
        rw [decide_eq_true_eq] at y
        exact q (by rw [y])
    · have e1 := (nI_eq (by omega) (by omega)).mp q
      rw [rFst_hit (k := k) (by rw [e1]; simp) hI hk] at h
      exact h
theorem x6_solved {pl mv : List (Nat × Nat)} {lv : Nat → Bool} {live measure now weight : Nat → Int32} {post : Int32 → Int32 → (Nat → Int32) → (Nat → Int32) → Prop} (hg : gOk0 pl mv) (hp : RMp pl now) (hv : RMv mv now) (hl : mLive mv.length lv live)
    (h : ∀ (r t : Int32) (me we : Nat → Int32), (∀ u, bt r u = true ↔ gW pl mv lv 0 u) → post r t me we) : wp_X6_solved live measure now weight post := solved_ok (mdOk_of hg hp hv) hl h
theorem x6_wonByEven {pl mv : List (Nat × Nat)} {live measure now weight : Nat → Int32} {post : Int32 → Int32 → (Nat → Int32) → (Nat → Int32) → (Nat → Int32) → Prop} (hg : gOk0 pl mv) (hp : RMp pl now) (hv : RMv mv now)
    (h : ∀ (r t : Int32) (li me we : Nat → Int32), (∀ u, bt r u = true ↔ gW pl mv allL 0 u) → post r t li me we) : wp_X6_wonByEven live measure now weight post := by
  unfold wp_X6_wonByEven
  exact x6_looksAtAll hg.2.1 hv.1 (fun l' hl => x6_solved hg hp hv hl (fun r t me we hr => h r t l' me we hr))
/-- what is left: the other player's -/
theorem gW_rest {pl mv : List (Nat × Nat)} {lv : Nat → Bool} {z q : Int32} (hg : gOk0 pl mv) (hq : q = nI pl.length) (hz : ∀ u, bt z u = true ↔ gW pl mv lv 0 u) (u : Nat) : bt ((((1 : Int32) <<< (q &&& 31)) - (1 : Int32)) &&& (z ^^^ (-1 : Int32))) u = true ↔ gW pl mv lv 1 u := by
  rw [b_diff, hq, b_all hg.1, decide_eq_true_eq, hz]
  exact ⟨fun q => (gW_det hg q.1).mp q.2, fun q => ⟨q.1, (gW_det hg q.1).mpr q⟩⟩
theorem x6_wonBy {pl mv : List (Nat × Nat)} {i : Nat} {live measure now weight : Nat → Int32} {post : Int32 → Int32 → (Nat → Int32) → (Nat → Int32) → (Nat → Int32) → Prop} (hi : i < 2) (hg : gOk0 pl mv) (hp : RMp pl now) (hv : RMv mv now)
    (h : ∀ (r t : Int32) (li me we : Nat → Int32), (∀ u, bt r u = true ↔ gW pl mv allL i u) → post r t li me we) : wp_X6_wonBy (nI i) live measure now weight post := by
  unfold wp_X6_wonBy
  refine x6_wonByEven hg hp hv (fun r t li me we hr => ⟨fun q => ?_, fun q => ?_⟩)
  · have e : i = 1 := by
      rcases (show i = 0 ∨ i = 1 by omega) with e | e
      · subst e; exact absurd rfl q
      · exact e
    subst e
    unfold wp_X6_all
    exact h _ _ _ _ _ (gW_rest hg hp.1 hr)
  · have e : i = 0 := by
      rcases (show i = 0 ∨ i = 1 by omega) with e | e
      · exact e
      · subst e; exact absurd q (by decide)
    subst e
    exact h _ _ _ _ _ hr
theorem plansFor_ok {pl mv : List (Nat × Nat)} {i : Nat} {mine top : Int32} {live measure now planned weight : Nat → Int32} {post : Int32 → (Nat → Int32) → (Nat → Int32) → (Nat → Int32) → (Nat → Int32) → Prop} (hi : i < 2) (hg : gOk0 pl mv) (hp : RMp pl now) (hv : RMv mv now) (hmine : ∀ u, bt mine u = true ↔ gW pl mv allL i u)
    (h : ∀ (t : Int32) (li me pd we : Nat → Int32), (∀ u, gW pl mv allL i u → lA pl u = i → pd u = plV pl mv u) → (∀ u, ¬ (gW pl mv allL i u ∧ lA pl u = i) → pd u = planned u) → post t li me pd we) : wp_X6_plansFor (nI i) mine top live measure now planned weight post := by
  have hn := hg.1
  have hm := hg.2.1
  have hfl : ∀ j, j < mv.length → lA mv j < 1000 := fun j hj => by have := (gOk0_mv hg hj).1; omega
  unfold wp_X6_plansFor
  refine x6_looksAtAll hm hv.1 (fun l0 hl0 => ?_)
  refine fx6_go (fun v3 _ li _ pd _ => ∃ p, p ≤ pl.length ∧ v3 = nI p ∧ mLive mv.length (plLv pl mv i p) li ∧ (∀ u, u < p → gW pl mv allL i u → lA pl u = i → pd u = plV pl mv u) ∧ ∀ u, ¬ (u < p ∧ gW pl mv allL i u ∧ lA pl u = i) → pd u = planned u) (fun v3 _ _ _ _ _ => pl.length - v3.toNatClampNeg) ?_ _ _ _ _ _ _ ⟨0, Nat.zero_le _, rfl, hl0, fun u hu => absurd hu (Nat.not_lt_zero _), fun _ _ => rfl⟩
  rintro rec v3 t li me pd we ⟨p, hpn, rfl, hl, hd1, hd2⟩ hrec
  unfold F_X6_plansFor_6
  have hcl : (nI p).toNatClampNeg = p := nI_clamp (by omega)
  rw [hp.1]
  rcases Nat.lt_or_ge p pl.length with q | q
  rotate_left
  · have e : p = pl.length := by omega
    subst e
    refine lpE (h _ _ _ _ _ (fun u a b => hd1 u a.1 a b) (fun u a => hd2 u (fun z => a z.2)))
  rw [ix4, nI_clamp (show 4 + p < 2 ^ 31 by omega), (hp.2 p q).1]
  have hop := (gOk0_ow hg p).1
  have no : ¬ (lA pl p = i ∧ gW pl mv allL i p) → rec (nI p + 1) t li me pd we := fun z => hrec _ _ _ _ _ _ ⟨p + 1, by omega, nI_1 p, by rw [plLv_no z]; exact hl, fun u a b c => by
      rcases Nat.lt_or_ge u p with y | y
      · exact hd1 u y b c
      · have : u = p := by omega
        subst this
        exact absurd ⟨c, b⟩ z, fun u a => hd2 u (fun y => a ⟨by omega, y.2⟩)⟩ (by rw [nI_1, nI_clamp (by omega), hcl]; omega)
  refine lpS q (by omega) ⟨vp_in_nI (by omega) (by omega), fun z => no (fun y => z (by rw [y.1])), fun z => ?_⟩
  have ho : lA pl p = i := (nI_eq (by omega) (by omega)).mp z
  refine x6_has (by omega) (fun hb => ⟨fun y => absurd y (by decide), fun _ => ?_⟩) (fun hb => ⟨fun _ => no (fun y => hb ((hmine p).mpr y.2)), fun y => absurd rfl y⟩)
  have hw := (hmine p).mp hb
  obtain ⟨hK, f2, f3⟩ := plLv_at hg ho hw
  have hI := plInv_lv hg i p
  generalize hlv : plLv pl mv i p = lv at *
  generalize hKe : plK pl mv i lv p = K at *
  have out : ∀ (t : Int32) (li me pd' we : Nat → Int32), mLive mv.length (lvO mv lv p K) li → pd' p = nI K → (∀ u, u ≠ p → pd' u = pd u) → rec (nI p + 1) t li me pd' we := fun t li me pd' we a b c => by
    refine hrec _ _ _ _ _ _ ⟨p + 1, by omega, nI_1 p, by rw [f2]; exact a, fun u y1 y2 y3 => ?_, fun u y => ?_⟩ (by rw [nI_1, nI_clamp (by omega), hcl]; omega)
    · by_cases y : u = p
      · rw [y, b, f3]
      · rw [c u y]; exact hd1 u (by omega) y2 y3
    · have : u ≠ p := fun e => y (by rw [e]; exact ⟨by omega, hw, ho⟩)
      rw [c u this]
      exact hd2 u (fun x => y ⟨by omega, x.2⟩)
  refine fx7_go (fun v4 v5 _ li _ pd' _ => ∃ k, k ≤ mv.length ∧ v5 = nI k ∧ (∀ u, u ≠ p → pd' u = pd u) ∧ ((v4 = 0 ∧ k ≤ K ∧ ∃ lvx, mLive mv.length lvx li ∧ ∀ j, lvO mv lvx p j = lvO mv lv p j) ∨ (v4 = 1 ∧ mLive mv.length (lvO mv lv p K) li ∧ pd' p = nI K))) (fun _ v5 _ _ _ _ _ => mv.length - v5.toNatClampNeg) ?_ _ _ _ _ _ _ _ ⟨0, Nat.zero_le _, rfl, fun _ _ => rfl, Or.inl ⟨rfl, Nat.zero_le _, lv, hl, fun _ => rfl⟩⟩
  rintro rec2 v4 v5 t li me pd' we ⟨k, hk, rfl, hpd, hor⟩ hrec2
  unfold F_X6_plansFor_42
  have hclk : (nI k).toNatClampNeg = k := nI_clamp (by omega)
  rw [hv.1]
  rcases hor with ⟨rfl, hkK, lvx, hlx, hxx⟩ | ⟨rfl, hlx, hpp⟩
  rotate_left
  · rcases Nat.lt_or_ge k mv.length with y | y
    · exact lpS y (by omega) ⟨fun _ => out _ _ _ _ _ hlx hpp hpd, fun y2 => absurd y2 (by decide)⟩
    · have e : k = mv.length := by omega
      subst e
      exact lpE (out _ _ _ _ _ hlx hpp hpd)
  have hkm : k < mv.length := by have := hK.1; omega
  rw [ix44, nI_clamp (show 44 + k < 2 ^ 31 by omega), (hv.2 k hkm).1, hcl]
  have hfk := hfl k hkm
  have next : ¬ (lA mv k = p ∧ plOk pl mv i lv p k) → k + 1 ≤ K := fun q => by
    rcases Nat.lt_or_ge k K with z | z
    · exact z
    · have : k = K := by omega
      subst this
      exact absurd ⟨hK.2.1, hK.2.2.1⟩ q
  refine lpS hkm (by omega) ⟨fun y => absurd rfl y, fun _ => ⟨vp_in_nI (by omega) (by omega), fun y => ?_, fun y => ?_⟩⟩
  · exact hrec2 _ _ _ _ _ _ _ ⟨k + 1, by omega, nI_1 k, hpd, Or.inl ⟨rfl, next (fun z => y (by rw [z.1])), lvx, hlx, hxx⟩⟩ (by rw [nI_1, nI_clamp (by omega), hclk]; omega)
  have e : lA mv k = p := (nI_eq (by omega) (by omega)).mp y
  refine x6_only hm hfl (by omega) (by omega) hv hlx (fun l' hl' => ?_)
  rw [hxx k] at hl'
  refine x6_solved hg hp hv hl' (fun r t2 me2 we2 hr => ?_)
  have hpd2 : ∀ u, u ≠ p → upd pd' p (nI k) u = pd u := fun u x => by rw [upd_get, if_neg x]; exact hpd u x
  have fin : ∀ still : Int32, (∀ u, bt still u = true ↔ gW pl mv (lvO mv lv p k) i u) → (¬ mine &&& (still ^^^ (-1 : Int32)) = 0 → vp_in (nI p) 20 ∧ rec2 0 (nI k + 1) t2 l' me2 (upd pd' p (nI k)) we2) ∧ (mine &&& (still ^^^ (-1 : Int32)) = 0 → vp_in (nI p) 20 ∧ rec2 1 (nI k + 1) t2 l' me2 (upd pd' p (nI k)) we2) := by
    intro still hs
    refine ⟨fun x => ⟨vp_in_nI (by omega) (by omega), ?_⟩, fun x => ⟨vp_in_nI (by omega) (by omega), ?_⟩⟩
    · refine hrec2 _ _ _ _ _ _ _ ⟨k + 1, by omega, nI_1 k, hpd2, Or.inl ⟨rfl, next (fun w => x (b_sub0.mpr fun u hu => (hs u).mpr (w.2 u ((hmine u).mp hu)))), _, hl', fun j => lvO_twice⟩⟩ (by rw [nI_1, nI_clamp (by omega), hclk]; omega)
    · have ok : plOk pl mv i lv p k := fun u hu => (hs u).mp (b_sub0.mp x u ((hmine u).mpr hu))
      have ek : k = K := by
        rcases Nat.lt_or_ge k K with w | w
        · exact absurd ok (hK.2.2.2 k w e)
        · omega
      refine hrec2 _ _ _ _ _ _ _ ⟨k + 1, by omega, nI_1 k, hpd2, Or.inr ⟨rfl, by rw [← ek]; exact hl', by rw [← ek, pk_us]⟩⟩ (by rw [nI_1, nI_clamp (by omega), hclk]; omega)
  refine ⟨fun x => ?_, fun x => ?_⟩
  · have e1 : i = 1 := by
      rcases (show i = 0 ∨ i = 1 by omega) with w | w
      · subst w; exact absurd rfl x
      · exact w
    unfold wp_X6_all
    exact fin _ (fun u => by rw [e1]; exact gW_rest hg hp.1 hr u)
  · have e1 : i = 0 := by
      rcases (show i = 0 ∨ i = 1 by omega) with w | w
      · exact w
      · subst w; exact absurd x (by decide)
    exact fin _ (fun u => by rw [e1]; exact hr u)
theorem x6_plans {pl mv : List (Nat × Nat)} {live measure now planned weight : Nat → Int32} {post : Int32 → (Nat → Int32) → (Nat → Int32) → (Nat → Int32) → (Nat → Int32) → Prop} (hg : gOk0 pl mv) (hp : RMp pl now) (hv : RMv mv now)
    (h : ∀ (t : Int32) (li me pd we : Nat → Int32), (∀ u, u < pl.length → pd u = plV pl mv u) → post t li me pd we) : wp_X6_plans live measure now planned weight post := by
  have hn := hg.1
  have hm := hg.2.1
  have hfl : ∀ j, j < mv.length → lA mv j < 1000 := fun j hj => by have := (gOk0_mv hg hj).1; omega
  unfold wp_X6_plans
  refine x6_wonByEven hg hp hv (fun r t li me we hr => ?_)
  refine up2i pl.length (by omega) (fun p pd => ∀ u, u < p → pd u = rFst (fun k => decide (lA mv k = u)) mv.length) 0 _ (Nat.zero_le _) (fun u hu => absurd hu (Nat.not_lt_zero _)) (fun rec pd hI => ?_) (fun rec p pd hpn hI go => ?_)
  · unfold F_X6_plans_7
    rw [hp.1]
    refine lpE (plansFor_ok (i := 0) (by decide) hg hp hv hr (fun t1 li1 me1 pd1 we1 a1 b1 => ?_))
    unfold wp_X6_all
    refine plansFor_ok (i := 1) (by decide) hg hp hv (gW_rest hg hp.1 hr) (fun t2 li2 me2 pd2 we2 a2 b2 => h _ _ _ _ _ (fun u hu => ?_))
    rcases (show lA pl u = 0 ∨ lA pl u = 1 by have := (gOk0_ow hg u).1; omega) with e | e
    · rw [b2 u (fun z => by rw [e] at z; exact absurd z.2 (by decide))]
      by_cases w : gW pl mv allL 0 u
      · exact a1 u w e
      · rw [b1 u (fun z => w z.1), hI u hu, plV_no (by rw [e]; exact w)]
    · by_cases w : gW pl mv allL 1 u
      · exact a2 u w e
      · rw [b2 u (fun z => w z.1), b1 u (fun z => by rw [e] at z; exact absurd z.2 (by decide)), hI u hu, plV_no (by rw [e]; exact w)]
  · unfold F_X6_plans_7
    rw [hp.1]
    refine lpS hpn (by omega) (x6_firstMove hv hm hfl (by omega) ⟨vp_in_nI (by omega) (by omega), go _ (fun u hu => ?_)⟩)
    rw [nI_clamp (by omega), upd_get]
    by_cases z : u = p
    · rw [if_pos z, z]
    · rw [if_neg z]; exact hI u (by omega)
