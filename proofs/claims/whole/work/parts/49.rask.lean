/-! what is asked: the reference -/
section ASK6
variable {pl mv : List (Nat × Nat)} {a b c t0 t1 t2 t3 : Int32} {live measure now weight planned came rank : Nat → Int32}
  {post2 : Int32 → Int32 → Prop} {postR : Int32 → Int32 → (Nat → Int32) → Prop} {post3 : Int32 → Int32 → Int32 → (Nat → Int32) → (Nat → Int32) → (Nat → Int32) → Prop}
  {post4 : Int32 → Int32 → Int32 → (Nat → Int32) → (Nat → Int32) → (Nat → Int32) → (Nat → Int32) → Prop}
  {postY : Int32 → Int32 → Int32 → Int32 → Int32 → Int32 → (Nat → Int32) → (Nat → Int32) → (Nat → Int32) → (Nat → Int32) → (Nat → Int32) → Prop}
theorem x6_won (hg : gOk0 pl mv) (hp : RMp pl now) (hv : RMv mv now)
    (h1 : ¬ isN 2 a → post3 0 1 t0 live measure weight)
    (h : ∀ r t li me we, isN 2 a → (∀ u, bt r u = true ↔ gW pl mv allL (ix a) u) → post3 r 0 t li me we) : wp_X6_won a t0 live measure now weight post3 := by
  unfold wp_X6_won wp_X6_refuse wp_X6_told
  refine n6_in (n := 2) (by decide) (fun q => n6_no (h1 q)) (fun ha => n6_ye ?_)
  obtain ⟨i, hi, e⟩ := ha
  have hpost := fun r t li me we => h r t li me we ⟨i, hi, e⟩
  rw [e, ix_nI (by omega)] at hpost
  rw [e]
  exact x6_wonBy hi hg hp hv (fun r t li me we hr => hpost _ _ _ _ _ hr)
theorem x6_plan (hg : gOk0 pl mv) (hp : RMp pl now) (hv : RMv mv now)
    (h1 : ¬ isN pl.length a → post4 0 1 t0 live measure planned weight)
    (h : ∀ t li me pd we, isN pl.length a → post4 (plV pl mv (ix a)) 0 t li me pd we) : wp_X6_plan a t0 live measure now planned weight post4 := by
  have hn := hg.1
  unfold wp_X6_plan wp_X6_refuse wp_X6_told
  refine n6_place hp hn (fun q => n6_no (h1 q)) (fun ha => n6_ye ?_)
  obtain ⟨i, hi, e⟩ := ha
  have hpost := fun t li me pd we => h t li me pd we ⟨i, hi, e⟩
  rw [e, ix_nI (by omega)] at hpost
  rw [e]
  refine x6_plans hg hp hv (fun t li me pd we hpd => ⟨vp_in_nI (by omega) (by decide), ?_⟩)
  rw [nI_clamp (show i < 2 ^ 31 by omega), hpd i hi]
  exact hpost _ _ _ _ _
theorem x6_follow (hg : gOk0 pl mv) (hp : RMp pl now) (hv : RMv mv now)
    (h1 : ¬ isN pl.length a → post4 0 1 t0 live measure planned weight)
    (h2 : isN pl.length a → ¬ isN 1001 b → post4 0 2 t0 live measure planned weight)
    (h : ∀ t li me pd we, isN pl.length a → isN 1001 b → post4 (foV pl mv (ix a) (ix b)) 0 t li me pd we) : wp_X6_follow a b t0 live measure now planned weight post4 := by
  have hn := hg.1
  have hm := hg.2.1
  unfold wp_X6_follow wp_X6_refuse wp_X6_told
  refine n6_place hp hn (fun q => n6_no (h1 q)) (fun ha => n6_ye (n6_in (n := 1001) (by decide) (fun q => n6_no (h2 ha q)) (fun hb => n6_ye ?_)))
  obtain ⟨s, hs, e⟩ := ha
  obtain ⟨m, hm2, e2⟩ := hb
  have hpost := fun t li me pd we => h t li me pd we ⟨s, hs, e⟩ ⟨m, hm2, e2⟩
  rw [e, e2, ix_nI (by omega), ix_nI (by omega)] at hpost
  rw [e, e2]
  refine x6_plans hg hp hv (fun t li me pd we hpd => ?_)
  have hfin := hpost t li me pd we
  refine up2 m (by omega) (fun i v => (foGo pl mv s i ∧ v = nI (plTr pl mv s i)) ∨ (¬ foGo pl mv s m ∧ v = -1)) 0 _ (Nat.zero_le _) (Or.inl ⟨fun i hi => absurd hi (Nat.not_lt_zero _), rfl⟩) (fun rec v hI => ?_) (fun rec i v hi hI go => ?_)
  · unfold F_X6_follow_40
    refine lpE ?_
    rcases hI with ⟨x, y⟩ | ⟨x, y⟩
    · rw [y, ← foV_go x]; exact hfin
    · rw [y, ← foV_no x]; exact hfin
  · unfold F_X6_follow_40
    rcases hI with ⟨hI, rfl⟩ | ⟨x, rfl⟩
    · have hlt := foGo_lt hg hs i hI
      rw [nI_clamp (show plTr pl mv s i < 2 ^ 31 by omega), hpd _ hlt]
      refine lpS hi (by omega) ⟨fun q => absurd q (nI_m1 (by omega)), fun _ => ⟨vp_in_nI (by omega) (by decide), fun q => ⟨vp_in_nI (by omega) (by decide), ?_⟩, fun q => go _ (Or.inr ⟨fun y => y i hi q, rfl⟩)⟩⟩
      rcases plV_cases hg (plTr pl mv s i) with z | ⟨k, hk, _, e3⟩
      · exact absurd z q
      · have e4 : plTr pl mv s (i + 1) = lB mv k := by
          show plNx pl mv (plTr pl mv s i) = _
          unfold plNx
          rw [e3, nI_clamp (by omega)]
        rw [e3, ix105, nI_clamp (show 105 + k < 2 ^ 31 by omega), (hv.2 k hk).2]
        exact ⟨vp_in_nI (by omega) (by decide), go _ (Or.inl ⟨foGo_one hI q, by rw [e4]⟩)⟩
    · rw [foV_no x] at hfin
      exact lpS hi (by omega) ⟨fun _ => hfin, fun q => absurd rfl q⟩
theorem x6_play (hg : gOk0 pl mv) (hp : RMp pl now) (hv : RMv mv now)
    (h1 : ¬ isN pl.length a → postY 0 1 t0 t1 t2 t3 came live measure planned weight)
    (h2 : isN pl.length a → ¬ isN 3 b → postY 0 2 t0 t1 t2 t3 came live measure planned weight)
    (h : ∀ t ah ro lo cm li me pd we, isN pl.length a → isN 3 b → postY (pyV pl mv (ix a) (ix b)) 0 t ah ro lo cm li me pd we) : wp_X6_play a b t0 t1 t2 t3 came live measure now planned weight postY := by
  have hn := hg.1
  have hm := hg.2.1
  unfold wp_X6_play wp_X6_refuse wp_X6_told
  refine n6_place hp hn (fun q => n6_no (h1 q)) (fun ha => n6_ye (n6_in (n := 3) (by decide) (fun q => n6_no (h2 ha q)) (fun hb => n6_ye ?_)))
  obtain ⟨s, hs, e⟩ := ha
  obtain ⟨w, hw, e2⟩ := hb
  have hpost := fun t ah ro lo cm li me pd we => h t ah ro lo cm li me pd we ⟨s, hs, e⟩ ⟨w, hw, e2⟩
  rw [e, e2, ix_nI (by omega), ix_nI (by omega)] at hpost
  rw [e, e2]
  have w0 : nI w = (0 : Int32) ↔ w = 0 := nI_eq (b := 0) (by omega) (by decide)
  have w1 : nI w = (1 : Int32) ↔ w = 1 := nI_eq (b := 1) (by omega) (by decide)
  unfold pyV at hpost
  have key : ∀ (A R L : Int32) t cm li me pd we, A = pyA pl mv s → R = pyR pl mv s → L = pyL pl mv s → (¬ nI w = 0 → (¬ nI w = 1 → postY L 0 t A R L cm li me pd we) ∧ (nI w = 1 → postY R 0 t A R L cm li me pd we)) ∧ (nI w = 0 → postY A 0 t A R L cm li me pd we) := by
    intro A R L t cm li me pd we ea er el
    refine ⟨fun q => ⟨fun q2 => ?_, fun q2 => ?_⟩, fun q => ?_⟩
    · have := hpost t A R L cm li me pd we
      rw [if_neg (fun y => q (w0.mpr y)), if_neg (fun y => q2 (w1.mpr y)), ← el] at this
      exact this
    · have := hpost t A R L cm li me pd we
      rw [if_neg (fun y => q (w0.mpr y)), if_pos (w1.mp q2), ← er] at this
      exact this
    · have := hpost t A R L cm li me pd we
      rw [if_pos (w0.mp q), ← ea] at this
      exact this
  refine x6_plans hg hp hv (fun t li me pd we hpd => x6_plays hg hp hv hpd hs (fun j sn hj hjn hsn q => ?_) (fun j sn hj hjn hsn q => ?_))
  · have ej := pyEnd_eq hj
    refine key _ _ _ _ _ _ _ _ _ ?_ ?_ ?_
    · unfold pyA; rw [ej, if_pos q]
    · unfold pyR; rw [ej, if_pos q]
    · unfold pyL; rw [ej, if_pos q]
  · have ej := pyEnd_eq hj
    have hlt := plTr_lt hg hs j hj.1
    have hsn2 : ∀ u, u < pl.length → sn u = pySeen pl mv s u := fun u hu => pySeen_eq hj hsn u hu
    refine key _ _ _ _ _ _ _ _ _ ?_ ?_ ?_
    · unfold pyA; rw [ej, if_neg q]; exact hsn2 _ hlt
    · unfold pyR; rw [ej, if_neg q, hsn2 _ hlt]
    · unfold pyL; rw [ej, if_neg q, hsn2 _ hlt]; exact ldMax_congr pl.length hsn2
theorem x6_pull (hg : gOk0 pl mv) (hp : RMp pl now) (hv : RMv mv now)
    (h1 : ¬ (isN 2 a ∧ isS pl.length b) → postR 0 1 rank)
    (h : ∀ r rk, isN 2 a ∧ isS pl.length b → (∀ u, bt r u = true ↔ ∃ k, pIter (lA pl) (gEd mv) (ix a) (sB b) k u) → postR r 0 rk) : wp_X6_pull a b now rank postR := by
  unfold wp_X6_pull wp_X6_refuse wp_X6_told
  refine n6_in (n := 2) (by decide) (fun q => n6_no' (h1 (fun z => q z.1))) (fun ha => n6_ye' (n6_set hp hg.1 (fun q => n6_no (h1 (fun z => q z.2))) (fun hb => n6_ye ?_)))
  obtain ⟨i, hi, e⟩ := ha
  have hpost := fun r rk => h r rk ⟨⟨i, hi, e⟩, hb⟩
  rw [e, ix_nI (by omega)] at hpost
  rw [e]
  exact x6_pulls hg hp hv hi (fun u => Iff.rfl) hb (fun r rk hr _ => hpost _ _ hr)
theorem x6_pullIn (hg : gOk0 pl mv) (hp : RMp pl now) (hv : RMv mv now)
    (h1 : ¬ isN pl.length a → postR 0 1 rank)
    (h2 : isN pl.length a → ¬ (isN 2 b ∧ isS pl.length c) → postR 0 2 rank)
    (h : ∀ rk, isN pl.length a → isN 2 b ∧ isS pl.length c → postR (pDist pl mv (ix b) c (ix a)) 0 rk) : wp_X6_pullIn a b c now rank postR := by
  have hn := hg.1
  unfold wp_X6_pullIn wp_X6_refuse wp_X6_told
  refine n6_place hp hn (fun q => n6_no (h1 q)) (fun hq => n6_ye (n6_in (n := 2) (by decide) (fun q => n6_no' (h2 hq (fun z => q z.1))) (fun ha => n6_ye' (n6_set hp hn (fun q => n6_no (h2 hq (fun z => q z.2))) (fun hb => n6_ye ?_)))))
  obtain ⟨p, hpn, e0⟩ := hq
  obtain ⟨i, hi, e⟩ := ha
  have hpost := fun rk => h rk ⟨p, hpn, e0⟩ ⟨⟨i, hi, e⟩, hb⟩
  rw [e, e0, ix_nI (by omega), ix_nI (by omega)] at hpost
  rw [e, e0]
  refine x6_pulls hg hp hv hi (fun u => Iff.rfl) hb (fun r rk hr hrk => x6_has (by omega) (fun q => ⟨fun z => absurd z (by decide), fun _ => ⟨vp_in_nI (by omega) (by decide), ?_⟩⟩) (fun q => ⟨fun _ => ?_, fun z => absurd rfl z⟩))
  · obtain ⟨k, hk⟩ := (hr p).mp q
    have hleast : ∃ k, pIter (lA pl) (gEd mv) i (sB c) k p ∧ ∀ j, j < k → ¬ pIter (lA pl) (gEd mv) i (sB c) j p := by
      have key : ∀ n, (∃ k, k ≤ n ∧ pIter (lA pl) (gEd mv) i (sB c) k p) → ∃ k, pIter (lA pl) (gEd mv) i (sB c) k p ∧ ∀ j, j < k → ¬ pIter (lA pl) (gEd mv) i (sB c) j p := by
        intro n
        induction n with
        | zero => rintro ⟨k, hk, q⟩; exact ⟨k, q, fun j hj => by omega⟩
        | succ n ih =>
          rintro ⟨k, hk, q⟩
          by_cases z : ∃ k, k ≤ n ∧ pIter (lA pl) (gEd mv) i (sB c) k p
          · exact ih z
          · exact ⟨k, q, fun j hj y => z ⟨j, by omega, y⟩⟩
      exact key k ⟨k, Nat.le_refl _, hk⟩
    obtain ⟨k, hk, hno⟩ := hleast
    rw [nI_clamp (show p < 2 ^ 31 by omega), hrk p k hk hno, ← pDist_ye hk hno]
    exact hpost _
  · rw [← pDist_no (pl := pl) (mv := mv) (i := i) (x := c) (p := p) (fun k hk => q ((hr p).mpr ⟨k, hk⟩))]
    exact hpost _
theorem x6_stay (hg : gOk0 pl mv) (hp : RMp pl now) (hv : RMv mv now)
    (h1 : ¬ (isN 2 a ∧ isS pl.length b) → post2 0 1)
    (h : ∀ r, isN 2 a ∧ isS pl.length b → (∀ u, bt r u = true ↔ ∀ k, sIter (lA pl) (gEd mv) (ix a) (sB b) k u) → post2 r 0) : wp_X6_stay a b now post2 := by
  unfold wp_X6_stay wp_X6_refuse wp_X6_told
  refine n6_in (n := 2) (by decide) (fun q => n6_no' (h1 (fun z => q z.1))) (fun ha => n6_ye' (n6_set hp hg.1 (fun q => n6_no (h1 (fun z => q z.2))) (fun hb => n6_ye ?_)))
  obtain ⟨i, hi, e⟩ := ha
  have hpost := fun r => h r ⟨⟨i, hi, e⟩, hb⟩
  rw [e, ix_nI (by omega)] at hpost
  rw [e]
  exact x6_stays hg hp hv hi (fun u => Iff.rfl) hb (fun r hr => hpost _ hr)
theorem x6_comeBack (hg : gOk0 pl mv) (hp : RMp pl now) (hv : RMv mv now)
    (h1 : ¬ (isN 2 a ∧ isS pl.length b) → postR 0 1 rank)
    (h : ∀ r rk, isN 2 a ∧ isS pl.length b → (∀ u, bt r u = true ↔ ∀ k, cIter (lA pl) (gEd mv) (ix a) pl.length (sB b) k u) → postR r 0 rk) : wp_X6_comeBack a b now rank postR := by
  unfold wp_X6_comeBack wp_X6_refuse wp_X6_told
  refine n6_in (n := 2) (by decide) (fun q => n6_no' (h1 (fun z => q z.1))) (fun ha => n6_ye' (n6_set hp hg.1 (fun q => n6_no (h1 (fun z => q z.2))) (fun hb => n6_ye ?_)))
  obtain ⟨i, hi, e⟩ := ha
  have hpost := fun r rk => h r rk ⟨⟨i, hi, e⟩, hb⟩
  rw [e, ix_nI (by omega)] at hpost
  rw [e]
  exact x6_comesBack hg hp hv hi (fun u => Iff.rfl) hb (fun r rk hr => hpost _ _ hr)
theorem x6_isTrapV (hg : gOk0 pl mv) (hp : RMp pl now) (hv : RMv mv now)
    (h1 : ¬ (isN 2 a ∧ isS pl.length b) → post2 0 1)
    (h : isN 2 a ∧ isS pl.length b → post2 (tV pl mv (ix a) b) 0) : wp_X6_isTrap a b now post2 := by
  refine x6_isTrap hg hp hv (fun q => h1 (fun z => isN_no q z.1)) (fun q => h1 (fun z => q z.2)) (fun i hi e hs q => ?_) (fun i hi e hs q => ?_)
  · have hpost := h ⟨⟨i, hi, e⟩, hs⟩
    unfold tV at hpost
    rw [e, ix_nI (by omega), if_pos (pD_t.mpr q)] at hpost
    exact hpost
  · have hpost := h ⟨⟨i, hi, e⟩, hs⟩
    unfold tV at hpost
    rw [e, ix_nI (by omega), if_neg (fun y => q (pD_t.mp y))] at hpost
    exact hpost
theorem x6_canHear (hg : gOk0 pl mv) (hp : RMp pl now) (hv : RMv mv now)
    (h1 : ¬ (isN 2 a ∧ isN 10 b) → postR 0 1 rank)
    (h : ∀ r rk, isN 2 a ∧ isN 10 b → (∀ u, bt r u = true ↔ ∀ k, cIter (lA pl) (gEd mv) (ix a) pl.length (fun u => u < pl.length ∧ lB pl u = ix b) k u) → postR r 0 rk) : wp_X6_canHear a b now rank postR := by
  have hn := hg.1
  unfold wp_X6_canHear wp_X6_refuse wp_X6_told
  refine n6_in (n := 2) (by decide) (fun q => n6_no' (h1 (fun z => q z.1))) (fun ha => n6_ye' (n6_in (n := 10) (by decide) (fun q => n6_no (h1 (fun z => q z.2))) (fun hb => n6_ye ?_)))
  obtain ⟨i, hi, e⟩ := ha
  obtain ⟨c, hc, e2⟩ := hb
  have hpost := fun r rk => h r rk ⟨⟨i, hi, e⟩, ⟨c, hc, e2⟩⟩
  rw [e, e2, ix_nI (by omega), ix_nI (by omega)] at hpost
  rw [e, e2]
  refine up2 pl.length (by omega) (fun k x => ∀ u, bt x u = true ↔ u < k ∧ lB pl u = c) 0 _ (Nat.zero_le _) (fun u => by rw [b_0]; exact ⟨fun y => absurd y (by decide), fun y => absurd y.1 (Nat.not_lt_zero _)⟩) (fun rec x hI => ?_) (fun rec k x hk hI go => ?_)
  · unfold F_X6_canHear_30
    rw [hp.1]
    exact lpE (x6_comesBack hg hp hv hi hI (fun u q => q.1) (fun r rk hr => hpost _ _ hr))
  · unfold F_X6_canHear_30
    have hck := (gOk0_ow hg k).2
    rw [hp.1, ix24, nI_clamp (show 24 + k < 2 ^ 31 by omega), (hp.2 k hk).2]
    refine lpS hk (by omega) ⟨vp_in_nI (by omega) (by decide), fun q => go _ (fun u => ?_), fun q => go _ (fun u => ?_)⟩
    · rw [or0, hI u]
      have ne : ¬ lB pl k = c := fun y => q (by rw [y])
      exact (st_no (X := fun u => lB pl u = c) ne).symm
    · rw [b_setbit (by omega), hI u]
      have e3 : lB pl k = c := (nI_eq (by omega) (by omega)).mp q
      exact (st_yes (X := fun u => lB pl u = c) e3).symm
end ASK6
