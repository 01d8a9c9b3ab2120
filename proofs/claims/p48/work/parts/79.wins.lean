/-! the law's wins -/
section WINSL
variable {pl mv : List (Nat × Nat)} {g : gm} {hs : List gm} {a b c bp ba places odd moves token made first kept zero zk ck : Int32} {calls fr heard to calling next owned chosen seenAt : Nat → Int32} {rp ro rm rt rd : Nat → Int32} {rc rf rh re : Nat → Nat → Int32}
  {post : Int32 → Int32 → Int32 → Int32 → Int32 → (Nat → Int32) → (Nat → Int32) → (Nat → Int32) → Prop} {postX : String → Int32 → Int32 → Int32 → Int32 → (Nat → Int32) → (Nat → Int32) → (Nat → Int32) → Prop}
  {postP : Int32 → Int32 → Int32 → Int32 → Int32 → Int32 → (Nat → Int32) → (Nat → Int32) → (Nat → Int32) → (Nat → Int32) → Prop} {postXP : String → Int32 → Int32 → Int32 → Int32 → Int32 → (Nat → Int32) → (Nat → Int32) → (Nat → Int32) → (Nat → Int32) → Prop}
  {postS : Int32 → Int32 → Int32 → Int32 → Int32 → Int32 → (Nat → Int32) → (Nat → Int32) → (Nat → Int32) → (Nat → Int32) → (Nat → Int32) → Prop} {postXS : String → Int32 → Int32 → Int32 → Int32 → Int32 → (Nat → Int32) → (Nat → Int32) → (Nat → Int32) → (Nat → Int32) → (Nat → Int32) → Prop}
theorem y_won {i : Nat} (hi : i < 2) (hg : gOk0 pl mv) (hp : RP pl places odd calls) (hv : RV mv moves fr to) (hz : RZ pl mv zero zk)
    (h : ∀ r b1 b2 z' k' c1 n1 o1, (∀ u, bt r u = true ↔ gW pl mv allL i u) → RZ pl mv z' k' → post r b1 b2 z' k' c1 n1 o1) : wp_X5_won (nI i) bp ba places odd moves zero zk calling next owned calls fr to post postX :=
  x5_won hg hp hv hz (fun q => absurd ⟨i, hi, rfl⟩ q) (fun r b1 b2 z' k' c1 n1 o1 _ hr hz' => h r b1 b2 z' k' c1 n1 o1 (by rwa [ix_nI (by omega)] at hr) hz')
theorem y_plan {u : Nat} (hu : u < pl.length) (hg : gOk0 pl mv) (hp : RP pl places odd calls) (hv : RV mv moves fr to) (hz : RZ pl mv zero zk) (hc : RC pl mv chosen ck)
    (h : ∀ b1 b2 z' k' c1 n1 o1 ch, RZ pl mv z' k' → RC pl mv ch 1 → postP (plV pl mv u) b1 b2 z' k' 1 c1 n1 o1 ch) : wp_X5_plan (nI u) bp ba places odd moves zero zk ck calling next owned calls fr to chosen postP postXP :=
  x5_plan hg hp hv hz hc (fun q => absurd ⟨u, hu, rfl⟩ q) (fun b1 b2 z' k' c1 n1 o1 ch _ hz' hc' => by rw [ix_nI (by have := hg.1; omega)]; exact h b1 b2 z' k' c1 n1 o1 ch hz' hc')
theorem y_follow {u m : Nat} (hu : u < pl.length) (hm : m < 1001) (hg : gOk0 pl mv) (hp : RP pl places odd calls) (hv : RV mv moves fr to) (hz : RZ pl mv zero zk) (hc : RC pl mv chosen ck)
    (h : ∀ b1 b2 z' k' c1 n1 o1 ch, RZ pl mv z' k' → RC pl mv ch 1 → postP (foV pl mv u m) b1 b2 z' k' 1 c1 n1 o1 ch) : wp_X5_follow (nI u) (nI m) bp ba places odd moves zero zk ck calling next owned calls fr to chosen postP postXP :=
  x5_follow hg hp hv hz hc (fun q => absurd ⟨u, hu, rfl⟩ q) (fun _ q => absurd ⟨m, hm, rfl⟩ q) (fun b1 b2 z' k' c1 n1 o1 ch _ _ hz' hc' => by rw [ix_nI (by have := hg.1; omega), ix_nI (by omega)]; exact h b1 b2 z' k' c1 n1 o1 ch hz' hc')
theorem y_play {u w : Nat} (hu : u < pl.length) (hw : w < 3) (hg : gOk0 pl mv) (hp : RP pl places odd calls) (hv : RV mv moves fr to) (hz : RZ pl mv zero zk) (hc : RC pl mv chosen ck)
    (h : ∀ b1 b2 z' k' sn c1 n1 o1 ch, RZ pl mv z' k' → RC pl mv ch 1 → postS (pyV pl mv u w) b1 b2 z' k' 1 sn c1 n1 o1 ch) : wp_X5_play (nI u) (nI w) bp ba places odd moves zero zk ck seenAt calling next owned calls fr to chosen postS postXS :=
  x5_play hg hp hv hz hc (fun q => absurd ⟨u, hu, rfl⟩ q) (fun _ q => absurd ⟨w, hw, rfl⟩ q) (fun b1 b2 z' k' sn c1 n1 o1 ch _ _ hz' hc' => by rw [ix_nI (by have := hg.1; omega), ix_nI (by omega)]; exact h b1 b2 z' k' sn c1 n1 o1 ch hz' hc')
theorem y_half : ∀ c, c < 10 → nI c - nI c / (2 : Int32) * (2 : Int32) = nI (c % 2) := by decide +kernel
theorem wn_eq {i u : Nat} (hg : gOk0 pl mv) (hi : i < 2) (h : gW pl mv allL i u) : wnV pl mv u = nI i := by
  unfold wnV
  rcases (show i = 0 ∨ i = 1 by omega) with rfl | rfl
  · rw [if_pos (pD_t.mpr h)]; rfl
  · rw [if_neg (fun q => (gW_det hg h.1).mpr h (pD_t.mp q))]; rfl
theorem wn_who {u : Nat} (hg : gOk0 pl mv) (hu : u < pl.length) : ∃ i, i < 2 ∧ gW pl mv allL i u := by
  by_cases q : gW pl mv allL 0 u
  · exact ⟨0, by decide, q⟩
  · exact ⟨1, by decide, (gW_det hg hu).mp q⟩
/-- what the law asks of the play from u -/
theorem y_wins275 {n : Nat} {i u : Nat} {rec : Int32 → Int32 → Int32 → Int32 → Int32 → Int32 → Int32 → (Nat → Int32) → (Nat → Int32) → (Nat → Int32) → (Nat → Int32) → (Nat → Int32) → Prop}
    (hn : n = pl.length) (hi : i < 2) (hw : gW pl mv allL i u) (hg : gOk0 pl mv) (hp : RP pl places odd calls) (hv : RV mv moves fr to) (hz : RZ pl mv zero zk) (hc : RC pl mv chosen ck)
    (h : ∀ b1 b2 z' k' ck' sn c1 n1 o1 ch, RZ pl mv z' k' → RC pl mv ch ck' → rec 1 (nI u + 1) b1 b2 z' k' ck' sn c1 n1 o1 ch) :
    J_L_wins_275 rec (nI i) (nI n) (nI u) bp ba places odd moves zero zk ck seenAt calling next owned calls fr to chosen := by
  subst hn
  have hn := hg.1
  have hu := hw.1
  have hE := pyEnd_ok hg hu
  have hS := pySeen_ok hg hu
  have hj := plGo_le hg hu hE.1
  have hfo : foGo pl mv u (pyEnd pl mv u) := plGo_fo hE.1
  have e0 : pyV pl mv u 0 = pyA pl mv u := if_pos rfl
  have e1 : pyV pl mv u 1 = pyR pl mv u := (if_neg (by decide)).trans (if_pos rfl)
  have e2 : pyV pl mv u 2 = pyL pl mv u := (if_neg (by decide)).trans (if_neg (by decide))
  unfold J_L_wins_275
  refine y_play (w := 2) hu (by decide) hg hp hv hz hc (fun b1 b2 z' k' sn c1 n1 o1 ch hz hc => ?_)
  refine y_play (w := 1) hu (by decide) hg hp hv hz hc (fun b1 b2 z' k' sn c1 n1 o1 ch hz hc => ?_)
  rw [e1, e2]
  by_cases hend : plV pl mv (plTr pl mv u (pyEnd pl mv u)) = -1
  · have eA : pyA pl mv u = nI (pyEnd pl mv u) := if_pos hend
    have eR : pyR pl mv u = 0 := if_pos hend
    have eL : pyL pl mv u = -1 := if_pos hend
    rw [eR, eL]
    refine ⟨fun q => absurd rfl q, fun _ => ⟨fun q => absurd rfl q, fun _ => ⟨fun q => absurd rfl q, fun _ => ?_⟩⟩⟩
    refine y_play (w := 0) hu (by decide) hg hp hv hz hc (fun b1 b2 z' k' sn c1 n1 o1 ch hz hc => ?_)
    rw [e0, eA, nI_1]
    refine y_follow hu (by omega) hg hp hv hz hc (fun b1 b2 z' k' c1 n1 o1 ch hz hc => ⟨foV_no (fun q => q _ (Nat.lt_succ_self _) hend), ?_⟩)
    refine y_play (w := 0) hu (by decide) hg hp hv hz hc (fun b1 b2 z' k' sn c1 n1 o1 ch hz hc => ?_)
    rw [e0, eA]
    refine y_follow hu (by omega) hg hp hv hz hc (fun b1 b2 z' k' c1 n1 o1 ch hz hc => ?_)
    rw [foV_go hfo]
    have hk := t_keep hg hw _ hfo
    refine y_place (w := 0) hg hp hv hz (foGo_lt hg hu _ hfo) (by decide) (fun b1 b2 z' k' c1 n1 o1 hz => ⟨fun q => ?_, h _ _ _ _ _ _ _ _ _ _ hz hc⟩)
    rw [pa_0] at q
    have := (nI_eq (by have := (gOk0_ow hg (plTr pl mv u (pyEnd pl mv u))).1; omega) (by omega)).mp q
    exact p_ends hg hk hend this
  · obtain ⟨a, haj, hae⟩ := hE.2.resolve_left hend
    have hsa : pySeen pl mv u (plTr pl mv u (pyEnd pl mv u)) = nI a := by rw [← hae]; exact hS.1 a haj
    have eA : pyA pl mv u = nI a := (if_neg hend).trans hsa
    have eR : pyR pl mv u = nI (pyEnd pl mv u - a) := by
      unfold pyR
      rw [if_neg hend, hsa, i_subn (by omega)]
    have eL : pyL pl mv u = ldMax pl (pySeen pl mv u) (nI a) pl.length := by
      unfold pyL
      rw [if_neg hend, hsa]
    obtain ⟨c, hc10, ec, hle, v, hv1, hv2, hv3⟩ := ldMax_ok hg (sn := pySeen pl mv u) (a := nI a) pl.length ⟨plTr pl mv u a, foGo_lt hg hu a (fun k hk => hfo k (by omega)), by rw [hS.1 a haj]; exact nI_nlt (Nat.le_refl _) (by omega)⟩
    have hpar : c % 2 = i := by
      refine ring_par hg hi hw haj hfo hae (fun m h1 h2 => ?_) ?_
      · exact hle _ (foGo_lt hg hu m (fun k hk => hfo k (by omega))) (by rw [hS.1 m h2]; exact nI_nlt h1 (by omega))
      · by_cases q : ∃ m, m < pyEnd pl mv u ∧ plTr pl mv u m = v
        · obtain ⟨m, hm1, hm2⟩ := q
          refine ⟨m, ?_, hm1, by rw [hm2]; exact hv3⟩
          rw [← hm2, hS.1 m hm1] at hv2
          rcases Nat.lt_or_ge m a with y | y
          · exact absurd (nI_lt y (by omega)) hv2
          · exact y
        · rw [hS.2 v hv1 (fun m hm e => q ⟨m, hm, e⟩)] at hv2
          exact absurd (Int32.lt_iff_toInt_lt.mpr (by rw [nI_toInt (by omega)]; show (-1 : Int) < _; omega)) hv2
    have hall : ∀ m, foGo pl mv u m := fun m k _ => per_go haj hfo hae k
    rw [eR, eL, ec]
    have hr0 : ¬ nI (pyEnd pl mv u - a) = 0 := nI_ne0 (by omega) (by omega)
    refine ⟨fun _ => ⟨fun _ => ⟨fun _ => ⟨(y_half c hc10).trans (by rw [hpar]), ?_⟩, fun q => absurd q hr0⟩, fun q => absurd q (nI_m1 (by omega))⟩, fun q => absurd q hr0⟩
    refine y_follow hu (by omega) hg hp hv hz hc (fun b1 b2 z' k' c1 n1 o1 ch hz hc => ?_)
    rw [nI_add]
    refine y_follow hu (by omega) hg hp hv hz hc (fun b1 b2 z' k' c1 n1 o1 ch hz hc => ?_)
    refine ⟨?_, ?_⟩
    · rw [foV_go (hall _), foV_go (hall _), per u haj hae pl.length (by omega)]
    refine y_play (w := 0) hu (by decide) hg hp hv hz hc (fun b1 b2 z' k' sn c1 n1 o1 ch hz hc => ?_)
    rw [e0, eA, nI_add]
    exact ⟨nI_nlt (by omega) (by omega), h _ _ _ _ _ _ _ _ _ _ hz hc⟩
/-- where the plan leads -/
theorem y_wins229 {n : Nat} {i u : Nat} {rec : Int32 → Int32 → Int32 → Int32 → Int32 → Int32 → Int32 → (Nat → Int32) → (Nat → Int32) → (Nat → Int32) → (Nat → Int32) → (Nat → Int32) → Prop}
    (hn : n = pl.length) (hi : i < 2) (hw : gW pl mv allL i u) (hg : gOk0 pl mv) (hp : RP pl places odd calls) (hv : RV mv moves fr to) (hz : RZ pl mv zero zk) (hc : RC pl mv chosen ck)
    (h : ∀ b1 b2 z' k' ck' sn c1 n1 o1 ch, RZ pl mv z' k' → RC pl mv ch ck' → rec 1 (nI u + 1) b1 b2 z' k' ck' sn c1 n1 o1 ch) :
    J_L_wins_229 rec (nI i) (plV pl mv u) (nI n) (nI u) bp ba places odd moves zero zk ck seenAt calling next owned calls fr to chosen := by
  have hm := hg.2.1
  have hu := hw.1
  unfold J_L_wins_229
  refine ⟨fun _ => y_wins275 hn hi hw hg hp hv hz hc h, fun hge => ?_⟩
  refine y_place (w := 0) hg hp hv hz hu (by decide) (fun b1 b2 z' k' c1 n1 o1 hz => ⟨fun _ => y_wins275 hn hi hw hg hp hv hz hc h, fun _ => ?_⟩)
  have hne : plV pl mv u ≠ -1 := fun q => by rw [q] at hge; exact hge (by decide)
  obtain ⟨k, hk, ha, ek, ex⟩ := p_move hg hne
  rw [ek]
  refine y_move (w := 1) hg hv hk (by decide) ?_
  rw [if_neg (by decide)]
  have hkeep := p_keep hg hw hne
  rw [ex] at hkeep
  refine y_place (w := 4) hg hp hv hz hkeep.1 (by decide) (fun b1 b2 z' k' c1 n1 o1 hz => ⟨?_, y_wins275 hn hi hw hg hp hv hz hc h⟩)
  rw [pa_4]
  exact wn_eq hg hi hkeep
theorem y_wins {post : Int32 → Int32 → Int32 → Int32 → Int32 → Int32 → (Nat → Int32) → (Nat → Int32) → (Nat → Int32) → (Nat → Int32) → (Nat → Int32) → Prop} (hg : gOk g) (hr : RG g places odd moves token made calls fr heard to) (hz : RZ g.1 g.2.1 zero zk) (hc : RC g.1 g.2.1 chosen ck)
    (h : ∀ b1 b2 z' k' ck' sn c1 n1 o1 ch, RZ g.1 g.2.1 z' k' → RC g.1 g.2.1 ch ck' → post 1 b1 b2 z' k' ck' sn c1 n1 o1 ch) :
    wp_L_wins bp ba places odd moves token made zero zk ck seenAt calling next owned calls fr to chosen post := by
  have hg0 := hg.1
  have hn1 := hg.2.1
  have hn := hg0.1
  have hm := hg0.2.1
  obtain ⟨hp, hv, ht⟩ := hr
  have hr : RG g places odd moves token made calls fr heard to := ⟨hp, hv, ht⟩
  have hE : ∀ v w, gEd g.2.1 v w → v < g.1.length ∧ w < g.1.length := fun v w e => gEd_lt hg0 e
  unfold wp_L_wins
  refine y_size (w := 0) hg hr (by decide) (fun b1 b2 c1 n1 o1 => ?_)
  rw [sz_0]
  refine y_won (i := 0) (by decide) hg0 hp hv hz (fun even b1 b2 z' k' c1 n1 o1 heven hz => ?_)
  refine y_won (i := 1) (by decide) hg0 hp hv hz (fun oddw b1 b2 z' k' c1 n1 o1 hodd hz => ?_)
  have see : sB even = gW g.1 g.2.1 allL 0 := funext fun u => propext (heven u)
  have soo : sB oddw = gW g.1 g.2.1 allL 1 := funext fun u => propext (hodd u)
  have ie : isS g.1.length even := fun u hu => ((heven u).mp hu).1
  have io : isS g.1.length oddw := fun u hu => ((hodd u).mp hu).1
  refine ⟨y_all hn (fun u => ?_), b_and0.mpr (fun u h1 h2 => (gW_det hg0 ((heven u).mp h1).1).mpr ((hodd u).mp h2) ((heven u).mp h1)), ?_⟩
  · rw [b_orI, heven, hodd]
    constructor
    · rintro (y | y)
      · exact y.1
      · exact y.1
    · intro hu
      by_cases y : gW g.1 g.2.1 allL 0 u
      · exact Or.inl y
      · exact Or.inr ((gW_det hg0 hu).mp y)
  refine y_isTrap (i := 1) (by decide) ie hg0 hp hv (fun b1 b2 c1 n1 o1 => ⟨?_, ?_⟩)
  · rw [tV_eq (v := 1) (Or.inr rfl) ⟨fun _ => by rw [see]; exact w_trap (i := 1) hg0 (by decide), fun _ => rfl⟩]
    decide
  refine y_isTrap (i := 0) (by decide) io hg0 hp hv (fun b1 b2 c1 n1 o1 => ⟨?_, ?_⟩)
  · rw [tV_eq (v := 1) (Or.inr rfl) ⟨fun _ => by rw [soo]; exact w_trap (i := 0) hg0 (by decide), fun _ => rfl⟩]
    decide
  refine y_pull (i := 0) (by decide) ie hg0 hp hv (fun r b1 b2 c1 n1 o1 hr2 => ⟨b_same hr2 (fun u => ⟨fun y => ⟨0, y⟩, fun ⟨k, y⟩ => ?_⟩), ?_⟩)
  · rw [see] at y
    exact (heven u).mpr (w_pIter hg0 (by decide) k u y)
  refine y_pull (i := 1) (by decide) io hg0 hp hv (fun r b1 b2 c1 n1 o1 hr2 => ⟨b_same hr2 (fun u => ⟨fun y => ⟨0, y⟩, fun ⟨k, y⟩ => ?_⟩), ?_⟩)
  · rw [soo] at y
    exact (hodd u).mpr (w_pIter hg0 (by decide) k u y)
  refine y_stay (i := 0) (by decide) ie hg0 hp hv (fun r b1 b2 c1 n1 o1 hr2 => ⟨b_same hr2 (fun u => ⟨fun y k => ?_, fun y => y 0⟩), ?_⟩)
  · rw [see]
    exact w_stay hg0 k u ((heven u).mp y)
  refine x5_wonShare (a := 0) hg0 hn1 hp hv hz (fun q => absurd ⟨0, by decide, rfl⟩ q) (fun b1 b2 z' k' c1 n1 o1 _ hz => ?_)
  obtain ⟨x1, x2⟩ := wCnt_eq hn heven
  refine bitCount_ok x1 ?_
  rw [x2]
  have hs := sh_use hn1 hn (wCnt_le (pl := g.1) (mv := g.2.1) (i := 0))
  unfold shOk at hs
  rw [Bool.and_eq_true, Bool.and_eq_true] at hs
  refine ⟨okF_t hs.1.1, of_decide_eq_true hs.2, ?_⟩
  refine fx12_go (fun v5 v6 _ _ z k ck _ _ _ _ ch => v5 = 1 ∧ ∃ q, q ≤ g.1.length ∧ v6 = nI q ∧ RZ g.1 g.2.1 z k ∧ RC g.1 g.2.1 ch ck) (fun _ v6 _ _ _ _ _ _ _ _ _ _ => g.1.length - v6.toNatClampNeg) ?_ _ _ _ _ _ _ _ _ _ _ _ _
    ⟨rfl, 0, Nat.zero_le _, rfl, hz, hc⟩
  rintro rec v5 v6 b1 b2 z k ck sn c1 n1 o1 ch ⟨rfl, q, hq, rfl, hz, hc⟩ hrec
  unfold F_L_wins_118
  refine ⟨fun _ => ⟨rfl, h _ _ _ _ _ _ _ _ _ _ hz hc⟩, fun hlt => ⟨fun y => absurd y (by decide), fun _ => ?_⟩⟩
  have hql : q < g.1.length := by
    rcases Nat.lt_or_ge q g.1.length with y | y
    · exact y
    · exact absurd (nI_le y (by omega)) hlt
  have go : ∀ b1 b2 z' k' ck' sn c1 n1 o1 ch, RZ g.1 g.2.1 z' k' → RC g.1 g.2.1 ch ck' → rec 1 (nI q + 1) b1 b2 z' k' ck' sn c1 n1 o1 ch := fun _ _ _ _ _ _ _ _ _ _ hz hc =>
    hrec _ _ _ _ _ _ _ _ _ _ _ _ ⟨rfl, q + 1, hql, nI_1 q, hz, hc⟩ (by rw [nI_1, nI_clamp (by omega), nI_clamp (by omega)]; omega)
  obtain ⟨i, hi, hw⟩ := wn_who hg0 hql
  refine y_place (w := 4) hg0 hp hv hz hql (by decide) (fun b1 b2 z' k' c1 n1 o1 hz => ?_)
  rw [pa_4, wn_eq hg0 hi hw]
  refine y_plan hql hg0 hp hv hz hc (fun b1 b2 z' k' c1 n1 o1 ch hz hc => ⟨?_, ?_⟩)
  · rw [y_bit (by omega)]
    rcases (show i = 0 ∨ i = 1 by omega) with rfl | rfl
    · rw [if_pos ((heven q).mpr hw)]; decide
    · rw [if_neg (fun y => (gW_det hg0 hql).mpr hw ((heven q).mp y))]; decide
  have hc2 := cAt_pos (mv := g.2.1) (p := q)
  have hct := pCnt_top (cAt g.2.1 q) g.2.1.length
  refine ⟨fun hne => ?_, fun hno => ?_⟩
  · obtain ⟨k, hk, ha, ek, ex⟩ := p_move hg0 hne
    have hpos := hc2.mpr ⟨_, p_edge hg0 hne⟩
    refine y_place (w := 2) hg0 hp hv hz hql (by decide) (fun b1 b2 z' k' c1 n1 o1 hz => ?_)
    rw [pa_2]
    refine ⟨fun _ => ⟨fun _ => ⟨fun y => ?_, fun _ => ?_⟩, fun y => ?_⟩, fun y => absurd y (nI_ne0 (by omega) (by omega))⟩
    · rw [ek] at y
      exact absurd y (nI_pos (by omega))
    · have hJ := y_wins229 (u := q) (n := g.1.length) (bp := b1) (ba := b2) (zero := z') (zk := k') (seenAt := sn) (calling := c1) (next := n1) (owned := o1) rfl hi hw hg0 hp hv hz hc go
      revert hJ
      generalize hJ2 : plV g.1 g.2.1 q = x at ek ⊢
      subst ek
      intro hJ
      refine y_move (w := 0) hg0 hv hk (by decide) ⟨?_, hJ⟩
      rw [if_pos rfl, ha]
    · rw [ek] at y
      exact absurd (nI_pos' (by omega)) y
  · refine y_place (w := 2) hg0 hp hv hz hql (by decide) (fun b1 b2 z' k' c1 n1 o1 hz => ?_)
    have hnone : pCnt (cAt g.2.1 q) g.2.1.length = 0 := by
      rcases Nat.eq_zero_or_pos (pCnt (cAt g.2.1 q) g.2.1.length) with y | y
      · exact y
      · obtain ⟨w, e⟩ := hc2.mp y
        exact absurd e ((p_none hg0 hql).mp hno w)
    rw [pa_2, hnone]
    refine ⟨fun y => absurd rfl y, fun _ => ⟨fun y => ?_, fun _ => ?_⟩⟩
    · rw [hno] at y
      exact absurd y (by decide)
    · refine y_place (w := 0) hg0 hp hv hz hql (by decide) (fun b1 b2 z' k' c1 n1 o1 hz => ⟨fun y => ?_, fun _ => y_wins229 rfl hi hw hg0 hp hv hz hc go, fun y => ?_⟩)
      · rw [pa_0] at y
        exact p_ends hg0 hw hno ((nI_eq (by omega) (by have := (gOk0_ow hg0 q).1; omega)).mp y).symm
      · rw [hno] at y
        exact absurd (by decide) y
end WINSL
