/-! the class's changes, call by call -/
abbrev hX : Type := hT
theorem pFst_lt {P : Nat → Bool} : ∀ {n : Nat}, (∃ x, x < n ∧ P x = true) → pFst P n < n
  | 0, ⟨x, h, _⟩ => absurd h (Nat.not_lt_zero x)
  | n + 1, ⟨x, h, hp⟩ => by
    simp only [pFst]
    by_cases q : pFst P n < n
    · rw [if_pos q]; omega
    · rw [if_neg q]
      by_cases q2 : P n = true
      · rw [if_pos q2]; omega
      · have hx : x < n := by
          rcases Nat.lt_or_ge x n with z | z
          · exact z
          · have e : x = n := by omega
            rw [e] at hp
            exact absurd hp q2
        exact absurd (pFst_lt ⟨x, hx, hp⟩) q
theorem fst_ed {mv : List (Nat × Nat)} {i j : Nat} (hm : mv.length ≤ 60) : (rFst (fun k => decide (lA mv k = i) && decide (lB mv k = j)) mv.length = -1 → ¬ gEd mv i j) ∧ (¬ rFst (fun k => decide (lA mv k = i) && decide (lB mv k = j)) mv.length = -1 → gEd mv i j) := by
  refine ⟨fun q => ?_, fun q => ?_⟩
  · rintro ⟨x, hx, y1, y2⟩
    unfold rFst at q
    have hle : pFst (fun k => decide (lA mv k = i) && decide (lB mv k = j)) mv.length < mv.length := pFst_lt ⟨x, hx, by rw [decide_eq_true y1, decide_eq_true y2]; rfl⟩
    rw [if_pos hle] at q
    exact nI_m1 (by omega) q
  · rcases rFst_cases (fun k => decide (lA mv k = i) && decide (lB mv k = j)) mv.length with z | ⟨y, hy, z1, _⟩
    · exact absurd z q
    · rw [Bool.and_eq_true, decide_eq_true_eq, decide_eq_true_eq] at z1
      exact ⟨y, hy, z1.1, z1.2⟩
section CHG5
variable {hs : List gm} {g : gm} {a b places odd moves token made first kept zk ck bp ba zero : Int32} {calls fr heard to calling next owned chosen : Nat → Int32} {rp ro rm rt rd : Nat → Int32} {rc rf rh re : Nat → Nat → Int32}
theorem x5_begin {post : Int32 → Int32 → Int32 → Int32 → hT} (hH : RHc hs first kept rp ro rm rt rd rc rf rh re) (hg : gOk g) (hr : RG g places odd moves token made calls fr heard to)
    (h : ∀ f' k' qp qo qm qt qd qc qf qh qe, RHc (hPush hs g) f' k' qp qo qm qt qd qc qf qh qe → post f' k' 0 0 qp qo qm qt qd qc qf qh qe) : wp_X5_beginChange places odd moves token made first kept calls fr heard to rp ro rm rt rd rc rf rh re post := by
  unfold wp_X5_beginChange wp_X3_forget
  exact x2_keep hH hg hr h
theorem mv_small {pl mv : List (Nat × Nat)} (hg : gOk0 pl mv) : ∀ x, x < mv.length → lA mv x < 1000 ∧ lB mv x < 1000 := fun x hx => by
  have := gOk0_mv hg hx
  have := hg.1
  omega
theorem x5_setOwner {post : Int32 → Int32 → Int32 → Int32 → Int32 → Int32 → hT} {postX : String → Int32 → Int32 → Int32 → Int32 → Int32 → hT} (hH : RHc hs first kept rp ro rm rt rd rc rf rh re) (hg : gOk g) (hr : RG g places odd moves token made calls fr heard to)
    (h1 : ¬ isN g.1.length a → postX "java/util/NoSuchElementException" odd first kept zk ck rp ro rm rt rd rc rf rh re)
    (h2 : isN g.1.length a → ¬ isN 2 b → postX "java/lang/IllegalArgumentException" odd first kept zk ck rp ro rm rt rd rc rf rh re)
    (h : ∀ o' f' k' qp qo qm qt qd qc qf qh qe, isN g.1.length a → isN 2 b → RG (gSetOwner g (ix a) (ix b)) places o' moves token made calls fr heard to → RHc (hPush hs g) f' k' qp qo qm qt qd qc qf qh qe → post (nI (lA g.1 (ix a))) o' f' k' 0 0 qp qo qm qt qd qc qf qh qe) : wp_X5_setOwner a b places odd moves token made first kept zk ck calls fr heard to rp ro rm rt rd rc rf rh re post postX := by
  have hr0 := hr
  have hg0 := hg.1
  have hn := hg0.1
  have hm := hg0.2.1
  obtain ⟨hp, hv, ht⟩ := hr
  unfold wp_X5_setOwner
  rw [hp.1]
  refine n5_place hn h1 (fun ha => n5_player (h2 ha) (fun hb => ?_))
  rw [← hp.1]
  refine x5_begin hH hg hr0 (fun f' k' qp qo qm qt qd qc qf qh qe hQ => ?_)
  obtain ⟨i, hi, e⟩ := ha
  obtain ⟨j, hj, e2⟩ := hb
  have hpost := fun o' => h o' f' k' qp qo qm qt qd qc qf qh qe ⟨i, hi, e⟩ ⟨j, hj, e2⟩
  rw [e, e2, ix_nI (by omega), ix_nI (by omega)] at hpost
  rw [e, e2]
  have ho := (gOk_pl hg i).1
  obtain ⟨k1, k2⟩ := rp_owner hp hn hi hj ho
  exact x1_ownerOf hp hi hn ho ⟨fun q => hpost _ ⟨k1 q, hv, ht⟩ hQ, fun q => hpost _ ⟨k2 q, hv, ht⟩ hQ⟩
theorem x5_setCall {post : Int32 → Int32 → Int32 → Int32 → Int32 → (Nat → Int32) → hT} {postX : String → Int32 → Int32 → Int32 → Int32 → (Nat → Int32) → hT} (hH : RHc hs first kept rp ro rm rt rd rc rf rh re) (hg : gOk g) (hr : RG g places odd moves token made calls fr heard to)
    (h1 : ¬ isN g.1.length a → postX "java/util/NoSuchElementException" first kept zk ck calls rp ro rm rt rd rc rf rh re)
    (h2 : isN g.1.length a → ¬ isN 10 b → postX "java/lang/IllegalArgumentException" first kept zk ck calls rp ro rm rt rd rc rf rh re)
    (h : ∀ c' f' k' qp qo qm qt qd qc qf qh qe, isN g.1.length a → isN 10 b → RG (gSetCall g (ix a) (ix b)) places odd moves token made c' fr heard to → RHc (hPush hs g) f' k' qp qo qm qt qd qc qf qh qe → post (nI (lB g.1 (ix a))) f' k' 0 0 c' qp qo qm qt qd qc qf qh qe) : wp_X5_setCall a b places odd moves token made first kept zk ck calls fr heard to rp ro rm rt rd rc rf rh re post postX := by
  have hr0 := hr
  have hg0 := hg.1
  have hn := hg0.1
  have hm := hg0.2.1
  obtain ⟨hp, hv, ht⟩ := hr
  unfold wp_X5_setCall
  rw [hp.1]
  refine n5_place hn h1 (fun ha => n5_call (h2 ha) (fun hb => ?_))
  rw [← hp.1]
  refine x5_begin hH hg hr0 (fun f' k' qp qo qm qt qd qc qf qh qe hQ => ?_)
  obtain ⟨i, hi, e⟩ := ha
  obtain ⟨j, hj, e2⟩ := hb
  have hpost := fun c' => h c' f' k' qp qo qm qt qd qc qf qh qe ⟨i, hi, e⟩ ⟨j, hj, e2⟩
  rw [e, e2, ix_nI (by omega), ix_nI (by omega)] at hpost
  rw [e, e2, nI_clamp (show i < 2 ^ 31 by omega), hp.2.2 i hi]
  exact ⟨vp_in_nI (by omega) (by decide), vp_in_nI (by omega) (by decide), hpost _ ⟨rp_call hp hi, hv, ht⟩ hQ⟩
theorem x5_addMove {post : Int32 → Int32 → Int32 → Int32 → Int32 → Int32 → (Nat → Int32) → (Nat → Int32) → hT} {postX : String → Int32 → Int32 → Int32 → Int32 → Int32 → (Nat → Int32) → (Nat → Int32) → hT} (hH : RHc hs first kept rp ro rm rt rd rc rf rh re) (hg : gOk g) (hr : RG g places odd moves token made calls fr heard to)
    (h1 : ¬ (isN g.1.length a ∧ isN g.1.length b) → postX "java/util/NoSuchElementException" moves first kept zk ck fr to rp ro rm rt rd rc rf rh re)
    (h2 : isN g.1.length a ∧ isN g.1.length b → gEd g.2.1 (ix a) (ix b) → postX "java/lang/IllegalArgumentException" moves first kept zk ck fr to rp ro rm rt rd rc rf rh re)
    (h3 : isN g.1.length a ∧ isN g.1.length b → ¬ gEd g.2.1 (ix a) (ix b) → ¬ g.2.1.length < 60 → postX "java/lang/IllegalStateException" moves first kept zk ck fr to rp ro rm rt rd rc rf rh re)
    (h : ∀ m' r' e' f' k' qp qo qm qt qd qc qf qh qe, isN g.1.length a ∧ isN g.1.length b → ¬ gEd g.2.1 (ix a) (ix b) → g.2.1.length < 60 → RG (gAddMove g (ix a) (ix b)) places odd m' token made calls r' heard e' → RHc (hPush hs g) f' k' qp qo qm qt qd qc qf qh qe → post (nI g.2.1.length) m' f' k' 0 0 r' e' qp qo qm qt qd qc qf qh qe) : wp_X5_addMove a b places odd moves token made first kept zk ck calls fr heard to rp ro rm rt rd rc rf rh re post postX := by
  have hr0 := hr
  have hg0 := hg.1
  have hn := hg0.1
  have hm := hg0.2.1
  obtain ⟨hp, hv, ht⟩ := hr
  unfold wp_X5_addMove
  have e60 : moves < (60 : Int32) ↔ g.2.1.length < 60 := by rw [hv.1]; exact nI_ltI (b := 60) (by omega) (by decide)
  rw [hp.1]
  refine n5_place hn (fun q => h1 (fun z => q z.1)) (fun ha => n5_place hn (fun q => h1 (fun z => q z.2)) (fun hb => ?_))
  rw [← hp.1]
  have h2 := h2 ⟨ha, hb⟩
  have h3 := h3 ⟨ha, hb⟩
  have hpost := fun m' r' e' f' k' qp qo qm qt qd qc qf qh qe => h m' r' e' f' k' qp qo qm qt qd qc qf qh qe ⟨ha, hb⟩
  obtain ⟨i, hi, e⟩ := ha
  obtain ⟨j, hj, e2⟩ := hb
  rw [e, e2, ix_nI (by omega), ix_nI (by omega)] at hpost h2 h3
  rw [e, e2]
  obtain ⟨k1, k2⟩ := fst_ed (mv := g.2.1) (i := i) (j := j) hm
  refine x1_findMove hv hm (mv_small hg0) (by omega) (by omega) ⟨fun q => ⟨fun q2 => ?_, fun q2 => h3 (k1 q) (fun y => q2 (e60.mpr y))⟩, fun q => h2 (k2 q)⟩
  have hlt := e60.mp q2
  refine x5_begin hH hg hr0 (fun f' k' qp qo qm qt qd qc qf qh qe hQ => ?_)
  refine x1_appendMove (a := i) (b := j) hv hlt (fun m' r' e' hv' => ?_)
  have e3 : m' - 1 = nI g.2.1.length := by rw [hv'.1, List.length_append, List.length_singleton]; exact i_sub1
  rw [e3]
  exact hpost _ _ _ _ _ _ _ _ _ _ _ _ _ _ (k1 q) hlt ⟨hp, hv', ht⟩ hQ
theorem x5_removeMove {post : Int32 → Int32 → Int32 → Int32 → Int32 → Int32 → (Nat → Int32) → (Nat → Int32) → hT} {postX : String → Int32 → Int32 → Int32 → Int32 → Int32 → (Nat → Int32) → (Nat → Int32) → hT} (hH : RHc hs first kept rp ro rm rt rd rc rf rh re) (hg : gOk g) (hr : RG g places odd moves token made calls fr heard to)
    (h1 : ¬ isN g.2.1.length a → postX "java/util/NoSuchElementException" moves first kept zk ck fr to rp ro rm rt rd rc rf rh re)
    (h : ∀ m' r' e' f' k' qp qo qm qt qd qc qf qh qe, isN g.2.1.length a → RG (gRemMove g (ix a)) places odd m' token made calls r' heard e' → RHc (hPush hs g) f' k' qp qo qm qt qd qc qf qh qe → post (nI (gRemMove g (ix a)).2.1.length) m' f' k' 0 0 r' e' qp qo qm qt qd qc qf qh qe) : wp_X5_removeMove a places odd moves token made first kept zk ck calls fr heard to rp ro rm rt rd rc rf rh re post postX := by
  have hr0 := hr
  have hg0 := hg.1
  have hn := hg0.1
  have hm := hg0.2.1
  obtain ⟨hp, hv, ht⟩ := hr
  unfold wp_X5_removeMove
  rw [hv.1]
  refine n5_move hm (fun q => by rw [← hv.1]; exact h1 q) (fun ha => ?_)
  rw [← hv.1]
  refine x5_begin hH hg hr0 (fun f' k' qp qo qm qt qd qc qf qh qe hQ => ?_)
  obtain ⟨i, hi, e⟩ := ha
  have hpost := fun m' r' e' => h m' r' e' f' k' qp qo qm qt qd qc qf qh qe ⟨i, hi, e⟩
  rw [e, ix_nI (by omega)] at hpost
  rw [e]
  refine x1_dropMove hv hm hi (fun m' r' e' hv' => ?_)
  have := hpost m' r' e' ⟨hp, hv', ht⟩ hQ
  show post m' m' f' k' 0 0 r' e' qp qo qm qt qd qc qf qh qe
  have e3 : m' = nI (gRemMove g i).2.1.length := hv'.1
  rw [← e3] at this
  exact this
theorem x5_preferMove {post : Int32 → Int32 → Int32 → Int32 → Int32 → (Nat → Int32) → (Nat → Int32) → hT} {postX : String → Int32 → Int32 → Int32 → Int32 → (Nat → Int32) → (Nat → Int32) → hT} (hH : RHc hs first kept rp ro rm rt rd rc rf rh re) (hg : gOk g) (hr : RG g places odd moves token made calls fr heard to)
    (h1 : ¬ isN g.2.1.length a → postX "java/util/NoSuchElementException" first kept zk ck fr to rp ro rm rt rd rc rf rh re)
    (h : ∀ r' e' f' k' qp qo qm qt qd qc qf qh qe, isN g.2.1.length a → RG (gPref g (ix a)) places odd moves token made calls r' heard e' → RHc (hPush hs g) f' k' qp qo qm qt qd qc qf qh qe → post (nI (lA g.2.1 (ix a))) f' k' 0 0 r' e' qp qo qm qt qd qc qf qh qe) : wp_X5_preferMove a places odd moves token made first kept zk ck calls fr heard to rp ro rm rt rd rc rf rh re post postX := by
  have hr0 := hr
  have hg0 := hg.1
  have hn := hg0.1
  have hm := hg0.2.1
  obtain ⟨hp, hv, ht⟩ := hr
  unfold wp_X5_preferMove
  rw [hv.1]
  refine n5_move hm h1 (fun ha => ?_)
  rw [← hv.1]
  refine x5_begin hH hg hr0 (fun f' k' qp qo qm qt qd qc qf qh qe hQ => ?_)
  obtain ⟨i, hi, e⟩ := ha
  have hpost := fun r' e' => h r' e' f' k' qp qo qm qt qd qc qf qh qe ⟨i, hi, e⟩
  rw [e, ix_nI (by omega)] at hpost
  rw [e]
  refine x1_bringToFront hv hm hi (fun r' e' hv' => ?_)
  have e3 : r' 0 = nI (lA g.2.1 i) := by
    rw [(hv'.2 0 (by rw [lFront_len hi]; omega)).1, lA_front.1]
    rfl
  rw [e3]
  exact hpost r' e' ⟨hp, hv', ht⟩ hQ
theorem x5_exchange {post : Int32 → Int32 → Int32 → Int32 → Int32 → Int32 → Int32 → Int32 → (Nat → Int32) → (Nat → Int32) → hT} {postX : String → Int32 → Int32 → Int32 → Int32 → Int32 → Int32 → Int32 → (Nat → Int32) → (Nat → Int32) → hT} (hH : RHc hs first kept rp ro rm rt rd rc rf rh re) (hg : gOk g) (hr : RG g places odd moves token made calls fr heard to)
    (h1 : ¬ pMax (lB g.1) g.1.length < 9 → postX "java/lang/IllegalStateException" odd token made first kept zk ck calls heard rp ro rm rt rd rc rf rh re)
    (h : ∀ o' t' d' c' h' f' k' qp qo qm qt qd qc qf qh qe, pMax (lB g.1) g.1.length < 9 → RG (gExch g) places o' moves t' d' c' fr h' to → RHc (hPush hs g) f' k' qp qo qm qt qd qc qf qh qe → post (nI (pMax (lB (gExch g).1) (gExch g).1.length)) o' t' d' f' k' 0 0 c' h' qp qo qm qt qd qc qf qh qe) : wp_X5_exchange places odd moves token made first kept zk ck calls fr heard to rp ro rm rt rd rc rf rh re post postX := by
  have hr0 := hr
  have hg0 := hg.1
  have hn := hg0.1
  have hm := hg0.2.1
  obtain ⟨hp, hv, ht⟩ := hr
  unfold wp_X5_exchange
  refine x1_greatestCall hp hn (fun u => (gOk_pl hg u).2) ?_
  have hmx : pMax (lB g.1) g.1.length ≤ 9 := pMax_le _ (fun j _ => by have := (gOk_pl hg j).2; omega)
  have e9 : nI (pMax (lB g.1) g.1.length) < (9 : Int32) ↔ pMax (lB g.1) g.1.length < 9 := nI_ltI (b := 9) (by omega) (by decide)
  refine ⟨fun q => ?_, fun q => h1 (fun y => q (e9.mpr y))⟩
  have hlt := e9.mp q
  have hgE := gOk_exch hg hlt
  refine x5_begin hH hg hr0 (fun f' k' qp qo qm qt qd qc qf qh qe hQ => ?_)
  have hpl : places = nI g.1.length := hp.1
  rw [hpl]
  refine x5_exchLoop hn hp.2.2 (fun v c' hc' => ?_)
  have hp2 := rp_exch hp hn (fun u => (gOk_pl hg u).1) hc'
  rw [← hpl]
  have hlen0 : 0 < (g.1.map exP).length := hgE.2.1
  refine x1_layAt (p := 0) hp2 hgE.1.1 (gOk0_ow hgE.1 0).2 hlen0 (fun t3 d3 h3 ht3 => ?_)
  exact x1_greatestCall hp2 hgE.1.1 (fun u => (gOk0_ow hgE.1 u).2) (h _ _ _ _ _ _ _ _ _ _ _ _ _ _ _ _ hlt ⟨hp2, hv, ht3⟩ hQ)
theorem x5_lay {post : Int32 → Int32 → Int32 → Int32 → Int32 → Int32 → Int32 → Int32 → Int32 → Int32 → (Nat → Int32) → (Nat → Int32) → (Nat → Int32) → (Nat → Int32) → hT} {postX : String → Int32 → Int32 → Int32 → Int32 → Int32 → Int32 → Int32 → Int32 → Int32 → (Nat → Int32) → (Nat → Int32) → (Nat → Int32) → (Nat → Int32) → hT} (hH : RHc hs first kept rp ro rm rt rd rc rf rh re) (hg : gOk g) (hr : RG g places odd moves token made calls fr heard to)
    (h1 : ¬ isN g.1.length a → postX "java/util/NoSuchElementException" bp ba token made first kept zero zk ck calling next owned heard rp ro rm rt rd rc rf rh re)
    (h : ∀ b1 b2 z' zk' c1 n1 o1 t' d' h' f' k' qp qo qm qt qd qc qf qh qe, isN g.1.length a → RG (gLay g (ix a)) places odd moves t' d' calls fr h' to → RZ g.1 g.2.1 z' zk' → RHc (hPush hs g) f' k' qp qo qm qt qd qc qf qh qe → post (wnV g.1 g.2.1 (ix a)) b1 b2 t' d' f' k' z' zk' 0 c1 n1 o1 h' qp qo qm qt qd qc qf qh qe) : wp_X5_lay a bp ba places odd moves token made first kept zero zk ck calling next owned calls fr heard to rp ro rm rt rd rc rf rh re post postX := by
  have hr0 := hr
  have hg0 := hg.1
  have hn := hg0.1
  have hm := hg0.2.1
  obtain ⟨hp, hv, ht⟩ := hr
  unfold wp_X5_lay
  rw [hp.1]
  refine n5_place hn h1 (fun ha => ?_)
  rw [← hp.1]
  refine x5_begin hH hg hr0 (fun f' k' qp qo qm qt qd qc qf qh qe hQ => ?_)
  obtain ⟨i, hi, e⟩ := ha
  have hpost := fun b1 b2 z' zk' c1 n1 o1 t' d' h' => h b1 b2 z' zk' c1 n1 o1 t' d' h' f' k' qp qo qm qt qd qc qf qh qe ⟨i, hi, e⟩
  rw [e, ix_nI (by omega)] at hpost
  rw [e]
  refine x1_layAt hp hn (gOk_pl hg i).2 hi (fun t3 d3 h3 ht3 => ?_)
  refine x5_winnerOf hg0 hp hv (fun q => absurd rfl q) hi (fun w b1 b2 z' zk' c1 n1 o1 hw w1 w2 hz' => ?_)
  rw [wnV_eq hw w1 w2]
  exact hpost _ _ _ _ _ _ _ _ _ _ ⟨hp, hv, ht3⟩ hz' hQ
theorem x5_go {post : Int32 → Int32 → Int32 → Int32 → Int32 → Int32 → Int32 → (Nat → Int32) → hT} {postX : String → Int32 → Int32 → Int32 → Int32 → Int32 → Int32 → (Nat → Int32) → hT} (hH : RHc hs first kept rp ro rm rt rd rc rf rh re) (hg : gOk g) (hr : RG g places odd moves token made calls fr heard to)
    (h1 : ¬ isN g.2.1.length a → postX "java/util/NoSuchElementException" token made first kept zk ck heard rp ro rm rt rd rc rf rh re)
    (h2 : isN g.2.1.length a → ¬ lA g.2.1 (ix a) = g.2.2.1 → postX "java/lang/IllegalStateException" token made first kept zk ck heard rp ro rm rt rd rc rf rh re)
    (h : ∀ t' d' h' f' k' qp qo qm qt qd qc qf qh qe, isN g.2.1.length a → lA g.2.1 (ix a) = g.2.2.1 → RG (gGo g (ix a)) places odd moves t' d' calls fr h' to → RHc (hPush hs g) f' k' qp qo qm qt qd qc qf qh qe → post (nI (lB g.1 (lB g.2.1 (ix a)))) t' d' f' k' 0 0 h' qp qo qm qt qd qc qf qh qe) : wp_X5_go a places odd moves token made first kept zk ck calls fr heard to rp ro rm rt rd rc rf rh re post postX := by
  have hr0 := hr
  have hg0 := hg.1
  have hn := hg0.1
  have hm := hg0.2.1
  obtain ⟨hp, hv, ht⟩ := hr
  unfold wp_X5_go
  rw [hv.1]
  refine n5_move hm h1 (fun ha => ?_)
  rw [← hv.1]
  have h2 := h2 ha
  obtain ⟨i, hi, e⟩ := ha
  have hpost := fun t' d' h' f' k' qp qo qm qt qd qc qf qh qe => h t' d' h' f' k' qp qo qm qt qd qc qf qh qe ⟨i, hi, e⟩
  rw [e, ix_nI (by omega)] at hpost h2
  rw [e]
  obtain ⟨g1, g2⟩ := gOk0_mv hg0 hi
  have htk := hg.2.2
  have eq : fr (nI i).toNatClampNeg = token ↔ lA g.2.1 i = g.2.2.1 := by
    rw [nI_clamp (show i < 2 ^ 31 by omega), (hv.2 i hi).1, ht.1]
    exact nI_eq (by omega) (by omega)
  refine ⟨vp_in_nI (by omega) (by decide), fun q => ?_, fun q => h2 (fun y => q (eq.mpr y))⟩
  refine x5_begin hH hg hr0 (fun f' k' qp qo qm qt qd qc qf qh qe hQ => ?_)
  refine x1_step hp hv ht hg0 hi (fun t3 d3 h3 ht3 => ?_)
  have e3 : calls t3.toNatClampNeg = nI (lB g.1 (lB g.2.1 i)) := by
    rw [ht3.1, nI_clamp (show lB g.2.1 i < 2 ^ 31 by omega), hp.2.2 _ g2]
  rw [e3]
  exact ⟨by rw [ht3.1]; exact vp_in_nI (by omega) (by decide), hpost _ _ _ _ _ _ _ _ _ _ _ _ _ _ (eq.mp q) ⟨hp, hv, ht3⟩ hQ⟩
end CHG5
