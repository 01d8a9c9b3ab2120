/-! the law's act -/
section ACT8
variable {pl mv : List (Nat × Nat)} {g : gm} {hs : List gm} {a b c bp ba places odd moves token made first kept zero zk ck : Int32} {o1 calls fr heard to calling next owned chosen seenAt : Nat → Int32} {rp ro rm rt rd : Nat → Int32} {rc rf rh re : Nat → Nat → Int32}
abbrev aT : Type := Int32 → (Nat → Int32) → Int32 → Int32 → Int32 → Int32 → Int32 → Int32 → Int32 → Int32 → Int32 → Int32 → Int32 → (Nat → Int32) → (Nat → Int32) → (Nat → Int32) → (Nat → Int32) → (Nat → Int32) → (Nat → Int32) → (Nat → Int32) → (Nat → Int32) → hT
theorem y_lay {p : Nat} {post : Int32 → Int32 → Int32 → Int32 → Int32 → Int32 → Int32 → Int32 → Int32 → Int32 → (Nat → Int32) → (Nat → Int32) → (Nat → Int32) → (Nat → Int32) → hT} {postX : String → Int32 → Int32 → Int32 → Int32 → Int32 → Int32 → Int32 → Int32 → Int32 → (Nat → Int32) → (Nat → Int32) → (Nat → Int32) → (Nat → Int32) → hT}
    (hp : p < g.1.length) (hH : RHc hs first kept rp ro rm rt rd rc rf rh re) (hg : gOk g) (hr : RG g places odd moves token made calls fr heard to)
    (h : ∀ b1 b2 z' zk' c1 n1 o1 t' d' h' f' k' qp qo qm qt qd qc qf qh qe, gOk (gLay g p) → RG (gLay g p) places odd moves t' d' calls fr h' to → RZ g.1 g.2.1 z' zk' → RHc (hPush hs g) f' k' qp qo qm qt qd qc qf qh qe → post (wnV g.1 g.2.1 p) b1 b2 t' d' f' k' z' zk' 0 c1 n1 o1 h' qp qo qm qt qd qc qf qh qe) :
    wp_X5_lay (nI p) bp ba places odd moves token made first kept zero zk ck calling next owned calls fr heard to rp ro rm rt rd rc rf rh re post postX := by
  have hn := hg.1.1
  have e : ix (nI p) = p := ix_nI (by omega)
  refine x5_lay hH hg hr (fun q => absurd ⟨p, hp, rfl⟩ q) (fun b1 b2 z' zk' c1 n1 o1 t' d' h' f' k' qp qo qm qt qd qc qf qh qe _ hr' hz' hH' => ?_)
  rw [e] at hr' ⊢
  exact h b1 b2 z' zk' c1 n1 o1 t' d' h' f' k' qp qo qm qt qd qc qf qh qe (gOk_lay hg hp) hr' hz' hH'
theorem wnV_pos (pl mv : List (Nat × Nat)) (p : Nat) : ¬ wnV pl mv p < 0 := by
  unfold wnV
  split
  · decide
  · decide
theorem y_act {post : aT} (hg : gOk g) (hr : RG g places odd moves token made calls fr heard to) (hz : RZ g.1 g.2.1 zero zk) (hc : RC g.1 g.2.1 chosen ck) (hH : RHc hs first kept rp ro rm rt rd rc rf rh re) (hm60 : g.2.1.length < 60)
    (h : ∀ o2 b1 b2 o' m' t' d' f' k' z' zk' ck' c1 n1 w1 c' r' h' e' ch' qp qo qm qt qd qc qf qh qe g', gOk g' → g'.1.length = g.1.length → g'.2.1.length ≤ g.2.1.length + 1 → RG g' places o' m' t' d' c' r' h' e' → RZ g'.1 g'.2.1 z' zk' → RC g'.1 g'.2.1 ch' ck' → RHc (hPush hs g) f' k' qp qo qm qt qd qc qf qh qe → post 1 o2 b1 b2 o' m' t' d' f' k' z' zk' ck' c1 n1 w1 c' r' h' e' ch' qp qo qm qt qd qc qf qh qe) :
    wp_L_act o1 bp ba places odd moves token made first kept zero zk ck calling next owned calls fr heard to chosen rp ro rm rt rd rc rf rh re post := by
  have hg0 := hg.1
  have hn1 := hg.2.1
  have hn := hg0.1
  have hm := hg0.2.1
  have htk := hg.2.2
  obtain ⟨hpp, hv, ht⟩ := hr
  have hr : RG g places odd moves token made calls fr heard to := ⟨hpp, hv, ht⟩
  have r0 : ∀ {pl mv : List (Nat × Nat)} {z : Int32}, RZ pl mv z 0 := fun {_ _ _} q => absurd rfl q
  have c0 : ∀ {pl mv : List (Nat × Nat)} {z : Nat → Int32}, RC pl mv z 0 := fun {_ _ _} q => absurd rfl q
  unfold wp_L_act
  refine y_size (w := 0) hg hr (by decide) (fun b1 b2 c1 n1 w1 => ?_)
  rw [sz_0]
  refine next_ok (fun j1 o2 hj1 => ⟨nI_ne0 (by omega) (by omega), ?_⟩)
  rw [pk_rem (by omega) (by omega) (by omega)]
  have hp : j1 % g.1.length < g.1.length := Nat.mod_lt _ hn1
  generalize j1 % g.1.length = p at hp ⊢
  have ep : ix (nI p) = p := ix_nI (by omega)
  refine y_size (w := 1) hg hr (by decide) (fun b1 b2 c1 n1 w1 => ?_)
  rw [sz_1]
  refine next_ok (fun j2 o2 hj2 => ?_)
  rw [show nI j2 - nI j2 / (8 : Int32) * (8 : Int32) = nI (j2 % 8) from pk_rem (d := 8) (by omega) (by decide) (by decide)]
  have hq8 : j2 % 8 < 8 := Nat.mod_lt _ (by decide)
  generalize j2 % 8 = q8 at hq8 ⊢
  have pickm : ∀ j, ¬ nI g.2.1.length = 0 → j < 8388608 → (nI j - nI j / nI g.2.1.length * nI g.2.1.length = nI (j % g.2.1.length)) ∧ j % g.2.1.length < g.2.1.length := by
    intro j h0 hj
    have h1 : 0 < g.2.1.length := by
      rcases Nat.eq_zero_or_pos g.2.1.length with y | y
      · rw [y] at h0; exact absurd rfl h0
      · exact y
    exact ⟨pk_rem (by omega) h1 (by omega), Nat.mod_lt _ h1⟩
  have layp : ∀ {p : Nat} (hp : p < g.1.length) {r : Int32 → Int32 → Int32 → Int32 → Int32 → Int32 → Int32 → Int32 → Int32 → Int32 → (Nat → Int32) → (Nat → Int32) → (Nat → Int32) → (Nat → Int32) → hT} {rX : String → Int32 → Int32 → Int32 → Int32 → Int32 → Int32 → Int32 → Int32 → Int32 → (Nat → Int32) → (Nat → Int32) → (Nat → Int32) → (Nat → Int32) → hT} {bp ba zero zk ck : Int32} {calling next owned : Nat → Int32},
      (∀ b1 b2 z' zk' c1 n1 w1 t' d' h' f' k' qp qo qm qt qd qc qf qh qe, gOk (gLay g p) → RG (gLay g p) places odd moves t' d' calls fr h' to → RZ g.1 g.2.1 z' zk' → RHc (hPush hs g) f' k' qp qo qm qt qd qc qf qh qe → r (wnV g.1 g.2.1 p) b1 b2 t' d' f' k' z' zk' 0 c1 n1 w1 h' qp qo qm qt qd qc qf qh qe) → wp_X5_lay (nI p) bp ba places odd moves token made first kept zero zk ck calling next owned calls fr heard to rp ro rm rt rd rc rf rh re r rX := fun {_} hp {_ _ _ _ _ _ _ _ _ _} k => y_lay hp hH hg hr k
  have sw : ∀ {m : Nat} {P : Prop}, m < 8 → (q8 = m → P) → (nI q8 = nI m → P) := fun hm k e => k ((nI_eq (by omega) (by omega)).mp e)
  refine ⟨sw (m := 0) (by decide) (fun _ => ?_), sw (m := 1) (by decide) (fun _ => ?_), sw (m := 2) (by decide) (fun _ => ?_), sw (m := 3) (by decide) (fun _ => ?_), sw (m := 4) (by decide) (fun _ => ?_), sw (m := 5) (by decide) (fun _ => ?_), sw (m := 6) (by decide) (fun _ => ?_), fun _ => ?_⟩
  · -- another call
    refine next_ok (fun j3 o2 hj3 => ?_)
    rw [show nI j3 - nI j3 / (10 : Int32) * (10 : Int32) = nI (j3 % 10) from pk_rem (d := 10) (by omega) (by decide) (by decide)]
    have hcc : j3 % 10 < 10 := Nat.mod_lt _ (by decide)
    generalize j3 % 10 = c at hcc ⊢
    have ec : ix (nI c) = c := ix_nI (by omega)
    refine x5_wonIfCall hg0 hpp hv (fun q => absurd ⟨p, hp, rfl⟩ q) (fun _ q => absurd ⟨c, hcc, rfl⟩ q) (fun will b1 b2 c1 n1 w1 _ _ hwill => ?_)
    refine x5_setCall hH hg hr (fun q => absurd ⟨p, hp, rfl⟩ q) (fun _ q => absurd ⟨c, hcc, rfl⟩ q) (fun c' f' k' qp qo qm qt qd qc qf qh qe _ _ hr' hH' => ⟨nI_pos (by have := (gOk0_ow hg0 (ix (nI p))).2; omega), ?_⟩)
    rw [ep, ec] at hwill hr'
    have hg' : gOk (gSetCall g p c) := gOk_set hg (gOk0_ow hg0 p).1 hcc
    refine y_won (i := 0) (by decide) hg'.1 hr'.1 hr'.2.1 r0 (fun r b1 b2 z k c1 n1 w1 hr2 hz2 => ⟨b_same hr2 hwill, ?_⟩)
    exact h _ _ _ _ _ _ _ _ _ _ _ _ _ _ _ _ _ _ _ _ _ _ _ _ _ _ _ _ _ (gSetCall g p c) hg' List.length_set (Nat.le_succ _) hr' hz2 c0 hH'
  · -- the other owner
    have hop := (gOk0_ow hg0 p).1
    refine x5_wonIfOther hg0 hpp hv (fun q => absurd ⟨p, hp, rfl⟩ q) (fun will b1 b2 c1 n1 w1 _ hwill => ?_)
    refine y_place (w := 0) hg0 hpp hv hz hp (by decide) (fun b1 b2 z' k' c1 n1 w1 hz => ?_)
    rw [pa_0, i_1sub hop]
    have eo : ix (nI (1 - lA g.1 p)) = 1 - lA g.1 p := ix_nI (by omega)
    refine x5_setOwner hH hg hr (fun q => absurd ⟨p, hp, rfl⟩ q) (fun _ q => absurd ⟨1 - lA g.1 p, by omega, rfl⟩ q) (fun o' f' k' qp qo qm qt qd qc qf qh qe _ _ hr' hH' => ⟨fun q => ?_, ?_⟩)
    · rw [ep] at q
      have := (nI_leI (a := 2) (by omega) (by omega)).mp q
      omega
    rw [ep] at hwill
    rw [ep, eo] at hr'
    have hg' : gOk (gSetOwner g p (1 - lA g.1 p)) := gOk_set hg (by show 1 - lA g.1 p < 2; omega) (gOk0_ow hg0 p).2
    refine y_won (i := 0) (by decide) hg'.1 hr'.1 hr'.2.1 r0 (fun r b1 b2 z k c1 n1 w1 hr2 hz2 => ⟨b_same hr2 hwill, ?_⟩)
    exact h _ _ _ _ _ _ _ _ _ _ _ _ _ _ _ _ _ _ _ _ _ _ _ _ _ _ _ _ _ (gSetOwner g p (1 - lA g.1 p)) hg' List.length_set (Nat.le_succ _) hr' hz2 c0 hH'
  · -- a move less
    refine ⟨fun h0 => ?_, fun _ => ?_⟩
    · refine next_ok (fun j3 o2 hj3 => ⟨h0, ?_⟩)
      obtain ⟨e3, hk⟩ := pickm j3 h0 hj3
      rw [e3]
      generalize j3 % g.2.1.length = k at hk ⊢
      have ek : ix (nI k) = k := ix_nI (by omega)
      refine x5_wonWithout hg0 hpp hv (fun q => absurd ⟨k, hk, rfl⟩ q) (fun will b1 b2 c1 n1 w1 _ hwill => ?_)
      refine x5_removeMove hH hg hr (fun q => absurd ⟨k, hk, rfl⟩ q) (fun m' r' e' f' k' qp qo qm qt qd qc qf qh qe _ hr' hH' => ?_)
      rw [ek] at hwill hr' ⊢
      have el : (gRemMove g k).2.1.length = g.2.1.length - 1 := List.length_eraseIdx_of_lt hk
      have hg' : gOk (gRemMove g k) := gOk_remMove hg
      refine ⟨by rw [el, i_subp (by omega)], ?_⟩
      refine y_won (i := 0) (by decide) hg'.1 hr'.1 hr'.2.1 r0 (fun r b1 b2 z k c1 n1 w1 hr2 hz2 => ⟨b_same (fun u => (hr2 u).trans (gW_rem hg0.2.2.2.2 hk)) hwill, ?_⟩)
      exact h _ _ _ _ _ _ _ _ _ _ _ _ _ _ _ _ _ _ _ _ _ _ _ _ _ _ _ _ _ (gRemMove g _) hg' rfl (by rw [el]; omega) hr' hz2 c0 hH'
    · refine layp hp (fun b1 b2 z' zk' c1 n1 w1 t' d' h' f' k' qp qo qm qt qd qc qf qh qe hg' hr' hz' hH' => ?_)
      refine y_place (w := 4) hg0 hpp hv hz' hp (by decide) (fun b1 b2 z' k' c1 n1 w1 hz => ⟨(pa_4 p).symm, ?_⟩)
      exact h _ _ _ _ _ _ _ _ _ _ _ _ _ _ _ _ _ _ _ _ _ _ _ _ _ _ _ _ _ (gLay g p) hg' rfl (Nat.le_succ _) hr' hz c0 hH'
  · -- a move more
    refine next_ok (fun j3 o2 hj3 => ⟨nI_ne0 (by omega) (by omega), ?_⟩)
    rw [pk_rem (by omega) (by omega) (by omega)]
    have ht2 : j3 % g.1.length < g.1.length := Nat.mod_lt _ hn1
    generalize j3 % g.1.length = q at ht2 ⊢
    have eq2 : ix (nI q) = q := ix_nI (by omega)
    refine x5_moveBetween hg0 hpp hv (fun y => absurd ⟨⟨p, hp, rfl⟩, ⟨q, ht2, rfl⟩⟩ y) (fun _ => ?_)
    rw [ep, eq2]
    refine x5_wonWith hg0 hpp hv (fun y => absurd ⟨⟨p, hp, rfl⟩, ⟨q, ht2, rfl⟩⟩ y) (fun will b1 b2 c1 n1 w1 _ hwill => ?_)
    rw [ep, eq2] at hwill
    by_cases hed : gEd g.2.1 p q
    · obtain ⟨k0, hk0, ha0, hb0⟩ := hed
      obtain ⟨k, ⟨hk, hP⟩, hmin⟩ := pk_least (fun k => k < g.2.1.length ∧ (decide (lA g.2.1 k = p) && decide (lB g.2.1 k = q)) = true) ⟨k0, hk0, by rw [ha0, hb0, decide_eq_true rfl, decide_eq_true rfl]; rfl⟩
      have hed : gEd g.2.1 p q := ⟨k0, hk0, ha0, hb0⟩
      rw [rFst_hit hP (fun j hj y => hmin j hj ⟨by omega, y⟩) hk]
      refine y_led hH hg hr (fun y => absurd ⟨⟨p, hp, rfl⟩, ⟨q, ht2, rfl⟩⟩ y) (fun _ _ => ?_) (fun _ y => absurd hed (by rwa [ep, eq2] at y)) (fun _ _ _ _ _ _ _ _ _ _ _ _ _ _ _ y => absurd hed (by rwa [ep, eq2] at y))
      refine ⟨fun _ => ⟨rfl, fun y => absurd y (nI_pos (by omega)), fun _ => ?_⟩, fun y => absurd (nI_pos' (by omega)) y⟩
      refine layp hp (fun b1 b2 z' zk' c1 n1 w1 t' d' h' f' k' qp qo qm qt qd qc qf qh qe hg' hr' hz' hH' => ⟨wnV_pos _ _ _, ?_⟩)
      refine y_won (i := 0) (by decide) hg0 hpp hv hz' (fun r b1 b2 z k c1 n1 w1 hr2 hz2 => ⟨b_same (fun u => (hr2 u).trans (gW_same hed)) hwill, ?_⟩)
      exact h _ _ _ _ _ _ _ _ _ _ _ _ _ _ _ _ _ _ _ _ _ _ _ _ _ _ _ _ _ (gLay g p) hg' rfl (Nat.le_succ _) hr' hz2 c0 hH'
    · rw [rFst_none (fun j hj y => by
        rw [Bool.and_eq_true, decide_eq_true_eq, decide_eq_true_eq] at y
        exact hed ⟨j, hj, y.1, y.2⟩)]
      refine y_led hH hg hr (fun y => absurd ⟨⟨p, hp, rfl⟩, ⟨q, ht2, rfl⟩⟩ y) (fun _ y => absurd (by rwa [ep, eq2] at y) hed) (fun _ _ y => absurd hm60 y) (fun m' r' e' f' k' qp qo qm qt qd qc qf qh qe _ _ _ hr' hH' => ?_)
      rw [ep, eq2] at hr'
      have hg' : gOk (gAddMove g p q) := gOk_addMove hg hm60 hp ht2 hed
      have el : (gAddMove g p q).2.1.length = g.2.1.length + 1 := List.length_append
      refine ⟨fun y => absurd y (by decide), fun _ => ⟨rfl, fun _ => ?_, fun y => absurd (by decide) y⟩⟩
      refine y_won (i := 0) (by decide) hg'.1 hr'.1 hr'.2.1 r0 (fun r b1 b2 z k c1 n1 w1 hr2 hz2 => ⟨b_same (fun u => (hr2 u).trans gW_add) hwill, ?_⟩)
      exact h _ _ _ _ _ _ _ _ _ _ _ _ _ _ _ _ _ _ _ _ _ _ _ _ _ _ _ _ _ (gAddMove g p q) hg' rfl (by rw [el]; exact Nat.le_refl _) hr' hz2 c0 hH'
  · -- running
    refine next_ok (fun j3 o2 hj3 => ?_)
    rw [show nI j3 - nI j3 / (9 : Int32) * (9 : Int32) = nI (j3 % 9) from pk_rem (d := 9) (by omega) (by decide) (by decide), show (1 : Int32) + nI (j3 % 9) = nI (1 + j3 % 9) from nI_add 1 _]
    have hs9 : 0 < 1 + j3 % 9 ∧ 1 + j3 % 9 < 10 := by omega
    generalize 1 + j3 % 9 = st at hs9 ⊢
    have es : ix (nI st) = st := ix_nI (by omega)
    refine y_size (w := 6) hg hr (by decide) (fun b1 b2 c1 n1 w1 => ?_)
    rw [sz_6]
    refine y_follow htk (by omega) hg0 hpp hv hz hc (fun b1 b2 z' k' c1 n1 w1 ch hz hc => ?_)
    refine y_size (w := 7) hg hr (by decide) (fun b1 b2 c1 n1 w1 => ?_)
    rw [sz_7]
    refine x5_run hH hg hr (fun y => absurd ⟨⟨st, by omega, rfl⟩, nI_ne0 hs9.1 (by omega)⟩ y) (fun b1 b2 z' zk' c1 n1 w1 ch t' d' h' f' k' qp qo qm qt qd qc qf qh qe _ hr' hg' hz' hc' hH' => ?_)
    rw [es] at hr' hg' ⊢
    have hJ := rnJ_ok g.1 g.2.1 g.2.2.1 st
    have fin : ∀ {b1 b2 : Int32} {c1 n1 w1 : Nat → Int32}, post 1 o2 b1 b2 odd moves t' d' f' k' z' zk' 1 c1 n1 w1 calls fr h' to ch qp qo qm qt qd qc qf qh qe := fun {_ _ _ _ _} => h _ _ _ _ _ _ _ _ _ _ _ _ _ _ _ _ _ _ _ _ _ _ _ _ _ _ _ _ _ (gRun g st) hg' rfl (Nat.le_succ _) hr' hz' hc' hH'
    by_cases hgo : foGo g.1 g.2.1 g.2.2.1 st
    · rw [foV_go hgo, rnJ_all hgo]
      have hlt := foGo_lt hg0 htk st hgo
      refine ⟨fun y => absurd y (nI_pos (by omega)), fun _ => ⟨fun y => absurd rfl y, fun _ => ⟨fun y => absurd y (nI_pos (by omega)), fun _ => ?_⟩⟩⟩
      refine y_size (w := 6) hg' hr' (by decide) (fun b1 b2 c1 n1 w1 => ⟨?_, ?_⟩)
      · rw [sz_6]
        show nI (plTr g.1 g.2.1 g.2.2.1 (rnJ g.1 g.2.1 g.2.2.1 st)) = _
        rw [rnJ_all hgo]
      refine y_size (w := 7) hg' hr' (by decide) (fun b1 b2 c1 n1 w1 => ⟨?_, fin⟩)
      rw [sz_7]
      show g.2.2.2.1 + nI (rnJ g.1 g.2.1 g.2.2.1 st) = _
      rw [rnJ_all hgo]
    · rw [foV_no hgo]
      have hlt := rnJ_not hgo
      refine ⟨fun _ => ⟨fun _ => ⟨fun _ => ?_, fun y => absurd (by decide) y⟩, fun y => ?_⟩, fun y => absurd (by decide) y⟩
      · exact y_size (w := 7) hg' hr' (by decide) (fun b1 b2 c1 n1 w1 => ⟨by rw [sz_7]; rfl, fin⟩)
      · have := (nI_eq (by omega) (by omega)).mp y
        omega
  · -- exchanged
    refine y_won (i := 1) (by decide) hg0 hpp hv hz (fun will b1 b2 z' k' c1 n1 w1 hwill hz => ?_)
    refine y_size (w := 5) hg hr (by decide) (fun b1 b2 c1 n1 w1 => ?_)
    rw [sz_5]
    have hmx : pMax (lB g.1) g.1.length < 10 := Nat.lt_succ_of_le (pMax_le _ (fun k _ => Nat.le_of_lt_succ (gOk0_ow hg0 k).2))
    refine ⟨fun y => ?_, fun y => ?_⟩
    · refine layp hp (fun b1 b2 z' zk' c1 n1 w1 t' d' h' f' k' qp qo qm qt qd qc qf qh qe hg' hr' hz' hH' => ?_)
      refine y_place (w := 4) hg0 hpp hv hz' hp (by decide) (fun b1 b2 z' k' c1 n1 w1 hz => ⟨(pa_4 p).symm, ?_⟩)
      exact h _ _ _ _ _ _ _ _ _ _ _ _ _ _ _ _ _ _ _ _ _ _ _ _ _ _ _ _ _ (gLay g p) hg' rfl (Nat.le_succ _) hr' hz c0 hH'
    · have hc9 : pMax (lB g.1) g.1.length < 9 := by
        rcases Nat.lt_or_ge (pMax (lB g.1) g.1.length) 9 with x | x
        · exact x
        · exact absurd (nI_le x (by omega)) y
      have hg' : gOk (gExch g) := gOk_exch hg hc9
      refine x5_exchange hH hg hr (fun x => absurd hc9 x) (fun o' t' d' c' h' f' k' qp qo qm qt qd qc qf qh qe _ hr' hH' => ⟨?_, ?_⟩)
      · have hmx' : pMax (lB (gExch g).1) (gExch g).1.length < 10 := Nat.lt_succ_of_le (pMax_le _ (fun k _ => Nat.le_of_lt_succ (gOk0_ow hg'.1 k).2))
        exact nI_nlt (a := 9) (by omega) (by omega)
      refine y_won (i := 0) (by decide) hg'.1 hr'.1 hr'.2.1 r0 (fun r b1 b2 z k c1 n1 w1 hr2 hz2 => ⟨b_same (fun u => (hr2 u).trans (gW_exch hg0 hg'.1)) hwill, ?_⟩)
      exact h _ _ _ _ _ _ _ _ _ _ _ _ _ _ _ _ _ _ _ _ _ _ _ _ _ _ _ _ _ (gExch g) hg' (List.length_map _) (Nat.le_succ _) hr' hz2 c0 hH'
  · -- a move put first
    refine ⟨fun h0 => ?_, fun _ => ?_⟩
    · refine next_ok (fun j3 o2 hj3 => ⟨h0, ?_⟩)
      obtain ⟨e3, hk⟩ := pickm j3 h0 hj3
      rw [e3]
      generalize j3 % g.2.1.length = k at hk ⊢
      have ek : ix (nI k) = k := ix_nI (by omega)
      have el : (gPref g k).2.1.length = g.2.1.length := lFront_len hk
      refine y_move (w := 0) hg0 hv hk (by decide) ?_
      refine y_move (w := 1) hg0 hv hk (by decide) ?_
      rw [if_pos rfl, if_neg (by decide)]
      refine y_won (i := 0) (by decide) hg0 hpp hv hz (fun will b1 b2 z' k' c1 n1 w1 hwill hz => ?_)
      refine x5_preferMove hH hg hr (fun q => absurd ⟨k, hk, rfl⟩ q) (fun r' e' f' k' qp qo qm qt qd qc qf qh qe _ hr' hH' => ?_)
      rw [ek] at hr' ⊢
      have hg' : gOk (gPref g k) := gOk_pref hg hk
      refine ⟨rfl, ?_⟩
      refine y_move (u := 0) (w := 1) hg'.1 hr'.2.1 (by rw [el]; omega) (by decide) ⟨?_, ?_⟩
      · rw [if_neg (by decide)]
        show nI (lB (lFront g.2.1 k) 0) = _
        rw [lA_front.2, if_pos rfl]
      refine y_won (i := 0) (by decide) hg'.1 hr'.1 hr'.2.1 r0 (fun r b1 b2 z k c1 n1 w1 hr2 hz2 => ⟨b_same (fun u => (hr2 u).trans (gW_pref hk)) hwill, ?_⟩)
      exact h _ _ _ _ _ _ _ _ _ _ _ _ _ _ _ _ _ _ _ _ _ _ _ _ _ _ _ _ _ (gPref g _) hg' rfl (by rw [el]; exact Nat.le_succ _) hr' hz2 c0 hH'
    · refine layp (p := 0) hn1 (fun b1 b2 z' zk' c1 n1 w1 t' d' h' f' k' qp qo qm qt qd qc qf qh qe hg' hr' hz' hH' => ?_)
      refine y_place (u := 0) (w := 4) hg0 hpp hv hz' hn1 (by decide) (fun b1 b2 z' k' c1 n1 w1 hz => ⟨(pa_4 0).symm, ?_⟩)
      exact h _ _ _ _ _ _ _ _ _ _ _ _ _ _ _ _ _ _ _ _ _ _ _ _ _ _ _ _ _ (gLay g 0) hg' rfl (Nat.le_succ _) hr' hz c0 hH'
  · -- going
    refine y_size (w := 6) hg hr (by decide) (fun b1 b2 c1 n1 w1 => ?_)
    rw [sz_6]
    have layt : ∀ {o2 : Nat → Int32} {b1 b2 z zk ck : Int32} {c1 n1 w1 : Nat → Int32} {rX : String → Int32 → Int32 → Int32 → Int32 → Int32 → Int32 → Int32 → Int32 → Int32 → (Nat → Int32) → (Nat → Int32) → (Nat → Int32) → (Nat → Int32) → hT},
        wp_X5_lay (nI g.2.2.1) b1 b2 places odd moves token made first kept z zk ck c1 n1 w1 calls fr heard to rp ro rm rt rd rc rf rh re
          (fun r b1 b2 t' d' f' k' z' zk' ck' c1 n1 w1 h' qp qo qm qt qd qc qf qh qe => (¬ r < 0) ∧ post 1 o2 b1 b2 odd moves t' d' f' k' z' zk' ck' c1 n1 w1 calls fr h' to chosen qp qo qm qt qd qc qf qh qe) rX := fun {_ _ _ _ _ _ _ _ _ _} =>
      layp htk (fun b1 b2 z' zk' c1 n1 w1 t' d' h' f' k' qp qo qm qt qd qc qf qh qe hg' hr' hz' hH' => ⟨wnV_pos _ _ _, h _ _ _ _ _ _ _ _ _ _ _ _ _ _ _ _ _ _ _ _ _ _ _ _ _ _ _ _ _ (gLay g g.2.2.1) hg' rfl (Nat.le_succ _) hr' hz' c0 hH'⟩)
    refine ⟨fun h0 => ?_, fun h0 => ?_⟩
    · refine next_ok (fun j3 o2 hj3 => ⟨h0, ?_⟩)
      obtain ⟨e3, hk⟩ := pickm j3 h0 hj3
      rw [e3]
      generalize j3 % g.2.1.length = k at hk ⊢
      have ek : ix (nI k) = k := ix_nI (by omega)
      refine ⟨fun y => absurd y (nI_nle (by omega) (by omega)), fun _ => ?_⟩
      refine y_move (w := 0) hg0 hv hk (by decide) ?_
      rw [if_pos rfl]
      have hak := (gOk0_mv hg0 hk).1
      refine ⟨fun hne => ?_, fun heq => ?_⟩
      · have hne2 : ¬ lA g.2.1 k = g.2.2.1 := fun y => hne (by rw [y])
        refine y_gone hH hg hr (fun y => absurd ⟨k, hk, rfl⟩ y) (fun _ _ => ⟨by decide, layt⟩) (fun _ _ _ _ _ _ _ _ _ _ _ _ _ _ _ y => absurd (by rwa [ek] at y) hne2)
      · have heq2 : lA g.2.1 k = g.2.2.1 := (nI_eq (by omega) (by omega)).mp heq
        refine y_gone hH hg hr (fun y => absurd ⟨k, hk, rfl⟩ y) (fun _ y => absurd heq2 (by rwa [ek] at y)) (fun t' d' h' f' k' qp qo qm qt qd qc qf qh qe _ _ hr' hH' => ?_)
        rw [ek] at hr' ⊢
        have hg' : gOk (gGo g k) := gOk_go hg hk
        refine y_size (w := 6) hg' hr' (by decide) (fun b1 b2 c1 n1 w1 => ?_)
        rw [sz_6]
        refine y_place (u := lB g.2.1 k) (w := 1) (pl := g.1) (mv := g.2.1) hg0 hpp hv r0 (gOk0_mv hg0 hk).2 (by decide) (fun b1 b2 z' k' c1 n1 w1 hz => ⟨(pa_1 _).symm, ?_⟩)
        exact h _ _ _ _ _ _ _ _ _ _ _ _ _ _ _ _ _ _ _ _ _ _ _ _ _ _ _ _ _ (gGo g _) hg' rfl (Nat.le_succ _) hr' hz c0 hH'
    · have hm0 : g.2.1.length = 0 := (nI_eq (b := 0) (by omega) (by omega)).mp h0
      refine ⟨fun _ => ?_, fun y => absurd (by rw [h0]; decide) y⟩
      refine y_gone hH hg hr (fun y => ⟨by decide, layt⟩) (fun y => ?_) (fun _ _ _ _ _ _ _ _ _ _ _ _ _ _ y => ?_)
      · obtain ⟨k, hk, _⟩ := y
        omega
      · obtain ⟨k, hk, _⟩ := y
        omega
end ACT8
