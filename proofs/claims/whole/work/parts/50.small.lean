/-! size, place, move, moveBetween, heard: both sides -/
theorem sw_case {a : Int32} {n : Nat} {X : Prop} (hn : n ≤ 1000) (h : ¬ isN n a → X) (ha : a.toInt < 0 ∨ ((n : Int) - 1) < a.toInt) : X := h (fun ⟨k, hk, e⟩ => by
  rw [e, nI_toInt (show k < 2 ^ 31 by omega)] at ha
  omega)
section SM5
variable {pl mv : List (Nat × Nat)} {g : gm} {a b places odd moves token made bp ba zero zk : Int32} {calls fr to heard calling next owned : Nat → Int32}
  {post : Int32 → Int32 → Int32 → Int32 → Int32 → (Nat → Int32) → (Nat → Int32) → (Nat → Int32) → Prop} {postX : String → Int32 → Int32 → Int32 → Int32 → (Nat → Int32) → (Nat → Int32) → (Nat → Int32) → Prop}
  {postB : Int32 → Int32 → Int32 → (Nat → Int32) → (Nat → Int32) → (Nat → Int32) → Prop} {postXB : String → Int32 → Int32 → (Nat → Int32) → (Nat → Int32) → (Nat → Int32) → Prop}
  {post1 : Int32 → Prop} {postX1 : String → Prop}
/-- who wins from s, as a number -/
noncomputable def wnV (pl mv : List (Nat × Nat)) (s : Nat) : Int32 := if pD (gW pl mv allL 0 s) = true then 0 else 1
theorem wnV_eq {s i : Nat} (hi : i < 2) (h1 : gW pl mv allL i s) (h2 : ¬ gW pl mv allL (1 - i) s) : nI i = wnV pl mv s := by
  unfold wnV
  rcases (show i = 0 ∨ i = 1 by omega) with e | e
  · subst e; rw [if_pos (pD_t.mpr h1)]; rfl
  · subst e; rw [if_neg (fun q => h2 (pD_t.mp q))]; rfl
/-- what place tells -/
noncomputable def paV (pl mv : List (Nat × Nat)) (s w : Nat) : Int32 := if w = 0 then nI (lA pl s) else if w = 1 then nI (lB pl s) else if w = 2 then nI (pCnt (fun k => decide (lA mv k = s)) mv.length) else if w = 3 then nI (pCnt (fun k => decide (lB mv k = s)) mv.length) else wnV pl mv s
theorem x5_place (hg : gOk0 pl mv) (hp : RP pl places odd calls) (hv : RV mv moves fr to) (hz : RZ pl mv zero zk)
    (h1 : ¬ isN pl.length a → postX "java/util/NoSuchElementException" bp ba zero zk calling next owned)
    (h2 : isN pl.length a → ¬ isN 5 b → postX "java/lang/IllegalArgumentException" bp ba zero zk calling next owned)
    (h : ∀ b1 b2 z' k' c1 n1 o1, isN pl.length a → isN 5 b → RZ pl mv z' k' → post (paV pl mv (ix a) (ix b)) b1 b2 z' k' c1 n1 o1) : wp_X5_place a b bp ba places odd moves zero zk calling next owned calls fr to post postX := by
  have hn := hg.1
  have hm := hg.2.1
  have hvl : ∀ x, x < mv.length → lA mv x < 1000 ∧ lB mv x < 1000 := fun x hx => by have := gOk0_mv hg hx; omega
  unfold wp_X5_place
  rw [hp.1]
  refine n5_place hn h1 (fun ha => ?_)
  obtain ⟨s, hs, e⟩ := ha
  have hpost := fun j (hj : j < 5) (e2 : b = nI j) b1 b2 z' k' c1 n1 o1 => h b1 b2 z' k' c1 n1 o1 ⟨s, hs, e⟩ ⟨j, hj, e2⟩
  rw [← hp.1, e]
  rw [e, ix_nI (by omega)] at hpost
  unfold paV at hpost
  refine ⟨fun q => ?_, fun q => ?_, fun q => ?_, fun q => ?_, fun q => ?_, fun q => sw_case (n := 5) (by decide) (h2 ⟨s, hs, e⟩) q⟩
  · have := hpost 0 (by decide) q bp ba zero zk calling next owned hz
    rw [q] at this
    exact x1_ownerOf hp hs hn (gOk0_ow hg s).1 this
  · have := hpost 1 (by decide) q bp ba zero zk calling next owned hz
    rw [q] at this
    refine ⟨vp_in_nI (by omega) (by decide), ?_⟩
    rw [nI_clamp (show s < 2 ^ 31 by omega), hp.2.2 s hs]
    exact this
  · have := hpost 2 (by decide) q bp ba zero zk calling next owned hz
    rw [q] at this
    exact x1_movesFrom hv hm hvl (by omega) this
  · have := hpost 3 (by decide) q bp ba zero zk calling next owned hz
    rw [q] at this
    exact x1_movesTo hv hm hvl (by omega) this
  · have hh := hpost 4 (by decide) q
    rw [q] at hh
    refine x5_winnerOf hg hp hv hz hs (fun i b1 b2 z' k' c1 n1 o1 hi w1 w2 hz' => ?_)
    rw [wnV_eq hi w1 w2]
    exact hh b1 b2 z' k' c1 n1 o1 hz'
theorem x5_move (hg : gOk0 pl mv) (hv : RV mv moves fr to)
    (h1 : ¬ isN mv.length a → postX1 "java/util/NoSuchElementException")
    (h2 : isN mv.length a → ¬ isN 2 b → postX1 "java/lang/IllegalArgumentException")
    (h : isN mv.length a → isN 2 b → post1 (nI (if ix b = 0 then lA mv (ix a) else lB mv (ix a)))) : wp_X5_move a b moves fr to post1 postX1 := by
  have hm := hg.2.1
  unfold wp_X5_move
  rw [hv.1]
  refine n5_move hm h1 (fun ha => ?_)
  obtain ⟨k, hk, e⟩ := ha
  have hpost := fun j (hj : j < 2) (e2 : b = nI j) => h ⟨k, hk, e⟩ ⟨j, hj, e2⟩
  rw [e, ix_nI (by omega)] at hpost
  rw [e, nI_clamp (show k < 2 ^ 31 by omega), (hv.2 k hk).1, (hv.2 k hk).2]
  have hin : vp_in (nI k) 60 := vp_in_nI (by omega) (by decide)
  refine ⟨fun q => ⟨fun z => absurd q z, fun _ => ⟨hin, ?_⟩⟩, fun q => ⟨fun q2 => ⟨fun _ => ⟨hin, ?_⟩, fun z => absurd z q⟩, fun q2 => h2 ⟨k, hk, e⟩ (fun ⟨j, hj, e2⟩ => ?_)⟩⟩
  · have := hpost 0 (by decide) q
    rw [q] at this
    exact this
  · have := hpost 1 (by decide) q2
    rw [q2] at this
    exact this
  · rcases (show j = 0 ∨ j = 1 by omega) with y | y
    · subst y; exact q e2
    · subst y; exact q2 e2
theorem x5_moveBetween (hg : gOk0 pl mv) (hp : RP pl places odd calls) (hv : RV mv moves fr to)
    (h1 : ¬ (isN pl.length a ∧ isN pl.length b) → postX1 "java/util/NoSuchElementException")
    (h : isN pl.length a ∧ isN pl.length b → post1 (rFst (fun k => decide (lA mv k = ix a) && decide (lB mv k = ix b)) mv.length)) : wp_X5_moveBetween a b places moves fr to post1 postX1 := by
  have hn := hg.1
  have hvl : ∀ x, x < mv.length → lA mv x < 1000 ∧ lB mv x < 1000 := fun x hx => by have := gOk0_mv hg hx; omega
  unfold wp_X5_moveBetween
  rw [hp.1]
  refine n5_place hn (fun q => h1 (fun z => q z.1)) (fun ha => n5_place hn (fun q => h1 (fun z => q z.2)) (fun hb => ?_))
  have hpost := h ⟨ha, hb⟩
  obtain ⟨k, hk, e⟩ := ha
  obtain ⟨j, hj, e2⟩ := hb
  rw [e, e2, ix_nI (by omega), ix_nI (by omega)] at hpost
  rw [e, e2]
  exact x1_findMove hv hg.2.1 hvl (by omega) (by omega) hpost
theorem x5_heard {tk : Nat} {md : Int32} {hd : Nat → Int32} (ht : RT tk md hd token made heard)
    (h1 : ¬ isN 10 a → postX1 "java/lang/IllegalArgumentException") (h : isN 10 a → post1 (hd (ix a))) : wp_X5_heard a heard post1 postX1 := by
  unfold wp_X5_heard
  refine n5_call h1 (fun ha => ?_)
  have hpost := h ha
  obtain ⟨k, hk, e⟩ := ha
  rw [e, ix_nI (by omega), ← ht.2.2 k hk] at hpost
  rw [e, nI_clamp (show k < 2 ^ 31 by omega)]
  exact ⟨vp_in_nI hk (by decide), hpost⟩
/-- how many places player 0 has; how many have no move; how many calls there are -/
def c0V (pl : List (Nat × Nat)) : Nat := pCnt (fun u => decide (lA pl u = 0)) pl.length
noncomputable def cDead (pl mv : List (Nat × Nat)) : Nat := pCnt (fun u => pD (¬ ∃ w, gEd mv u w)) pl.length
noncomputable def cCalls (pl : List (Nat × Nat)) : Nat := pCnt (fun c => pD (∃ u, u < pl.length ∧ lB pl u = c)) 10
noncomputable def szV (g : gm) (w : Nat) : Int32 := if w = 0 then nI g.1.length else if w = 1 then nI g.2.1.length else if w = 2 then nI (c0V g.1) else if w = 3 then nI (cDead g.1 g.2.1) else if w = 4 then nI (cCalls g.1) else if w = 5 then nI (pMax (lB g.1) g.1.length) else if w = 6 then nI g.2.2.1 else g.2.2.2.1
theorem pCnt_cut {f : Nat → Bool} {n : Nat} : ∀ m, n ≤ m → (∀ u, n ≤ u → f u = false) → pCnt f m = pCnt f n
  | 0, h, _ => by rw [show n = 0 by omega]
  | m + 1, h, hf => by
    rcases Nat.lt_or_ge m n with z | z
    · rw [show n = m + 1 by omega]
    · have := pCnt_cut m z hf
      simp only [pCnt]
      rw [hf m z, this]
      rfl
theorem pCnt_not (f : Nat → Bool) : ∀ n, pCnt f n + pCnt (fun u => !f u) n = n
  | 0 => rfl
  | n + 1 => by
    have := pCnt_not f n
    simp only [pCnt]
    by_cases h : f n = true
    · rw [if_pos h, if_neg (by rw [h]; decide)]; omega
    · rw [if_neg h, if_pos (by rw [Bool.not_eq_true] at h; rw [h]; rfl)]; omega
theorem sCnt_of {x : Int32} {n : Nat} {f : Nat → Bool} (hn : n ≤ 20) (h : ∀ u, bt x u = true ↔ u < n ∧ f u = true) : sCnt x = pCnt f n := by
  unfold sCnt
  rw [pCnt_cut 20 hn (fun u hu => by
    cases hb : bt x u
    · rfl
    · have := ((h u).mp hb).1
      omega)]
  exact pCnt_ext (fun u hu => by
    rw [h u]
    exact ⟨fun q => q.2, fun q => ⟨hu, q⟩⟩)
theorem x5_size (hg : gOk g) (hr : RG g places odd moves token made calls fr heard to)
    (h1 : ¬ isN 8 a → postXB "java/lang/IllegalArgumentException" bp ba calling next owned)
    (h : ∀ b1 b2 c1 n1 o1, isN 8 a → postB (szV g (ix a)) b1 b2 c1 n1 o1) : wp_X5_size a bp ba places odd moves token made calling next owned calls fr to postB postXB := by
  obtain ⟨hp, hv, ht⟩ := hr
  have hg0 := hg.1
  have hn := hg0.1
  have hm := hg0.2.1
  have hpost := fun j (hj : j < 8) (e2 : a = nI j) b1 b2 c1 n1 o1 => h b1 b2 c1 n1 o1 ⟨j, hj, e2⟩
  unfold szV at hpost
  unfold wp_X5_size
  refine ⟨fun q => ?_, fun q => ?_, fun q => ?_, fun q => ?_, fun q => ?_, fun q => ?_, fun q => ?_, fun q => ?_, fun q => sw_case (n := 8) (by decide) h1 q⟩
  · have := hpost 0 (by decide) q bp ba calling next owned
    rw [q] at this
    rw [hp.1]
    exact this
  · have := hpost 1 (by decide) q bp ba calling next owned
    rw [q] at this
    rw [hv.1]
    exact this
  · have := hpost 2 (by decide) q bp ba calling next owned
    rw [q] at this
    have e1 : sCnt odd = pCnt (fun u => !decide (lA g.1 u = 0)) g.1.length := sCnt_of hn (fun u => by
      rw [hp.2.1 u]
      have := (gOk0_ow hg0 u).1
      constructor
      · rintro ⟨x, y⟩
        exact ⟨x, by rw [decide_eq_false (by omega)]; rfl⟩
      · rintro ⟨x, y⟩
        refine ⟨x, ?_⟩
        cases hb : decide (lA g.1 u = 0)
        · have := of_decide_eq_false hb
          omega
        · rw [hb] at y; cases y)
    have e2 := pCnt_not (fun u => decide (lA g.1 u = 0)) g.1.length
    refine bitCount_ok (fun u hu => by have := ((hp.2.1 u).mp hu).1; omega) ?_
    rw [e1, hp.1, i_subn (by omega), show g.1.length - pCnt (fun u => !decide (lA g.1 u = 0)) g.1.length = c0V g.1 by unfold c0V; omega]
    exact this
  · have hh := hpost 3 (by decide) q
    rw [q] at hh
    refine take_ok hg0 hp hv (fun al c' n' o' hal hB => deadEnds_ok hB (fun r hr => bitCount_ok (fun u hu => by have := ((hr u).mp hu).1; omega) ?_))
    have e1 : sCnt r = cDead g.1 g.2.1 := sCnt_of hn (fun u => by rw [hr u, pD_t])
    rw [e1]
    exact hh _ _ _ _ _
  · have hh := hpost 4 (by decide) q
    rw [q] at hh
    refine take_ok hg0 hp hv (fun al c' n' o' hal hB => ?_)
    unfold wp_X0_differentCalls
    refine up2 10 (by decide) (fun k z => z = nI (pCnt (fun c => pD (∃ u, u < g.1.length ∧ lB g.1 u = c)) k)) 0 _ (Nat.zero_le _) rfl (fun rec z hz => ?_) (fun rec k z hk hz go => ?_)
    · unfold F_X0_differentCalls_4
      refine lpE (e := 10) ?_
      rw [hz]
      exact hh _ _ _ _ _
    · unfold F_X0_differentCalls_4
      have hc := fun u => hB.2.2.2.2.2.1 k u hk
      rw [nI_clamp (show k < 2 ^ 31 by omega), hz]
      refine lpS (e := 10) hk (by decide) ⟨vp_in_nI hk (by decide), fun q2 => go _ ?_, fun q2 => go _ ?_⟩
      · rw [← pCnt_no (k := k)]
        exact pD_f.mpr (fun ⟨u, x⟩ => b_eq0.mp q2 u ((hc u).mpr x))
      · rw [← pCnt_yes (k := k)]
        obtain ⟨u, hu⟩ := b_ne0 q2
        exact pD_t.mpr ⟨u, (hc u).mp hu⟩
  · have := hpost 5 (by decide) q bp ba calling next owned
    rw [q] at this
    exact x1_greatestCall hp hn (fun u => (gOk0_ow hg0 u).2) this
  · have := hpost 6 (by decide) q bp ba calling next owned
    rw [q] at this
    rw [ht.1]
    exact this
  · have := hpost 7 (by decide) q bp ba calling next owned
    rw [q] at this
    rw [ht.2.1]
    exact this
end SM5
theorem up3v {A B : Type} {F : (A → B → Int32 → Prop) → A → B → Int32 → Prop} (e : Nat) (he : e < 2147483647) (I : Nat → A → B → Prop) (i0 : Nat) (a : A) (b : B) (hi : i0 ≤ e) (h0 : I i0 a b) (hx : ∀ rec a b, I e a b → F rec a b (nI e)) (hs : ∀ rec k a b, k < e → I k a b → (∀ a' b', I (k + 1) a' b' → rec a' b' (nI k + 1)) → F rec a b (nI k)) : ∃ n, fx3 F n a b (nI i0) := by
  refine fx3_go (fun a b v => ∃ k, k ≤ e ∧ v = nI k ∧ I k a b) (fun _ _ v => e - v.toNatClampNeg) ?_ _ _ _ ⟨i0, hi, rfl, h0⟩
  rintro rec a b v ⟨k, hk, rfl, hI⟩ hrec
  rcases Nat.lt_or_ge k e with z | z
  · exact hs rec k a b z hI (fun a' b' h' => hrec a' b' _ ⟨k + 1, z, nI_1 k, h'⟩ (by rw [nI_1, nI_clamp (by omega), nI_clamp (by omega)]; omega))
  · have : k = e := by omega
    subst this
    exact hx rec a b hI
section SM6
variable {pl mv : List (Nat × Nat)} {g : gm} {a b t0 : Int32} {live measure now weight : Nat → Int32}
  {post2 : Int32 → Int32 → Prop} {post3 : Int32 → Int32 → Int32 → (Nat → Int32) → (Nat → Int32) → (Nat → Int32) → Prop}
theorem x6_place (hg : gOk0 pl mv) (hp : RMp pl now) (hv : RMv mv now)
    (h1 : ¬ isN pl.length a → post3 0 1 t0 live measure weight)
    (h2 : isN pl.length a → ¬ isN 5 b → post3 0 2 t0 live measure weight)
    (h : ∀ t li me we, isN pl.length a → isN 5 b → post3 (paV pl mv (ix a) (ix b)) 0 t li me we) : wp_X6_place a b t0 live measure now weight post3 := by
  have hn := hg.1
  have hm := hg.2.1
  unfold wp_X6_place wp_X6_refuse wp_X6_told
  refine n6_place hp hn (fun q => n6_no (h1 q)) (fun ha => n6_ye (n6_in (n := 5) (by decide) (fun q => n6_no (h2 ha q)) (fun hb => n6_ye ?_)))
  obtain ⟨s, hs, e⟩ := ha
  obtain ⟨w, hw, e2⟩ := hb
  have hpost := fun t li me we => h t li me we ⟨s, hs, e⟩ ⟨w, hw, e2⟩
  rw [e, e2, ix_nI (by omega), ix_nI (by omega)] at hpost
  rw [e, e2]
  unfold paV at hpost
  have w2 : (2 : Int32) ≤ nI w ↔ 2 ≤ w := nI_leI (a := 2) (by decide) (by omega)
  have w4 : nI w = (4 : Int32) ↔ w = 4 := nI_eq (b := 4) (by omega) (by decide)
  have we2 : nI w = (2 : Int32) ↔ w = 2 := nI_eq (b := 2) (by omega) (by decide)
  have w0 : nI w = (0 : Int32) ↔ w = 0 := nI_eq (b := 0) (by omega) (by decide)
  refine ⟨fun q => ⟨fun q2 => ⟨fun q3 => ?_, fun q3 => ?_⟩, fun q2 => ?_⟩, fun q => ⟨fun q2 => ?_, fun q2 => ?_⟩⟩
  · have := hpost t0 live measure weight
    have a1 := w2.mp q
    have a2 : ¬ w = 4 := fun y => q2 (w4.mpr y)
    have a3 : ¬ w = 2 := fun y => q3 (we2.mpr y)
    have a4 : w = 3 := by omega
    subst a4
    exact x6_movesAt (s := 105) (f := fun k => lB mv k) hv.1 (fun k hk => ⟨(hv.2 k hk).2, by have := (gOk0_mv hg hk).2; omega⟩) (by decide) hm (by omega) this
  · have := hpost t0 live measure weight
    have a4 := we2.mp q3
    subst a4
    exact x6_movesAt (s := 44) (f := fun k => lA mv k) hv.1 (fun k hk => ⟨(hv.2 k hk).1, by have := (gOk0_mv hg hk).1; omega⟩) (by decide) hm (by omega) this
  · have a4 := w4.mp q2
    subst a4
    refine x6_winner hg hp hv hs (fun i t li me we hi w1 w2 => ?_)
    rw [wnV_eq hi w1 w2]
    exact hpost t li me we
  · have := hpost t0 live measure weight
    have a1 : ¬ 2 ≤ w := fun y => q (w2.mpr y)
    have a2 : ¬ w = 0 := fun y => q2 (w0.mpr y)
    have a4 : w = 1 := by omega
    subst a4
    rw [ix24, nI_clamp (show 24 + s < 2 ^ 31 by omega), (hp.2 s hs).2]
    exact ⟨vp_in_nI (by omega) (by decide), this⟩
  · have := hpost t0 live measure weight
    have a4 := w0.mp q2
    subst a4
    rw [ix4, nI_clamp (show 4 + s < 2 ^ 31 by omega), (hp.2 s hs).1]
    exact ⟨vp_in_nI (by omega) (by decide), this⟩
theorem x6_move (hg : gOk0 pl mv) (hv : RMv mv now)
    (h1 : ¬ isN mv.length a → post2 0 1) (h2 : isN mv.length a → ¬ isN 2 b → post2 0 2)
    (h : isN mv.length a → isN 2 b → post2 (nI (if ix b = 0 then lA mv (ix a) else lB mv (ix a))) 0) : wp_X6_move a b now post2 := by
  have hm := hg.2.1
  unfold wp_X6_move wp_X6_refuse wp_X6_told
  refine n6_move hv hm (fun q => n6_no (h1 q)) (fun ha => n6_ye (n6_in (n := 2) (by decide) (fun q => n6_no (h2 ha q)) (fun hb => n6_ye ?_)))
  have hpost := h ha hb
  obtain ⟨k, hk, e⟩ := ha
  obtain ⟨j, hj, e2⟩ := hb
  rw [e, e2, ix_nI (by omega), ix_nI (by omega)] at hpost
  rw [e, e2, ix44, ix105, nI_clamp (show 44 + k < 2 ^ 31 by omega), nI_clamp (show 105 + k < 2 ^ 31 by omega), (hv.2 k hk).1, (hv.2 k hk).2]
  have w0 : nI j = (0 : Int32) ↔ j = 0 := nI_eq (b := 0) (by omega) (by decide)
  refine ⟨fun q => ⟨vp_in_nI (by omega) (by decide), ?_⟩, fun q => ⟨vp_in_nI (by omega) (by decide), ?_⟩⟩
  · rw [if_neg (fun y => q (w0.mpr y))] at hpost
    exact hpost
  · rw [if_pos (w0.mp q)] at hpost
    exact hpost
theorem x6_moveBetween (hg : gOk0 pl mv) (hp : RMp pl now) (hv : RMv mv now)
    (h1 : ¬ (isN pl.length a ∧ isN pl.length b) → post2 0 1)
    (h : isN pl.length a ∧ isN pl.length b → post2 (rFst (fun k => decide (lA mv k = ix a) && decide (lB mv k = ix b)) mv.length) 0) : wp_X6_moveBetween a b now post2 := by
  have hn := hg.1
  have hvl : ∀ x, x < mv.length → lA mv x < 1000 ∧ lB mv x < 1000 := fun x hx => by have := gOk0_mv hg hx; omega
  unfold wp_X6_moveBetween wp_X6_refuse wp_X6_told
  refine n6_place hp hn (fun q => n6_no' (h1 (fun z => q z.1))) (fun ha => n6_ye' (n6_place hp hn (fun q => n6_no (h1 (fun z => q z.2))) (fun hb => n6_ye ?_)))
  have hpost := h ⟨ha, hb⟩
  obtain ⟨k, hk, e⟩ := ha
  obtain ⟨j, hj, e2⟩ := hb
  rw [e, e2, ix_nI (by omega), ix_nI (by omega)] at hpost
  rw [e, e2]
  exact x6_between hv hg.2.1 hvl (by omega) (by omega) hpost
theorem x6_heard {tk : Nat} {md : Int32} {hd : Nat → Int32} (ht : RMt tk md hd now)
    (h1 : ¬ isN 10 a → post2 0 1) (h : isN 10 a → post2 (hd (ix a)) 0) : wp_X6_heard a now post2 := by
  unfold wp_X6_heard wp_X6_refuse wp_X6_told
  refine n6_in (n := 10) (by decide) (fun q => n6_no (h1 q)) (fun ha => n6_ye ?_)
  have hpost := h ha
  obtain ⟨k, hk, e⟩ := ha
  rw [e, ix_nI (by omega), ← ht.2.2 k hk] at hpost
  rw [e, ix166, nI_clamp (show 166 + k < 2 ^ 31 by omega)]
  exact ⟨vp_in_nI (by omega) (by decide), hpost⟩
theorem x6_size (hg : gOk g) (hr : RM g now) (h1 : ¬ isN 8 a → post2 0 1) (h : isN 8 a → post2 (szV g (ix a)) 0) : wp_X6_size a now post2 := by
  obtain ⟨hp, hv, ht⟩ := hr
  have hg0 := hg.1
  have hn := hg0.1
  have hm := hg0.2.1
  unfold wp_X6_size wp_X6_refuse wp_X6_told
  refine n6_in (n := 8) (by decide) (fun q => n6_no (h1 q)) (fun ha => n6_ye ?_)
  have hpost := h ha
  obtain ⟨w, hw, e⟩ := ha
  rw [e, ix_nI (by omega)] at hpost
  rw [e]
  have l2 : nI w < (2 : Int32) ↔ w < 2 := nI_ltI (b := 2) (by omega) (by decide)
  have g2 : (2 : Int32) ≤ nI w ↔ 2 ≤ w := nI_leI (a := 2) (by decide) (by omega)
  have l4 : nI w ≤ (4 : Int32) ↔ w ≤ 4 := nI_leI (b := 4) (by omega) (by decide)
  have w5 : nI w = (5 : Int32) ↔ w = 5 := nI_eq (b := 5) (by omega) (by decide)
  have w2 : nI w = (2 : Int32) ↔ w = 2 := nI_eq (b := 2) (by omega) (by decide)
  have w3 : nI w = (3 : Int32) ↔ w = 3 := nI_eq (b := 3) (by omega) (by decide)
  have w4 : nI w = (4 : Int32) ↔ w = 4 := nI_eq (b := 4) (by omega) (by decide)
  have e0 : (0 : Int32) + nI w = nI w := Int32.zero_add _
  have ebig : ∀ w, 6 ≤ w → (2 : Int32) + nI w - 6 = nI (w - 4) := fun w h6 => by
    rw [show (2 : Int32) = nI 2 from rfl, nI_add, show (6 : Int32) = nI 6 from rfl, i_subn (by omega)]
    congr 1
    omega
  unfold szV at hpost
  have hbig : ¬ w = 5 → ¬ w ≤ 4 → vp_in ((2 : Int32) + nI w - 6) 176 ∧ post2 (now ((2 : Int32) + nI w - 6).toNatClampNeg) 0 := fun n5 n4 => by
    rw [ebig w (by omega), nI_clamp (show w - 4 < 2 ^ 31 by omega)]
    refine ⟨vp_in_nI (by omega) (by decide), ?_⟩
    rw [if_neg (by omega), if_neg (by omega), if_neg (by omega), if_neg (by omega), if_neg (by omega), if_neg n5] at hpost
    rcases (show w = 6 ∨ w = 7 by omega) with y | y
    · subst y
      show post2 (now 2) 0
      rw [ht.1]
      exact hpost
    · subst y
      show post2 (now 3) 0
      rw [ht.2.1]
      exact hpost
  have h5 : w = 5 → wp_X6_greatestCall now (fun r => post2 r 0) := fun y => by
    subst y
    exact x6_greatestCall hp hn (fun u => by have := (gOk0_ow hg0 u).2; omega) hpost
  have hsm : w < 2 → vp_in ((0 : Int32) + nI w) 176 ∧ post2 (now ((0 : Int32) + nI w).toNatClampNeg) 0 := fun y => by
    rw [e0, nI_clamp (show w < 2 ^ 31 by omega)]
    refine ⟨vp_in_nI (by omega) (by decide), ?_⟩
    rcases (show w = 0 ∨ w = 1 by omega) with z | z
    · subst z
      rw [hp.1]
      exact hpost
    · subst z
      rw [hv.1]
      exact hpost
  refine ⟨fun q => ⟨fun q2 => ?_, fun q2 => hsm (l2.mp q)⟩, fun q => ⟨fun q2 => ?_, fun q2 => ⟨fun q3 => ⟨fun q4 => hbig (fun y => q4 (w5.mpr y)) (fun y => q2 (l4.mpr y)), fun q4 => h5 (w5.mp q4)⟩, fun q3 => ?_⟩⟩⟩
  · have := l2.mp q
    have := g2.mp q2
    omega
  · have a1 : ¬ w < 2 := fun y => q (l2.mpr y)
    have a2 := l4.mp q2
    rw [if_neg (by omega), if_neg (by omega)] at hpost
    have hz00 : (0 : Int32) = nI (if w = 2 then pCnt (fun u => decide (lA g.1 u = 0)) 0 else if w = 3 then pCnt (fun u => pD (¬ ∃ v, gEd g.2.1 u v)) 0 else 0) := by
      split
      · rfl
      · split <;> rfl
    refine up3v g.1.length (by omega) (fun k x z => (∀ c, c < 10 → (bt x c = true ↔ ∃ u, u < k ∧ lB g.1 u = c)) ∧ (∀ c, bt x c = true → c < 10) ∧ z = nI (if w = 2 then pCnt (fun u => decide (lA g.1 u = 0)) k else if w = 3 then pCnt (fun u => pD (¬ ∃ v, gEd g.2.1 u v)) k else 0)) 0 _ _ (Nat.zero_le _)
      ⟨fun c _ => by rw [b_0]; exact ⟨fun y => absurd y (by decide), fun ⟨u, y, _⟩ => absurd y (Nat.not_lt_zero _)⟩, fun c y => absurd y (by rw [b_0]; decide), hz00⟩ (fun rec x z hI => ?_) (fun rec k x z hk hI go => ?_)
    · unfold F_X6_size_77
      rw [hp.1]
      refine lpE ?_
      obtain ⟨hI1, hI2, hI3⟩ := hI
      by_cases y4 : w = 4
      · subst y4
        rw [if_neg (by decide), if_neg (by decide)] at hI3
        rw [if_neg (by decide), if_neg (by decide), if_pos rfl] at hpost
        rw [hI3]
        refine up2 10 (by decide) (fun k z => z = nI (pCnt (fun c => pD (∃ u, u < g.1.length ∧ lB g.1 u = c)) k)) 0 _ (Nat.zero_le _) rfl (fun rec z hz => ?_) (fun rec k z hk hz go => ?_)
        · unfold F_X6_size_153
          refine lpE (e := 10) ?_
          rw [hz]
          exact hpost
        · unfold F_X6_size_153
          refine lpS (e := 10) hk (by decide) ⟨fun q3 => absurd rfl q3, fun _ => go _ ?_⟩
          have hbit := hI1 k hk
          have e1 : (x >>> (nI k &&& 31)) &&& (1 : Int32) = if bt x k = true then 1 else 0 := b_ext (fun i hi => by
            rw [b_and, b_sshr k (by omega) x hi]
            have h1 : ∀ j, j < 32 → bt 1 j = decide (j = 0) := by decide +kernel
            rw [h1 i hi]
            by_cases z : i = 0
            · subst z
              rw [if_pos (by omega), Nat.add_zero, decide_eq_true rfl, Bool.and_true]
              cases hb : bt x k
              · rfl
              · rfl
            · rw [decide_eq_false z, Bool.and_false]
              cases hb : bt x k
              · rw [if_neg (by decide), b_0]
              · rw [if_pos rfl, h1 i hi, decide_eq_false z])
          rw [e1, hz]
          cases hb : bt x k
          · rw [hb] at hbit
            rw [if_neg (by decide), ← pCnt_no (k := k)]
            · exact add0 _
            · exact pD_f.mpr (fun y => by have := hbit.mpr y; cases this)
          · rw [hb] at hbit
            rw [if_pos rfl, ← pCnt_yes (k := k)]
            exact pD_t.mpr (hbit.mp rfl)
      · rw [if_neg y4] at hpost
        have hfin : post2 z 0 := by
          rw [hI3]
          by_cases y2 : w = 2
          · rw [if_pos y2] at hpost ⊢
            exact hpost
          · have y3 : w = 3 := by omega
            rw [if_neg y2, if_pos y3] at hpost ⊢
            exact hpost
        exact ⟨1, by
          unfold fx2 F_X6_size_153
          refine ⟨fun q3 => hfin, fun q3 => ⟨fun _ => hfin, fun q4 => absurd (w4.mp q4) y4⟩⟩⟩
    · unfold F_X6_size_77
      obtain ⟨hI1, hI2, hI3⟩ := hI
      obtain ⟨r1, r2⟩ := hp.2 k hk
      have hc10 := (gOk0_ow hg0 k).2
      have ho2 := (gOk0_ow hg0 k).1
      have hx1 : ∀ c, c < 10 → (bt (x ||| ((1 : Int32) <<< (nI (lB g.1 k) &&& 31))) c = true ↔ ∃ u, u < k + 1 ∧ lB g.1 u = c) := fun c hc => by
        rw [b_setbit (by omega), hI1 c hc]
        constructor
        · rintro (⟨u, y, e3⟩ | y)
          · exact ⟨u, by omega, e3⟩
          · exact ⟨k, Nat.lt_succ_self _, y.symm⟩
        · rintro ⟨u, y, e3⟩
          rcases Nat.lt_or_ge u k with y2 | y2
          · exact Or.inl ⟨u, y2, e3⟩
          · have : u = k := by omega
            subst this
            exact Or.inr e3.symm
      have hx2 : ∀ c, bt (x ||| ((1 : Int32) <<< (nI (lB g.1 k) &&& 31))) c = true → c < 10 := fun c y => by
        rw [b_setbit (by omega)] at y
        rcases y with y | y
        · exact hI2 c y
        · omega
      have hz0 : ∀ f : Nat → Bool, f k = false → nI (pCnt f k) + (0 : Int32) = nI (pCnt f (k + 1)) := fun f hf => by rw [add0]; exact pCnt_no hf
      rw [hp.1, ix24, ix4, nI_clamp (show 24 + k < 2 ^ 31 by omega), nI_clamp (show 4 + k < 2 ^ 31 by omega), r1, r2, hI3]
      have i24 : vp_in (nI (24 + k)) 176 := vp_in_nI (by omega) (by decide)
      have i4 : vp_in (nI (4 + k)) 176 := vp_in_nI (by omega) (by decide)
      have hdead : pCnt (fun j => decide (lA g.2.1 j = k)) g.2.1.length = 0 ↔ ¬ ∃ v, gEd g.2.1 k v := by
        rw [← cAt_pos]
        unfold cAt
        omega
      have hmv : ∀ K : Int32 → Prop, K (nI (pCnt (fun j => decide (lA g.2.1 j = k)) g.2.1.length)) → wp_X6_movesAt (nI k) (44 : Int32) now K := fun K hK =>
        x6_movesAt (s := 44) (f := fun k => lA g.2.1 k) hv.1 (fun k hk => ⟨(hv.2 k hk).1, by have := (gOk0_mv hg0 hk).1; omega⟩) (by decide) hm (by omega) hK
      have hle : pCnt (fun j => decide (lA g.2.1 j = k)) g.2.1.length ≤ 60 := Nat.le_trans (pCnt_top _ _) hm
      refine lpS hk (by omega) ⟨i24, fun q3 => ?_, fun q3 => ⟨i4, fun q5 => ?_, fun q5 => ⟨fun q6 => ?_, fun q6 => ?_⟩⟩⟩
      · have n2 : ¬ w = 2 := fun y => q3 (w2.mpr y)
        rw [if_neg n2]
        refine ⟨fun q4 => ?_, fun q4 => hmv _ ⟨fun q5 => ?_, fun q5 => ?_⟩⟩
        · have n3 : ¬ w = 3 := fun y => q4 (w3.mpr y)
          rw [if_neg n3]
          refine go _ _ ⟨hx1, hx2, ?_⟩
          rw [if_neg n2, if_neg n3]
          exact add0 _
        · have y3 := w3.mp q4
          rw [if_pos y3]
          refine go _ _ ⟨hx1, hx2, ?_⟩
          rw [if_neg n2, if_pos y3]
          refine hz0 _ (pD_f.mpr (fun y => q5 ?_))
          rw [hdead.mpr y]
          rfl
        · have y3 := w3.mp q4
          rw [if_pos y3]
          refine go _ _ ⟨hx1, hx2, ?_⟩
          rw [if_neg n2, if_pos y3]
          exact pCnt_yes (pD_t.mpr (hdead.mp ((nI_eq (b := 0) (by omega) (by decide)).mp q5)))
      · have y2 := w2.mp q3
        rw [if_pos y2]
        refine go _ _ ⟨hx1, hx2, ?_⟩
        rw [if_pos y2]
        exact pCnt_yes (decide_eq_true ((nI_eq (b := 0) (by omega) (by decide)).mp q5))
      · have y2 := w2.mp q3
        rw [if_pos y2]
        refine go _ _ ⟨hx1, hx2, ?_⟩
        rw [if_pos y2]
        exact hz0 _ (decide_eq_false (fun y => q5 (by rw [y]; rfl)))
      · have y2 := w2.mp q3
        have y3 := w3.mp q6
        omega
  · have a1 : ¬ w < 2 := fun y => q (l2.mpr y)
    exact absurd (g2.mpr (by omega)) q3
end SM6
