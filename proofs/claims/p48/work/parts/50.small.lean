/-! size, place, move, moveBetween, heard: both sides -/
theorem sw_case {a : Int32} {n : Nat} {X : Prop} (hn : n ≤ 1000) (h : ¬ isN n a → X) (ha : a.toInt < 0 ∨ ((n : Int) - 1) < a.toInt) : X := h (fun ⟨k, hk, e⟩ => by
  rw [e, nI_toInt (show k < 2 ^ 31 by omega)] at ha
  omega)
section SM5
variable {pl mv : List (Nat × Nat)} {g : gm} {a b places odd moves token made bp ba zero zk : Int32} {calls fr to heard calling next owned : Nat → Int32}
  {post : Int32 → Int32 → Int32 → Int32 → Int32 → (Nat → Int32) → (Nat → Int32) → (Nat → Int32) → Prop} {postX : String → Int32 → Int32 → Int32 → Int32 → (Nat → Int32) → (Nat → Int32) → (Nat → Int32) → Prop}
  {postB : Int32 → Int32 → Int32 → (Nat → Int32) → (Nat → Int32) → (Nat → Int32) → Prop} {postXB : String → Int32 → Int32 → (Nat → Int32) → (Nat → Int32) → (Nat → Int32) → Prop}
  {post1 : Int32 → Prop} {postX1 : String → Prop}
/-- who wins from s, as a number -/
noncomputable def wnV (pl mv : List (Nat × Nat)) (s : Nat) : Int32 := if pD (gW pl mv allL 0 s) = true then 0 else 1
theorem wnV_eq {s i : Nat} (hi : i < 2) (h1 : gW pl mv allL i s) (h2 : ¬ gW pl mv allL (1 - i) s) : nI i = wnV pl mv s := by
  unfold wnV
  rcases (show i = 0 ∨ i = 1 by omega) with e | e
  · subst e; rw [if_pos (pD_t.mpr h1)]; rfl
  · subst e; rw [if_neg (fun q => h2 (pD_t.mp q))]; rfl
/-- what place tells -/
noncomputable def paV (pl mv : List (Nat × Nat)) (s w : Nat) : Int32 := if w = 0 then nI (lA pl s) else if w = 1 then nI (lB pl s) else if w = 2 then nI (pCnt (fun k => decide (lA mv k = s)) mv.length) else if w = 3 then nI (pCnt (fun k => decide (lB mv k = s)) mv.length) else wnV pl mv s
theorem x5_place (hg : gOk0 pl mv) (hp : RP pl places odd calls) (hv : RV mv moves fr to) (hz : RZ pl mv zero zk)
    (h1 : ¬ isN pl.length a → postX "java/util/NoSuchElementException" bp ba zero zk calling next owned)
    (h2 : isN pl.length a → ¬ isN 5 b → postX "java/lang/IllegalArgumentException" bp ba zero zk calling next owned)
    (h : ∀ b1 b2 z' k' c1 n1 o1, isN pl.length a → isN 5 b → RZ pl mv z' k' → post (paV pl mv (ix a) (ix b)) b1 b2 z' k' c1 n1 o1) : wp_X5_place a b bp ba places odd moves zero zk calling next owned calls fr to post postX := by
  have hn := hg.1
  have hm := hg.2.1
  have hvl : ∀ x, x < mv.length → lA mv x < 1000 ∧ lB mv x < 1000 := fun x hx => by have := gOk0_mv hg hx; omega
  unfold wp_X5_place
  rw [hp.1]
  refine n5_place hn h1 (fun ha => ?_)
  obtain ⟨s, hs, e⟩ := ha
  have hpost := fun j (hj : j < 5) (e2 : b = nI j) b1 b2 z' k' c1 n1 o1 => h b1 b2 z' k' c1 n1 o1 ⟨s, hs, e⟩ ⟨j, hj, e2⟩
  rw [← hp.1, e]
  rw [e, ix_nI (by omega)] at hpost
  unfold paV at hpost
  refine ⟨fun q => ?_, fun q => ?_, fun q => ?_, fun q => ?_, fun q => ?_, fun q => sw_case (n := 5) (by decide) (h2 ⟨s, hs, e⟩) q⟩
  · have := hpost 0 (by decide) q bp ba zero zk calling next owned hz
    rw [q] at this
    exact x1_ownerOf hp hs hn (gOk0_ow hg s).1 this
  · have := hpost 1 (by decide) q bp ba zero zk calling next owned hz
    rw [q] at this
    refine ⟨vp_in_nI (by omega) (by decide), ?_⟩
    rw [nI_clamp (show s < 2 ^ 31 by omega), hp.2.2 s hs]
    exact this
  · have := hpost 2 (by decide) q bp ba zero zk calling next owned hz
    rw [q] at this
    exact x1_movesFrom hv hm hvl (by omega) this
  · have := hpost 3 (by decide) q bp ba zero zk calling next owned hz
    rw [q] at this
    exact x1_movesTo hv hm hvl (by omega) this
  · have hh := hpost 4 (by decide) q
    rw [q] at hh
    refine x5_winnerOf hg hp hv hz hs (fun i b1 b2 z' k' c1 n1 o1 hi w1 w2 hz' => ?_)
    rw [wnV_eq hi w1 w2]
    exact hh b1 b2 z' k' c1 n1 o1 hz'
theorem x5_move (hg : gOk0 pl mv) (hv : RV mv moves fr to)
    (h1 : ¬ isN mv.length a → postX1 "java/util/NoSuchElementException")
    (h2 : isN mv.length a → ¬ isN 2 b → postX1 "java/lang/IllegalArgumentException")
    (h : isN mv.length a → isN 2 b → post1 (nI (if ix b = 0 then lA mv (ix a) else lB mv (ix a)))) : wp_X5_move a b moves fr to post1 postX1 := by
  have hm := hg.2.1
  unfold wp_X5_move
  rw [hv.1]
  refine n5_move hm h1 (fun ha => ?_)
  obtain ⟨k, hk, e⟩ := ha
  have hpost := fun j (hj : j < 2) (e2 : b = nI j) => h ⟨k, hk, e⟩ ⟨j, hj, e2⟩
  rw [e, ix_nI (by omega)] at hpost
  rw [e, nI_clamp (show k < 2 ^ 31 by omega), (hv.2 k hk).1, (hv.2 k hk).2]
  have hin : vp_in (nI k) 60 := vp_in_nI (by omega) (by decide)
  refine ⟨fun q => ⟨fun z => absurd q z, fun _ => ⟨hin, ?_⟩⟩, fun q => ⟨fun q2 => ⟨fun _ => ⟨hin, ?_⟩, fun z => absurd z q⟩, fun q2 => h2 ⟨k, hk, e⟩ (fun ⟨j, hj, e2⟩ => ?_)⟩⟩
  · have := hpost 0 (by decide) q
    rw [q] at this
    exact this
  · have := hpost 1 (by decide) q2
    rw [q2] at this
    exact this
  · rcases (show j = 0 ∨ j = 1 by omega) with y | y
    · subst y; exact q e2
    · subst y; exact q2 e2
theorem x5_moveBetween (hg : gOk0 pl mv) (hp : RP pl places odd calls) (hv : RV mv moves fr to)
    (h1 : ¬ (isN pl.length a ∧ isN pl.length b) → postX1 "java/util/NoSuchElementException")
    (h : isN pl.length a ∧ isN pl.length b → post1 (rFst (fun k => decide (lA mv k = ix a) && decide (lB mv k = ix b)) mv.length)) : wp_X5_moveBetween a b places moves fr to post1 postX1 := by
  have hn := hg.1
  have hvl : ∀ x, x < mv.length → lA mv x < 1000 ∧ lB mv x < 1000 := fun x hx => by have := gOk0_mv hg hx; omega
  unfold wp_X5_moveBetween
  rw [hp.1]
  refine n5_place hn (fun q => h1 (fun z => q z.1)) (fun ha => n5_place hn (fun q => h1 (fun z => q z.2)) (fun hb => ?_))
  have hpost := h ⟨ha, hb⟩
  obtain ⟨k, hk, e⟩ := ha
  obtain ⟨j, hj, e2⟩ := hb
  rw [e, e2, ix_nI (by omega), ix_nI (by omega)] at hpost
  rw [e, e2]
  exact x1_findMove hv hg.2.1 hvl (by omega) (by omega) hpost
theorem x5_heard {tk : Nat} {md : Int32} {hd : Nat → Int32} (ht : RT tk md hd token made heard)
    (h1 : ¬ isN 10 a → postX1 "java/lang/IllegalArgumentException") (h : isN 10 a → post1 (hd (ix a))) : wp_X5_heard a heard post1 postX1 := by
  unfold wp_X5_heard
  refine n5_call h1 (fun ha => ?_)
  have hpost := h ha
  obtain ⟨k, hk, e⟩ := ha
  rw [e, ix_nI (by omega), ← ht.2.2 k hk] at hpost
  rw [e, nI_clamp (show k < 2 ^ 31 by omega)]
  exact ⟨vp_in_nI hk (by decide), hpost⟩
/-- how many places player 0 has; how many have no move; how many calls there are -/
def c0V (pl : List (Nat × Nat)) : Nat := pCnt (fun u => decide (lA pl u = 0)) pl.length
noncomputable def cDead (pl mv : List (Nat × Nat)) : Nat := pCnt (fun u => pD (¬ ∃ w, gEd mv u w)) pl.length
noncomputable def cCalls (pl : List (Nat × Nat)) : Nat := pCnt (fun c => pD (∃ u, u < pl.length ∧ lB pl u = c)) 10
noncomputable def szV (g : gm) (w : Nat) : Int32 := if w = 0 then nI g.1.length else if w = 1 then nI g.2.1.length else if w = 2 then nI (c0V g.1) else if w = 3 then nI (cDead g.1 g.2.1) else if w = 4 then nI (cCalls g.1) else if w = 5 then nI (pMax (lB g.1) g.1.length) else if w = 6 then nI g.2.2.1 else g.2.2.2.1
theorem pCnt_cut {f : Nat → Bool} {n : Nat} : ∀ m, n ≤ m → (∀ u, n ≤ u → f u = false) → pCnt f m = pCnt f n
  | 0, h, _ => by rw [show n = 0 by omega]
  | m + 1, h, hf => by
    rcases Nat.lt_or_ge m n with z | z
    · rw [show n = m + 1 by omega]
    · have := pCnt_cut m z hf
      simp only [pCnt]
      rw [hf m z, this]
      rfl
theorem pCnt_not (f : Nat → Bool) : ∀ n, pCnt f n + pCnt (fun u => !f u) n = n
  | 0 => rfl
  | n + 1 => by
    have := pCnt_not f n
    simp only [pCnt]
    by_cases h : f n = true
    · rw [if_pos h, if_neg (by rw [h]; decide)]; omega
    · rw [if_neg h, if_pos (by rw [Bool.not_eq_true] at h; rw [h]; rfl)]; omega
theorem sCnt_of {x : Int32} {n : Nat} {f : Nat → Bool} (hn : n ≤ 20) (h : ∀ u, bt x u = true ↔ u < n ∧ f u = true) : sCnt x = pCnt f n := by
  unfold sCnt
  rw [pCnt_cut 20 hn (fun u hu => by
    cases hb : bt x u
    · rfl
    · have := ((h u).mp hb).1
      omega)]
  exact pCnt_ext (fun u hu => by
    rw [h u]
    exact ⟨fun q => q.2, fun q => ⟨hu, q⟩⟩)
theorem x5_size (hg : gOk g) (hr : RG g places odd moves token made calls fr heard to)
    (h1 : ¬ isN 8 a → postXB "java/lang/IllegalArgumentException" bp ba calling next owned)
    (h : ∀ b1 b2 c1 n1 o1, isN 8 a → postB (szV g (ix a)) b1 b2 c1 n1 o1) : wp_X5_size a bp ba places odd moves token made calling next owned calls fr to postB postXB := by
  obtain ⟨hp, hv, ht⟩ := hr
  have hg0 := hg.1
  have hn := hg0.1
  have hm := hg0.2.1
  have hpost := fun j (hj : j < 8) (e2 : a = nI j) b1 b2 c1 n1 o1 => h b1 b2 c1 n1 o1 ⟨j, hj, e2⟩
  unfold szV at hpost
  unfold wp_X5_size
  refine ⟨fun q => ?_, fun q => ?_, fun q => ?_, fun q => ?_, fun q => ?_, fun q => ?_, fun q => ?_, fun q => ?_, fun q => sw_case (n := 8) (by decide) h1 q⟩
  · have := hpost 0 (by decide) q bp ba calling next owned
    rw [q] at this
    rw [hp.1]
    exact this
  · have := hpost 1 (by decide) q bp ba calling next owned
    rw [q] at this
    rw [hv.1]
    exact this
  · have := hpost 2 (by decide) q bp ba calling next owned
    rw [q] at this
    have e1 : sCnt odd = pCnt (fun u => !decide (lA g.1 u = 0)) g.1.length := sCnt_of hn (fun u => by
      rw [hp.2.1 u]
      have := (gOk0_ow hg0 u).1
      constructor
      · rintro ⟨x, y⟩
        exact ⟨x, by rw [decide_eq_false (by omega)]; rfl⟩
      · rintro ⟨x, y⟩
        refine ⟨x, ?_⟩
        cases hb : decide (lA g.1 u = 0)
        · have := of_decide_eq_false hb
          omega
        · rw [hb] at y; cases y)
    have e2 := pCnt_not (fun u => decide (lA g.1 u = 0)) g.1.length
    refine bitCount_ok (fun u hu => by have := ((hp.2.1 u).mp hu).1; omega) ?_
    rw [e1, hp.1, i_subn (by omega), show g.1.length - pCnt (fun u => !decide (lA g.1 u = 0)) g.1.length = c0V g.1 by unfold c0V; omega]
    exact this
  · have hh := hpost 3 (by decide) q
    rw [q] at hh
    refine take_ok hg0 hp hv (fun al c' n' o' hal hB => deadEnds_ok hB (fun r hr => bitCount_ok (fun u hu => by have := ((hr u).mp hu).1; omega) ?_))
    have e1 : sCnt r = cDead g.1 g.2.1 := sCnt_of hn (fun u => by rw [hr u, pD_t])
    rw [e1]
    exact hh _ _ _ _ _
  · have hh := hpost 4 (by decide) q
    rw [q] at hh
    refine take_ok hg0 hp hv (fun al c' n' o' hal hB => ?_)
    unfold wp_X0_differentCalls
    refine up2 10 (by decide) (fun k z => z = nI (pCnt (fun c => pD (∃ u, u < g.1.length ∧ lB g.1 u = c)) k)) 0 _ (Nat.zero_le _) rfl (fun rec z hz => ?_) (fun rec k z hk hz go => ?_)
    · unfold F_X0_differentCalls_4
      refine lpE (e := 10) ?_
      rw [hz]
      exact hh _ _ _ _ _
    · unfold F_X0_differentCalls_4
      have hc := fun u => hB.2.2.2.2.2.1 k u hk
      rw [nI_clamp (show k < 2 ^ 31 by omega), hz]
      refine lpS (e := 10) hk (by decide) ⟨vp_in_nI hk (by decide), fun q2 => go _ ?_, fun q2 => go _ ?_⟩
      · rw [← pCnt_no (k := k)]
        exact pD_f.mpr (fun ⟨u, x⟩ => b_eq0.mp q2 u ((hc u).mpr x))
      · rw [← pCnt_yes (k := k)]
        obtain ⟨u, hu⟩ := b_ne0 q2
        exact pD_t.mpr ⟨u, (hc u).mp hu⟩
  · have := hpost 5 (by decide) q bp ba calling next owned
    rw [q] at this
    exact x1_greatestCall hp hn (fun u => (gOk0_ow hg0 u).2) this
  · have := hpost 6 (by decide) q bp ba calling next owned
    rw [q] at this
    rw [ht.1]
    exact this
  · have := hpost 7 (by decide) q bp ba calling next owned
    rw [q] at this
    rw [ht.2.1]
    exact this
end SM5
theorem up3v {A B : Type} {F : (A → B → Int32 → Prop) → A → B → Int32 → Prop} (e : Nat) (he : e < 2147483647) (I : Nat → A → B → Prop) (i0 : Nat) (a : A) (b : B) (hi : i0 ≤ e) (h0 : I i0 a b) (hx : ∀ rec a b, I e a b → F rec a b (nI e)) (hs : ∀ rec k a b, k < e → I k a b → (∀ a' b', I (k + 1) a' b' → rec a' b' (nI k + 1)) → F rec a b (nI k)) : ∃ n, fx3 F n a b (nI i0) := by
  refine fx3_go (fun a b v => ∃ k, k ≤ e ∧ v = nI k ∧ I k a b) (fun _ _ v => e - v.toNatClampNeg) ?_ _ _ _ ⟨i0, hi, rfl, h0⟩
  rintro rec a b v ⟨k, hk, rfl, hI⟩ hrec
  rcases Nat.lt_or_ge k e with z | z
  · exact hs rec k a b z hI (fun a' b' h' => hrec a' b' _ ⟨k + 1, z, nI_1 k, h'⟩ (by rw [nI_1, nI_clamp (by omega), nI_clamp (by omega)]; omega))
  · have : k = e := by omega
    subst this
    exact hx rec a b hI
section SM6
variable {pl mv : List (Nat × Nat)} {g : gm} {a b t0 : Int32} {live measure now weight : Nat → Int32}
  {post2 : Int32 → Int32 → Prop} {post3 : Int32 → Int32 → Int32 → (Nat → Int32) → (Nat → Int32) → (Nat → Int32) → Prop}
end SM6
