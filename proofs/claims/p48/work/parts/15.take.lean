/-! the class's board shows the game -/
theorem has_ok {x : Int32} {u : Nat} {post : Int32 → Prop} (hu : u < 32) (h1 : bt x u = true → post 1) (h0 : ¬ bt x u = true → post 0) : wp_X5_has x (nI u) post := by
  have e : ((x.toUInt32 >>> ((nI u).toUInt32 &&& Int32.toUInt32 31)).toInt32 &&& (1 : Int32)) = 0 ↔ ¬ bt x u = true := by
    have hb1 : ∀ j, j < 32 → bt 1 j = decide (j = 0) := by decide +kernel
    rw [b_eq0]
    constructor
    · intro h q
      refine h 0 ?_
      rw [b_and, b_ushr u hu, Nat.add_zero, q, hb1 0 (by decide)]
      rfl
    · intro h j hj
      rw [b_and, b_ushr u hu, Bool.and_eq_true] at hj
      have h1 := hj.1
      have h2 := hj.2
      rw [hb1 j (b_lt h2), decide_eq_true_eq] at h2
      rw [h2, Nat.add_zero] at h1
      exact h h1
  unfold wp_X5_has
  exact ⟨fun q => h0 (e.mp q), fun q => h1 (Classical.byContradiction fun z => q (e.mpr z))⟩
theorem take_ok {pl mv : List (Nat × Nat)} {places odd moves : Int32} {calls fr to calling next owned : Nat → Int32} {post : Int32 → Int32 → (Nat → Int32) → (Nat → Int32) → (Nat → Int32) → Prop} (hg : gOk0 pl mv) (hp : RP pl places odd calls) (hv : RV mv moves fr to)
    (h : ∀ (al : Int32) (c' n' o' : Nat → Int32), (∀ u, bt al u = true ↔ u < pl.length) → bdOk pl.length (lA pl) (lB pl) (gEd mv) o' c' n' → post (nI pl.length) al c' n' o') : wp_X0_take places odd moves calls fr to calling next owned post := by
  obtain ⟨rfl, hp1, hp2⟩ := hp
  obtain ⟨rfl, hv⟩ := hv
  have hn := hg.1
  have hm := hg.2.1
  have how := gOk0_ow hg
  unfold wp_X0_take
  refine up2i 10 (by decide) (fun k c => ∀ j, j < k → c j = 0) 0 _ (Nat.zero_le _) (fun j hj => absurd hj (Nat.not_lt_zero _)) (fun rec c hI => ?_) (fun rec k c hk hI go => ?_)
  rotate_left
  · unfold F_X0_take_54
    refine lpS (e := 10) hk (by decide) ⟨vp_in_nI hk (by decide), go _ (fun j hj => ?_)⟩
    rw [nI_clamp (by omega), upd_get]
    split
    · rfl
    · exact hI j (by omega)
  refine lpE (e := 10) ?_
  refine up3i pl.length (by omega) (fun k c nx => (∀ q u, q < 10 → (bt (c q) u = true ↔ u < k ∧ lB pl u = q)) ∧ ∀ j, j < k → nx j = 0) 0 _ _ (Nat.zero_le _) ⟨fun q u hq => by rw [hI q hq, b_0]; simp, fun j hj => absurd hj (Nat.not_lt_zero _)⟩ (fun rec c nx hI => ?_) (fun rec k c nx hk hI go => ?_)
  rotate_left
  · unfold F_X0_take_75
    have hc := (how k).2
    rw [nI_clamp (show k < 2 ^ 31 by omega), hp2 k hk, nI_clamp (show lB pl k < 2 ^ 31 by omega)]
    refine lpS hk (by omega) ⟨vp_in_nI (by omega) (by omega), vp_in_nI hc (by decide), vp_in_nI hc (by decide), vp_in_nI (by omega) (by omega), go _ _ ⟨fun q u hq => ?_, fun j hj => ?_⟩⟩
    · rw [upd_get]
      by_cases z : q = lB pl k
      · subst z
        rw [if_pos rfl, b_setbit (by omega), hI.1 _ u hq]
        constructor
        · rintro (⟨a, b⟩ | rfl)
          · exact ⟨by omega, b⟩
          · exact ⟨by omega, rfl⟩
        · rintro ⟨a, b⟩
          rcases Nat.lt_or_ge u k with y | y
          · exact Or.inl ⟨y, b⟩
          · exact Or.inr (by omega)
      · rw [if_neg z, hI.1 q u hq]
        constructor
        · rintro ⟨a, b⟩
          exact ⟨by omega, b⟩
        · rintro ⟨a, b⟩
          refine ⟨?_, b⟩
          rcases Nat.lt_or_ge u k with y | y
          · exact y
          · exact absurd (show q = lB pl k by rw [← b, show u = k by omega]) z
    · rw [upd_get]
      split
      · rfl
      · exact hI.2 j (by omega)
  refine lpE ?_
  refine up2i mv.length (by omega) (fun k nx => ∀ v w, v < pl.length → (bt (nx v) w = true ↔ ∃ j, j < k ∧ lA mv j = v ∧ lB mv j = w)) 0 _ (Nat.zero_le _) (fun v w hv' => ?_) (fun rec nx hJ => ?_) (fun rec k nx hk hJ go => ?_)
  · rw [hI.2 v hv', b_0]
    simp
  · refine lpE (h _ _ _ _ (fun u => ?_) ⟨hn, fun v => (how v).1, fun v => (how v).2, fun v w ⟨k, a, b, c⟩ => ?_, fun i u hi => ?_, fun q u hq => hI.1 q u hq, fun v w hv' => ?_⟩)
    · rw [b_all hn, decide_eq_true_eq]
    · have := gOk0_mv hg a
      rw [← b, ← c]
      exact this
    · have hall : ∀ u, bt (((1 : Int32) <<< (nI pl.length &&& 31)) - 1) u = true ↔ u < pl.length := fun u => by rw [b_all hn, decide_eq_true_eq]
      rcases (show i = 0 ∨ i = 1 by omega) with e | e
      · subst e
        rw [pk_us, b_diff, hall, hp1]
        constructor
        · rintro ⟨a, b⟩
          refine ⟨a, ?_⟩
          have := (how u).1
          have : lA pl u ≠ 1 := fun z => b ⟨a, z⟩
          omega
        · rintro ⟨a, b⟩
          exact ⟨a, fun z => by omega⟩
      · subst e
        rw [pk_un (by decide), pk_us, b_andI, hall, hp1]
        exact ⟨fun z => z.1, fun z => ⟨z, z.1⟩⟩
    · exact hJ v w hv'
  · unfold F_X0_take_115 wp_X0_join
    obtain ⟨r1, r2⟩ := hv k hk
    obtain ⟨g1, g2⟩ := gOk0_mv hg hk
    rw [nI_clamp (show k < 2 ^ 31 by omega), r1, r2, nI_clamp (show lA mv k < 2 ^ 31 by omega)]
    refine lpS hk (by omega) ⟨vp_in_nI (by omega) (by omega), vp_in_nI (by omega) (by omega), vp_in_nI (by omega) (by omega), vp_in_nI (by omega) (by omega), go _ (fun v w hv' => ?_)⟩
    rw [upd_get]
    by_cases z : v = lA mv k
    · rw [if_pos z, b_setbit (by omega), ← z, hJ v w hv']
      constructor
      · rintro (⟨j, a, b, c⟩ | e)
        · exact ⟨j, by omega, b, c⟩
        · exact ⟨k, by omega, z.symm, e.symm⟩
      · rintro ⟨j, a, b, c⟩
        rcases Nat.lt_or_ge j k with y | y
        · exact Or.inl ⟨j, y, b, c⟩
        · have : j = k := by omega
          subst this
          exact Or.inr c.symm
    · rw [if_neg z, hJ v w hv']
      constructor
      · rintro ⟨j, a, b, c⟩
        exact ⟨j, by omega, b, c⟩
      · rintro ⟨j, a, b, c⟩
        rcases Nat.lt_or_ge j k with y | y
        · exact ⟨j, y, b, c⟩
        · have : j = k := by omega
          subst this
          exact absurd b.symm z
/-- the places that a player wins in a game -/
def gWin (pl mv : List (Nat × Nat)) (i u : Nat) : Prop := pWin (lA pl) (lB pl) (gEd mv) i u
theorem gEd_lt {pl mv : List (Nat × Nat)} (hg : gOk0 pl mv) {v w : Nat} (h : gEd mv v w) : v < pl.length ∧ w < pl.length := by
  obtain ⟨k, a, b, c⟩ := h
  have := gOk0_mv hg a
  rw [← b, ← c]
  exact this
/-- what the plan keeps: who wins, if it is known -/
def RZ (pl mv : List (Nat × Nat)) (zero zk : Int32) : Prop := ¬ zk = 0 → ∀ u, bt zero u = true ↔ u < pl.length ∧ gWin pl mv 0 u
