/-! the reference's solved(): the least measure that no step passes -/
def mPot (T : Nat) (ms : Nat → Nat) : Nat → Nat
  | 0 => 0
  | k + 1 => mPot T ms k + (T - ms k)
theorem mPot_le {T : Nat} {ms ms' : Nat → Nat} : ∀ n, (∀ u, u < n → ms u ≤ ms' u) → mPot T ms' n ≤ mPot T ms n
  | 0, _ => Nat.le_refl _
  | n + 1, h => by
    have h1 := mPot_le (T := T) (ms := ms) (ms' := ms') n (fun u hu => h u (by omega))
    have h2 := h n (by omega)
    simp only [mPot]
    omega
theorem mPot_lt {T : Nat} {ms ms' : Nat → Nat} : ∀ n, (∀ u, u < n → ms u ≤ ms' u) → (∃ u, u < n ∧ ms u < ms' u ∧ ms' u ≤ T) → mPot T ms' n < mPot T ms n
  | 0, _, ⟨u, hu, _⟩ => absurd hu (Nat.not_lt_zero _)
  | n + 1, h, ⟨u, hu, h1, h2⟩ => by
    simp only [mPot]
    rcases Nat.lt_or_ge u n with q | q
    · have h3 := mPot_lt (T := T) (ms := ms) (ms' := ms') n (fun u hu => h u (by omega)) ⟨u, q, h1, h2⟩
      have h4 := h n (by omega)
      omega
    · have e : u = n := by omega
      subst e
      have h3 := mPot_le (T := T) (ms := ms) (ms' := ms') u (fun u hu => h u (by omega))
      omega
theorem mPot_congr {T : Nat} {ms ms' : Nat → Nat} (n : Nat) (h : ∀ u, u < n → ms u = ms' u) : mPot T ms n = mPot T ms' n :=
  Nat.le_antisymm (mPot_le n fun u hu => Nat.le_of_eq (h u hu).symm) (mPot_le n fun u hu => Nat.le_of_eq (h u hu))
/-- a measure that no step passes, or the top -/
def mFix (cnt : Nat → Nat) (ow ca : Nat → Nat) (E : Nat → Nat → Prop) (μ : Nat → Nat) : Prop :=
  (∀ v, μ v ≤ mW cnt 5) ∧ ∀ v, (ow v = 0 → (∃ w, E v w ∧ mOv cnt (ca v) (μ w) ≤ μ v) ∨ μ v = mW cnt 5) ∧ (ow v ≠ 0 → ∀ w, E v w → mOv cnt (ca v) (μ w) ≤ μ v ∨ μ v = mW cnt 5)
theorem mLf_le {cnt ms μ : Nat → Nat} {ow ca : Nat → Nat} {E : Nat → Nat → Prop} {n v L : Nat} (hE : ∀ v w, E v w → w < n) (hL : L ≤ mW cnt 5) (h : mLf cnt ms ow ca E v L) (hf : mFix cnt ow ca E μ) (hm : ∀ u, u < n → ms u ≤ μ u) : L ≤ μ v := by
  obtain ⟨f1, f2⟩ := hf
  by_cases q : ow v = 0
  · rcases (f2 v).1 q with ⟨w, a, b⟩ | e
    · exact Nat.le_trans ((h.1 q).1 w a) (Nat.le_trans (mOv_mono (hm w (hE v w a)) (f1 w)) b)
    · omega
  · rcases (h.2 q).2 with ⟨w, a, b⟩ | ⟨-, e⟩
    · rcases (f2 v).2 q w a with c | e
      · rw [b]
        exact Nat.le_trans (mOv_mono (hm w (hE v w a)) (f1 w)) c
      · omega
    · omega
theorem solved_ok {n m : Nat} {ow ca fr to : Nat → Nat} {lv : Nat → Bool} {live measure now weight : Nat → Int32} {post : Int32 → Int32 → (Nat → Int32) → (Nat → Int32) → Prop} (hM : mdOk n m ow ca fr to now) (hl : mLive m lv live)
    (h : ∀ (r t : Int32) (me we : Nat → Int32), (∀ u, bt r u = true ↔ u < n ∧ pWin ow ca (mE m fr to lv) 0 u) → post r t me we) : wp_X6_solved live measure now weight post := by
  have hM' := hM
  obtain ⟨hn, hm, ho, hca, h0, h1, hp, hk⟩ := hM
  have hE : ∀ v w, mE m fr to lv v w → v < n ∧ w < n := fun v w ⟨k, a, _, b, c⟩ => by
    obtain ⟨-, -, d, e⟩ := hk k a
    rw [← b, ← c]
    exact ⟨d, e⟩
  have hcnt : ∀ q, gCnt n ca q ≤ 20 := fun q => Nat.le_trans (gCnt_le n ca q) hn
  have h5 := (mW_bd hcnt).2.2.2.2
  have hp5 := mW_pos (gCnt n ca) 5
  unfold wp_X6_solved
  refine weighs_ok hM' (fun w hw => ?_)
  refine fx2_go (fun v1 me => ∃ k, k ≤ n ∧ v1 = nI k ∧ ∀ u, u < k → me u = 0) (fun v1 _ => n - v1.toNatClampNeg) ?_ _ _ ⟨0, Nat.zero_le _, rfl, fun u hu => absurd hu (Nat.not_lt_zero _)⟩
  rintro rec v1 me ⟨k, hkn, rfl, hme⟩ hrec
  unfold F_X6_solved_6
  have hclk : (nI k).toNatClampNeg = k := nI_clamp (by omega)
  rw [h0]
  refine ⟨fun q => ?_, fun q => ?_⟩
  rotate_left
  · have hlt : k < n := by
      rcases Nat.lt_or_ge k n with z | z
      · exact z
      · exact absurd (nI_le z (by omega)) q
    refine ⟨vp_in_nI (by omega) (by omega), hrec _ _ ⟨k + 1, by omega, nI_1 k, fun u hu => ?_⟩ (by rw [nI_1, nI_clamp (by omega), hclk]; omega)⟩
    rw [hclk]
    by_cases z : u = k
    · rw [z]; exact pk_us
    · rw [pk_un z]; exact hme u (by omega)
  have e : k = n := by have := (nI_leI (by omega) (by omega)).mp q; omega
  subst e
  -- sweeps
  refine fx2_go (fun v1 me => ∃ ms : Nat → Nat, (∀ u, u < k → me u = nI (ms u) ∧ ms u ≤ mW (gCnt k ca) 5) ∧ (∀ μ, mFix (gCnt k ca) ow ca (mE m fr to lv) μ → ∀ u, u < k → ms u ≤ μ u) ∧ (v1 = 0 → ∀ u, u < k → ∃ L, mLf (gCnt k ca) ms ow ca (mE m fr to lv) u L ∧ L ≤ ms u))
    (fun v1 me => 2 * mPot (mW (gCnt k ca) 5) (fun u => (me u).toNatClampNeg) k + (if v1 = 0 then 0 else 1)) ?_ _ _ ⟨fun _ => 0, fun u hu => ⟨hme u hu, Nat.zero_le _⟩, fun μ _ u _ => Nat.zero_le _, fun z => absurd z (by decide)⟩
  rintro rec v1 me ⟨ms, hms, hfix, hstop⟩ hrec
  unfold F_X6_solved_31
  have hpot : mPot (mW (gCnt k ca) 5) (fun u => (me u).toNatClampNeg) k = mPot (mW (gCnt k ca) 5) ms k := mPot_congr k (fun u hu => by
    try dsimp only
    rw [(hms u hu).1, nI_clamp (by have := (hms u hu).2; omega)])
  refine ⟨fun q1 => ?_, fun q1 => ?_⟩
  · -- the end: the set
    have hst := hstop q1
    refine fx2_go (fun v2 v3 => ∃ j, j ≤ k ∧ v3 = nI j ∧ ∀ u, bt v2 u = true ↔ u < j ∧ ms u < mW (gCnt k ca) 5) (fun _ v3 => k - v3.toNatClampNeg) ?_ _ _ ⟨0, Nat.zero_le _, rfl, fun u => by rw [b_0]; simp⟩
    rintro rec2 v2 v3 ⟨j, hj, rfl, hb⟩ hrec2
    unfold F_X6_solved_87
    have hclj : (nI j).toNatClampNeg = j := nI_clamp (by omega)
    rw [h0]
    refine ⟨fun z => ?_, fun z => ?_⟩
    · have e : j = k := by have := (nI_leI (by omega) (by omega)).mp z; omega
      subst e
      refine h _ _ _ _ (fun u => ?_)
      rw [hb u]
      refine ⟨fun ⟨a, b⟩ => ⟨a, ?_⟩, fun ⟨a, S, r, hc, hs⟩ => ⟨a, ?_⟩⟩
      · refine m_sound (cnt := gCnt j ca) (ms := ms) (fun v hv => (hms v hv).2) hE (fun v hv o l => ?_) (fun v w hv o he => ?_) a b
        · obtain ⟨L, hL, hL2⟩ := hst v hv
          rcases (hL.1 o).2 with ⟨w, c, d⟩ | ⟨-, d⟩
          · exact ⟨w, c, by omega⟩
          · omega
        · obtain ⟨L, hL, hL2⟩ := hst v hv
          exact Nat.le_trans ((hL.2 o).1 w he) hL2
      · -- restrict the certificate to the places
        have hc' : pCert ow ca (mE m fr to lv) 0 (fun v => S v ∧ v < j) r := fun v hv => by
          obtain ⟨c1, c2⟩ := hc v hv.1
          exact ⟨fun o => (c1 o).elim fun w g => ⟨w, g.1, ⟨g.2.1, (hE v w g.1).2⟩, g.2.2⟩, fun o w hw => ⟨⟨(c2 o w hw).1, (hE v w hw).2⟩, (c2 o w hw).2⟩⟩
        obtain ⟨μ, m1, m2, m3, m4⟩ := m_complete (n := j) hca (fun v hv => hv.2) hc'
        have := hfix μ ⟨m1, fun v => ⟨m3 v, fun o w hw => m4 v w o hw⟩⟩ u a
        have := m2 u ⟨hs, a⟩
        omega
    · have hlt : j < k := by
        rcases Nat.lt_or_ge j k with y | y
        · exact y
        · exact absurd (nI_le y (by omega)) z
      have hmj := hms j hlt
      rw [hclj, hmj.1]
      refine ⟨vp_in_nI (by omega) (by omega), fun y => ?_, fun y => ?_⟩
      · have := (nI_leI (by omega) (by omega)).mp y
        refine hrec2 _ _ ⟨j + 1, by omega, nI_1 j, fun u => ?_⟩ (by rw [nI_1, nI_clamp (by omega), hclj]; omega)
        rw [b_orI, hb u, st_no (X := fun u => ms u < mW (gCnt k ca) 5) (by omega)]
        exact ⟨fun x => x.elim id (fun x => absurd x (b_n0 u)), Or.inl⟩
      · have : ¬ mW (gCnt k ca) 5 ≤ ms j := fun x => y ((nI_leI (by omega) (by omega)).mpr x)
        refine hrec2 _ _ ⟨j + 1, by omega, nI_1 j, fun u => ?_⟩ (by rw [nI_1, nI_clamp (by omega), hclj]; omega)
        rw [b_setbit (by omega), hb u, st_yes (X := fun u => ms u < mW (gCnt k ca) 5) (by omega)]
  · -- a sweep
    refine fx3_go (fun f v2 me2 => ∃ j, j ≤ k ∧ v2 = nI j ∧ ∃ ms2 : Nat → Nat, (∀ u, u < k → me2 u = nI (ms2 u) ∧ ms2 u ≤ mW (gCnt k ca) 5) ∧ (∀ μ, mFix (gCnt k ca) ow ca (mE m fr to lv) μ → ∀ u, u < k → ms2 u ≤ μ u) ∧
        ((f = 0 ∧ (∀ u, u < k → ms2 u = ms u) ∧ ∀ u, u < j → ∃ L, mLf (gCnt k ca) ms2 ow ca (mE m fr to lv) u L ∧ L ≤ ms2 u) ∨ (f = 1 ∧ mPot (mW (gCnt k ca) 5) ms2 k < mPot (mW (gCnt k ca) 5) ms k)))
      (fun _ v2 _ => k - v2.toNatClampNeg) ?_ _ _ _ ⟨0, Nat.zero_le _, rfl, ms, hms, hfix, Or.inl ⟨rfl, fun _ _ => rfl, fun u hu => absurd hu (Nat.not_lt_zero _)⟩⟩
    rintro rec2 f v2 me2 ⟨j, hj, rfl, ms2, hms2, hfix2, hor⟩ hrec2
    unfold F_X6_solved_39
    have hclj : (nI j).toNatClampNeg = j := nI_clamp (by omega)
    rw [h0]
    refine ⟨fun z => ?_, fun z => ?_⟩
    · have e : j = k := by have := (nI_leI (by omega) (by omega)).mp z; omega
      subst e
      have hpot2 : mPot (mW (gCnt j ca) 5) (fun u => (me2 u).toNatClampNeg) j = mPot (mW (gCnt j ca) 5) ms2 j := mPot_congr j (fun u hu => by
        try dsimp only
        rw [(hms2 u hu).1, nI_clamp (by have := (hms2 u hu).2; omega)])
      refine hrec _ _ ⟨ms2, hms2, hfix2, fun y => ?_⟩ ?_
      · rcases hor with ⟨-, -, x⟩ | ⟨x, -⟩
        · exact x
        · rw [x] at y; exact absurd y (by decide)
      · rw [hpot, hpot2, if_neg q1]
        rcases hor with ⟨x, x2, -⟩ | ⟨x, x2⟩
        · rw [if_pos x, mPot_congr j x2]; omega
        · rw [if_neg (by rw [x]; decide)]; omega
    · have hlt : j < k := by
        rcases Nat.lt_or_ge j k with y | y
        · exact y
        · exact absurd (nI_le y (by omega)) z
      refine lifted_ok hM' hlt hcnt hw hl hms2 (fun L hL hLf => ?_)
      have hmj := hms2 j hlt
      rw [hclj, hmj.1]
      refine ⟨vp_in_nI (by omega) (by omega), fun y => ?_, fun y => ⟨vp_in_nI (by omega) (by omega), ?_⟩⟩
      · have hle := (nI_leI (by omega) (by omega)).mp y
        refine hrec2 _ _ _ ⟨j + 1, by omega, nI_1 j, ms2, hms2, hfix2, ?_⟩ (by rw [nI_1, nI_clamp (by omega), hclj]; omega)
        rcases hor with ⟨x, x2, x3⟩ | x
        · refine Or.inl ⟨x, x2, fun u hu => ?_⟩
          rcases Nat.lt_or_ge u j with t | t
          · exact x3 u t
          · have : u = j := by omega
            rw [this]
            exact ⟨L, hLf, hle⟩
        · exact Or.inr x
      · have hgt : ¬ L ≤ ms2 j := fun x => y ((nI_leI (by omega) (by omega)).mpr x)
        have hup : ∀ u, u < k → ms2 u ≤ (if u = j then L else ms2 u) := fun u _ => by
          split
          · rename_i t; rw [t]; omega
          · exact Nat.le_refl _
        refine hrec2 _ _ _ ⟨j + 1, by omega, nI_1 j, fun u => if u = j then L else ms2 u, fun u hu => ?_, fun μ hμ u hu => ?_, Or.inr ⟨rfl, ?_⟩⟩ (by rw [nI_1, nI_clamp (by omega), hclj]; omega)
        · dsimp only
          by_cases t : u = j
          · subst t
            rw [if_pos rfl]
            exact ⟨pk_us, hL⟩
          · rw [if_neg t, pk_un t]
            exact hms2 u hu
        · dsimp only
          by_cases t : u = j
          · subst t
            rw [if_pos rfl]
            exact mLf_le (fun v w he => (hE v w he).2) hL hLf hμ (hfix2 μ hμ)
          · rw [if_neg t]
            exact hfix2 μ hμ u hu
        · have h6 := mPot_lt (T := mW (gCnt k ca) 5) (ms := ms2) (ms' := fun u => if u = j then L else ms2 u) k hup ⟨j, hlt, by rw [if_pos rfl]; omega, by rw [if_pos rfl]; exact hL⟩
          rcases hor with ⟨-, x2, -⟩ | ⟨-, x2⟩
          · rw [← mPot_congr k x2]; exact h6
          · omega
