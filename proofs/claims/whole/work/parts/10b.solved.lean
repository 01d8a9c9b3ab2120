/-! THE REFERENCE'S WINNERS: its measures -/
theorem ix4 (v : Nat) : (4 : Int32) + nI v = nI (4 + v) := nI_add 4 v
theorem ix24 (v : Nat) : (24 : Int32) + nI v = nI (24 + v) := nI_add 24 v
theorem ix44 (v : Nat) : (44 : Int32) + nI v = nI (44 + v) := nI_add 44 v
theorem ix105 (v : Nat) : (105 : Int32) + nI v = nI (105 + v) := nI_add 105 v
theorem ix166 (v : Nat) : (166 : Int32) + nI v = nI (166 + v) := nI_add 166 v
/-- the row 'now' shows a game of n places and m moves -/
def mdOk (n m : Nat) (ow ca fr to : Nat → Nat) (now : Nat → Int32) : Prop :=
  n ≤ 20 ∧ m ≤ 61 ∧ (∀ v, ow v < 2) ∧ (∀ v, ca v < 10) ∧ now 0 = nI n ∧ now 1 = nI m ∧ (∀ u, u < n → now (4 + u) = nI (ow u) ∧ now (24 + u) = nI (ca u)) ∧ ∀ k, k < m → now (44 + k) = nI (fr k) ∧ now (105 + k) = nI (to k) ∧ fr k < n ∧ to k < n
/-- the moves that count -/
def mE (m : Nat) (fr to : Nat → Nat) (lv : Nat → Bool) (v w : Nat) : Prop := ∃ k, k < m ∧ lv k = true ∧ fr k = v ∧ to k = w
def mLive (m : Nat) (lv : Nat → Bool) (live : Nat → Int32) : Prop := ∀ k, k < m → live k = if lv k = true then 1 else 0
theorem weighs_ok {n m : Nat} {ow ca fr to : Nat → Nat} {now weight : Nat → Int32} {post : Int32 → (Nat → Int32) → Prop} (hM : mdOk n m ow ca fr to now)
    (h : ∀ w : Nat → Int32, (∀ j, j < 5 → w (2 * j + 1) = nI (mW (gCnt n ca) j)) → post (nI (mW (gCnt n ca) 5)) w) : wp_X6_weighs now weight post := by
  obtain ⟨hn, hm, ho, hca, h0, h1, hp, hk⟩ := hM
  have hb := mW_bd (cnt := gCnt n ca) (fun q => Nat.le_trans (gCnt_le n ca q) hn)
  have hbj : ∀ j, j ≤ 5 → mW (gCnt n ca) j ≤ 4084101 := fun j hj => Nat.le_trans (mW_le hj) hb.2.2.2.2
  unfold wp_X6_weighs
  refine fx3_go (fun v1 v2 w => ∃ j, j ≤ 5 ∧ v2 = nI (2 * j + 1) ∧ v1 = nI (mW (gCnt n ca) j) ∧ ∀ i, i < j → w (2 * i + 1) = nI (mW (gCnt n ca) i)) (fun _ v2 _ => 12 - v2.toNatClampNeg) ?_ _ _ _ ⟨0, Nat.zero_le _, rfl, rfl, fun i hi => absurd hi (Nat.not_lt_zero _)⟩
  rintro rec v1 v2 w ⟨j, hj, rfl, rfl, hw⟩ hrec
  unfold F_X6_weighs_4
  have e10 : (10 : Int32) = nI 10 := rfl
  have hcl : (nI (2 * j + 1)).toNatClampNeg = 2 * j + 1 := nI_clamp (by omega)
  refine ⟨fun q => ?_, fun q => ⟨vp_in_nI (by omega) (by omega), ?_⟩⟩
  · rw [e10] at q
    have := (nI_leI (a := 10) (b := 2 * j + 1) (by omega) (by omega)).mp q
    have e : j = 5 := by omega
    subst e
    exact h w hw
  · have hj5 : j < 5 := by
      rcases Nat.lt_or_ge j 5 with z | z
      · exact z
      · exact absurd (by rw [e10]; exact nI_le (by omega) (by omega)) q
    refine fx2_go (fun v3 v4 => ∃ k, k ≤ n ∧ v4 = nI k ∧ v3 = nI (pCnt (fun u => decide (ca u = 2 * j + 1)) k + 1)) (fun _ v4 => n - v4.toNatClampNeg) ?_ _ _ ⟨0, Nat.zero_le _, rfl, rfl⟩
    rintro rec2 v3 v4 ⟨k, hk', rfl, rfl⟩ hrec2
    unfold F_X6_weighs_22
    have hclk : (nI k).toNatClampNeg = k := nI_clamp (by omega)
    rw [h0]
    refine ⟨fun q2 => ?_, fun q2 => ?_⟩
    · have e : k = n := by have := (nI_leI (by omega) (by omega)).mp q2; omega
      subst e
      refine hrec _ _ _ ⟨j + 1, by omega, ?_, ?_, fun i hi => ?_⟩ ?_
      · show nI (2 * j + 1) + nI 2 = _
        rw [nI_add]
        exact congrArg nI (by omega)
      · rw [pk_mul]
        rfl
      · rw [hcl]
        by_cases z : i = j
        · subst z
          exact pk_us
        · rw [pk_un (by omega)]
          exact hw i (by omega)
      · show 12 - (nI (2 * j + 1) + nI 2).toNatClampNeg < _
        rw [nI_add, nI_clamp (by omega), hcl]
        omega
    · have hlt : k < n := by
        rcases Nat.lt_or_ge k n with z | z
        · exact z
        · exact absurd (nI_le z (by omega)) q2
      rw [ix24, nI_clamp (by omega), (hp k hlt).2]
      refine ⟨vp_in_nI (by omega) (by omega), fun q3 => ?_, fun q3 => ?_⟩
      · refine hrec2 _ _ ⟨k + 1, by omega, nI_1 k, ?_⟩ (by rw [nI_1, nI_clamp (by omega), hclk]; omega)
        have hne : ca k ≠ 2 * j + 1 := fun e => q3 (by rw [e])
        show nI (_ + 1) + nI 0 = _
        rw [nI_add]
        simp only [pCnt]
        rw [if_neg (by simpa using hne)]
      · refine hrec2 _ _ ⟨k + 1, by omega, nI_1 k, ?_⟩ (by rw [nI_1, nI_clamp (by omega), hclk]; omega)
        have he : ca k = 2 * j + 1 := (nI_eq (by have := hca k; omega) (by omega)).mp q3
        rw [nI_1]
        simp only [pCnt]
        rw [if_pos (by simpa using he)]
theorem over_ok {cnt : Nat → Nat} {c x : Nat} {weight : Nat → Int32} {post : Int32 → Prop} (hc : c < 10) (hcnt : ∀ q, cnt q ≤ 20) (hx : x ≤ mW cnt 5) (hw : ∀ j, j < 5 → weight (2 * j + 1) = nI (mW cnt j))
    (h : post (nI (mOv cnt c x))) : wp_X6_over (nI c) (nI x) (nI (mW cnt 5)) weight post := by
  have hb := mW_bd hcnt
  have h5 := hb.2.2.2.2
  have hJ : mW cnt (c / 2) ≤ 4084101 := Nat.le_trans (mW_le (by omega)) h5
  have hpJ := mW_pos cnt (c / 2)
  have e2 : (2 : Int32) = nI 2 := rfl
  have hmod : nI c - nI c / (2 : Int32) * (2 : Int32) = nI (c % 2) := by rw [e2]; exact pk_rem (by omega) (by decide) (by decide)
  unfold wp_X6_over
  rw [hmod]
  unfold mOv at h
  refine ⟨fun q => ⟨fun q2 => ?_, fun q2 => ?_⟩, fun q => ?_⟩
  · -- an odd call
    have hne : x ≠ mW cnt 5 := fun e => q (by rw [e])
    rw [if_neg hne] at h
    have hc2 : ¬ c % 2 = 0 := fun e => q2 (by rw [e]; rfl)
    rw [if_neg hc2] at h
    have hcj : 2 * (c / 2) + 1 = c := by omega
    have hwc : weight c = nI (mW cnt (c / 2)) := by rw [← hw (c / 2) (by omega), hcj]
    rw [nI_clamp (show c < 2 ^ 31 by omega), hwc]
    have hr : nI x - nI x / nI (mW cnt (c / 2)) * nI (mW cnt (c / 2)) = nI (x % mW cnt (c / 2)) := pk_rem (by omega) hpJ (by omega)
    have hm := Nat.mod_le x (mW cnt (c / 2))
    rw [hr, pk_sub hm, nI_add]
    refine ⟨vp_in_nI (by omega) (by omega), nI_ne0 hpJ (by omega), vp_in_nI (by omega) (by omega), fun q3 => ?_, fun q3 => ?_⟩
    · have := (nI_leI (by omega) (by omega)).mp q3
      rwa [if_neg (by omega)] at h
    · have : ¬ x - x % mW cnt (c / 2) + mW cnt (c / 2) ≤ mW cnt 5 := fun z => q3 ((nI_leI (by omega) (by omega)).mpr z)
      rwa [if_pos (by omega)] at h
  · have hne : x ≠ mW cnt 5 := fun e => q (by rw [e])
    rw [if_neg hne] at h
    have hc2 : c % 2 = 0 := (nI_eq (b := 0) (by omega) (by omega)).mp q2
    rw [if_pos hc2] at h
    have e9 : (9 : Int32) = nI 9 := rfl
    rw [nI_1]
    refine ⟨fun _ => ?_, fun q3 => absurd (by rw [e9]; exact nI_le (by omega) (by omega)) q3⟩
    have hcj : 2 * (c / 2) + 1 = c + 1 := by omega
    have hwc : weight (c + 1) = nI (mW cnt (c / 2)) := by rw [← hw (c / 2) (by omega), hcj]
    rw [nI_clamp (show c + 1 < 2 ^ 31 by omega), hwc]
    have hr : nI x - nI x / nI (mW cnt (c / 2)) * nI (mW cnt (c / 2)) = nI (x % mW cnt (c / 2)) := pk_rem (by omega) hpJ (by omega)
    have hm := Nat.mod_le x (mW cnt (c / 2))
    rw [hr, pk_sub hm]
    exact ⟨vp_in_nI (by omega) (by omega), nI_ne0 hpJ (by omega), h⟩
  · have : x = mW cnt 5 := (nI_eq (by omega) (by omega)).mp q
    rwa [if_pos this] at h
/-- what lifted answers: the least, or the greatest, of the steps -/
def mLf (cnt ms : Nat → Nat) (ow ca : Nat → Nat) (E : Nat → Nat → Prop) (v L : Nat) : Prop :=
  (ow v = 0 → (∀ w, E v w → L ≤ mOv cnt (ca v) (ms w)) ∧ ((∃ w, E v w ∧ L = mOv cnt (ca v) (ms w)) ∨ ((¬ ∃ w, E v w) ∧ L = mW cnt 5))) ∧
  (ow v ≠ 0 → (∀ w, E v w → mOv cnt (ca v) (ms w) ≤ L) ∧ ((∃ w, E v w ∧ L = mOv cnt (ca v) (ms w)) ∨ ((¬ ∃ w, E v w) ∧ L = 0)))
theorem lifted_ok {n m v : Nat} {ow ca fr to cnt ms : Nat → Nat} {lv : Nat → Bool} {live measure now weight : Nat → Int32} {post : Int32 → Prop} (hM : mdOk n m ow ca fr to now) (hv : v < n) (hcnt : ∀ q, cnt q ≤ 20)
    (hw : ∀ j, j < 5 → weight (2 * j + 1) = nI (mW cnt j)) (hl : mLive m lv live) (hms : ∀ u, u < n → measure u = nI (ms u) ∧ ms u ≤ mW cnt 5)
    (h : ∀ L, L ≤ mW cnt 5 → mLf cnt ms ow ca (mE m fr to lv) v L → post (nI L)) : wp_X6_lifted (nI v) (nI (mW cnt 5)) live measure now weight post := by
  obtain ⟨hn, hm, ho, hca, h0, h1, hp, hk⟩ := hM
  have h5 := (mW_bd hcnt).2.2.2.2
  unfold wp_X6_lifted
  rw [ix4, nI_clamp (show 4 + v < 2 ^ 31 by omega), (hp v hv).1]
  refine ⟨vp_in_nI (by omega) (by omega), ?_⟩
  have how := ho v
  -- E restricted to the first k moves
  refine fx2_go (fun v3 v4 => ∃ k, k ≤ m ∧ v4 = nI k ∧ ((v3 = (-1 : Int32) ∧ ¬ ∃ w, mE k fr to lv v w) ∨ ∃ L, L ≤ mW cnt 5 ∧ v3 = nI L ∧ (∃ w, mE k fr to lv v w ∧ L = mOv cnt (ca v) (ms w)) ∧ (ow v = 0 → ∀ w, mE k fr to lv v w → L ≤ mOv cnt (ca v) (ms w)) ∧ (ow v ≠ 0 → ∀ w, mE k fr to lv v w → mOv cnt (ca v) (ms w) ≤ L)))
    (fun _ v4 => m - v4.toNatClampNeg) ?_ _ _ ⟨0, Nat.zero_le _, rfl, Or.inl ⟨rfl, fun ⟨w, k, hk, _⟩ => absurd hk (Nat.not_lt_zero _)⟩⟩
  rintro rec v3 v4 ⟨k, hkm, rfl, hI⟩ hrec
  unfold F_X6_lifted_14
  have hclk : (nI k).toNatClampNeg = k := nI_clamp (by omega)
  rw [h1]
  refine ⟨fun q => ?_, fun q => ?_⟩
  · have e : k = m := by have := (nI_leI (by omega) (by omega)).mp q; omega
    subst e
    rcases hI with ⟨rfl, hno⟩ | ⟨L, hL, rfl, hex, hlo, hhi⟩
    · refine ⟨fun _ => ⟨fun q2 => ?_, fun q2 => ?_⟩, fun q2 => absurd rfl q2⟩
      · have hne : ow v ≠ 0 := fun e => q2 (by rw [e]; rfl)
        exact h 0 (Nat.zero_le _) ⟨fun e => absurd e hne, fun _ => ⟨fun w hw => absurd ⟨w, hw⟩ hno, Or.inr ⟨hno, rfl⟩⟩⟩
      · have he : ow v = 0 := (nI_eq (b := 0) (by omega) (by omega)).mp q2
        exact h _ (Nat.le_refl _) ⟨fun _ => ⟨fun w hw => absurd ⟨w, hw⟩ hno, Or.inr ⟨hno, rfl⟩⟩, fun e => absurd he e⟩
    · have hne : ¬ nI L = (-1 : Int32) := fun q => by
        have h1 := nI_pos (n := L) (by omega)
        rw [q] at h1
        exact h1 (by decide)
      refine ⟨fun q2 => absurd q2 hne, fun _ => h L hL ⟨fun e => ⟨hlo e, Or.inl hex⟩, fun e => ⟨hhi e, Or.inl hex⟩⟩⟩
  · have hlt : k < m := by
      rcases Nat.lt_or_ge k m with z | z
      · exact z
      · exact absurd (nI_le z (by omega)) q
    have hrec' : ∀ z, ((z = (-1 : Int32) ∧ ¬ ∃ w, mE (k + 1) fr to lv v w) ∨ ∃ L, L ≤ mW cnt 5 ∧ z = nI L ∧ (∃ w, mE (k + 1) fr to lv v w ∧ L = mOv cnt (ca v) (ms w)) ∧ (ow v = 0 → ∀ w, mE (k + 1) fr to lv v w → L ≤ mOv cnt (ca v) (ms w)) ∧ (ow v ≠ 0 → ∀ w, mE (k + 1) fr to lv v w → mOv cnt (ca v) (ms w) ≤ L)) → rec z (nI k + 1) := fun z hz =>
      hrec z _ ⟨k + 1, by omega, nI_1 k, hz⟩ (by rw [nI_1, nI_clamp (by omega), hclk]; omega)
    have same : ¬ (lv k = true ∧ fr k = v) → (∀ w, mE (k + 1) fr to lv v w ↔ mE k fr to lv v w) := fun hno w => by
      constructor
      · rintro ⟨j, hj, a, b, c⟩
        rcases Nat.lt_or_ge j k with z | z
        · exact ⟨j, z, a, b, c⟩
        · have : j = k := by omega
          subst this
          exact absurd ⟨a, b⟩ hno
      · rintro ⟨j, hj, a, b, c⟩
        exact ⟨j, by omega, a, b, c⟩
    have keep : ¬ (lv k = true ∧ fr k = v) → rec v3 (nI k + 1) := fun hno => hrec' v3 (by
      rcases hI with ⟨a, b⟩ | ⟨L, hL, a, ⟨w, b, b'⟩, c, d⟩
      · exact Or.inl ⟨a, fun ⟨w, hw⟩ => b ⟨w, (same hno w).mp hw⟩⟩
      · exact Or.inr ⟨L, hL, a, ⟨w, (same hno w).mpr b, b'⟩, fun e w hw => c e w ((same hno w).mp hw), fun e w hw => d e w ((same hno w).mp hw)⟩)
    obtain ⟨k1, k2, k3, k4⟩ := hk k hlt
    rw [hclk, hl k hlt, ix44, ix105, nI_clamp (show 44 + k < 2 ^ 31 by omega), nI_clamp (show 105 + k < 2 ^ 31 by omega), k1, k2, ix24, nI_clamp (show 24 + v < 2 ^ 31 by omega), (hp v hv).2, nI_clamp (show to k < 2 ^ 31 by omega), (hms (to k) k4).1]
    refine ⟨vp_in_nI (by omega) (by omega), fun q2 => ?_, fun q2 => ⟨vp_in_nI (by omega) (by omega), fun q3 => ?_, fun q3 => ⟨vp_in_nI (by omega) (by omega), vp_in_nI (by omega) (by omega), vp_in_nI (by omega) (by omega), ?_⟩⟩⟩
    · refine keep (fun z => q2 ?_)
      rw [if_pos z.1]
    · exact keep (fun z => q3 (by rw [z.2]))
    · have hlv : lv k = true := Classical.byContradiction fun z => by
        rw [if_neg z] at q2
        exact absurd q2 (by decide)
      have hfr : fr k = v := (nI_eq (by omega) (by omega)).mp q3
      have new : mE (k + 1) fr to lv v (to k) := ⟨k, by omega, hlv, hfr, rfl⟩
      have old : ∀ w, mE (k + 1) fr to lv v w → mE k fr to lv v w ∨ w = to k := fun w ⟨j, hj, a, b, c⟩ => by
        rcases Nat.lt_or_ge j k with z | z
        · exact Or.inl ⟨j, z, a, b, c⟩
        · have : j = k := by omega
          subst this
          exact Or.inr c.symm
      have up : ∀ w, mE k fr to lv v w → mE (k + 1) fr to lv v w := fun w ⟨j, hj, a, b, c⟩ => ⟨j, by omega, a, b, c⟩
      have hov := mOv_le (cnt := cnt) (c := ca v) (hms (to k) k4).2
      refine over_ok (hca v) hcnt (hms (to k) k4).2 hw ?_
      rcases hI with ⟨rfl, hno⟩ | ⟨L, hL, rfl, ⟨w0, hw0, hL0⟩, hlo, hhi⟩
      · refine ⟨fun _ => hrec' _ (Or.inr ⟨_, hov, rfl, ⟨to k, new, rfl⟩, fun _ w hw => ?_, fun _ w hw => ?_⟩), fun z => absurd rfl z⟩
        · rcases old w hw with z | z
          · exact absurd ⟨w, z⟩ hno
          · rw [z]; exact Nat.le_refl _
        · rcases old w hw with z | z
          · exact absurd ⟨w, z⟩ hno
          · rw [z]; exact Nat.le_refl _
      · have hne : ¬ nI L = (-1 : Int32) := fun q => by
          have h1 := nI_pos (n := L) (by omega)
          rw [q] at h1
          exact h1 (by decide)
        refine ⟨fun z => absurd z hne, fun _ => ⟨fun q4 => ?_, fun q4 => ?_⟩⟩
        · have hne0 : ow v ≠ 0 := fun e => q4 (by rw [e]; rfl)
          refine ⟨fun q5 => ?_, fun q5 => ?_⟩
          · have := (nI_leI (by omega) (by omega)).mp q5
            refine hrec' _ (Or.inr ⟨L, hL, rfl, ⟨w0, up w0 hw0, hL0⟩, fun e => absurd e hne0, fun _ w hw => ?_⟩)
            rcases old w hw with z | z
            · exact hhi hne0 w z
            · rw [z]; exact this
          · have : ¬ mOv cnt (ca v) (ms (to k)) ≤ L := fun z => q5 ((nI_leI (by omega) (by omega)).mpr z)
            refine hrec' _ (Or.inr ⟨_, hov, rfl, ⟨to k, new, rfl⟩, fun e => absurd e hne0, fun _ w hw => ?_⟩)
            rcases old w hw with z | z
            · have := hhi hne0 w z; omega
            · rw [z]; exact Nat.le_refl _
        · have he0 : ow v = 0 := (nI_eq (b := 0) (by omega) (by omega)).mp q4
          refine ⟨fun q5 => ?_, fun q5 => ?_⟩
          · have := (nI_leI (by omega) (by omega)).mp q5
            refine hrec' _ (Or.inr ⟨L, hL, rfl, ⟨w0, up w0 hw0, hL0⟩, fun _ w hw => ?_, fun e => absurd he0 e⟩)
            rcases old w hw with z | z
            · exact hlo he0 w z
            · rw [z]; exact this
          · have : ¬ L ≤ mOv cnt (ca v) (ms (to k)) := fun z => q5 ((nI_leI (by omega) (by omega)).mpr z)
            refine hrec' _ (Or.inr ⟨_, hov, rfl, ⟨to k, new, rfl⟩, fun _ w hw => ?_, fun e => absurd he0 e⟩)
            rcases old w hw with z | z
            · have := hlo he0 w z; omega
            · rw [z]; exact Nat.le_refl _
