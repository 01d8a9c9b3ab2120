/-! SMALL PROGRESS MEASURES: numbers of mixed radix, one digit for each odd call -/
/-- the weight of the j-th odd call (2 j + 1) -/
def mW (cnt : Nat → Nat) : Nat → Nat
  | 0 => 1
  | j + 1 => mW cnt j * (cnt (2 * j + 1) + 1)
theorem mW_pos (cnt : Nat → Nat) : ∀ j, 0 < mW cnt j
  | 0 => Nat.one_pos
  | j + 1 => Nat.mul_pos (mW_pos cnt j) (Nat.succ_pos _)
theorem mW_dvd (cnt : Nat → Nat) {J : Nat} : ∀ {j : Nat}, J ≤ j → mW cnt J ∣ mW cnt j := by
  intro j h
  induction h with
  | refl => exact Nat.dvd_refl _
  | step h ih => exact Nat.dvd_trans ih (Nat.dvd_mul_right _ _)
theorem mW_bd {cnt : Nat → Nat} (hc : ∀ q, cnt q ≤ 20) : mW cnt 1 ≤ 21 ∧ mW cnt 2 ≤ 441 ∧ mW cnt 3 ≤ 9261 ∧ mW cnt 4 ≤ 194481 ∧ mW cnt 5 ≤ 4084101 := by
  have st : ∀ j b, mW cnt j ≤ b → mW cnt (j + 1) ≤ b * 21 := fun j b h => Nat.mul_le_mul h (by have := hc (2 * j + 1); omega)
  have h1 := st 0 1 (Nat.le_refl _)
  have h2 := st 1 21 (by simpa using h1)
  have h3 := st 2 441 (by simpa using h2)
  have h4 := st 3 9261 (by simpa using h3)
  have h5 := st 4 194481 (by simpa using h4)
  exact ⟨by simpa using h1, by simpa using h2, by simpa using h3, by simpa using h4, by simpa using h5⟩
theorem mW_le {cnt : Nat → Nat} {J j : Nat} (h : J ≤ j) : mW cnt J ≤ mW cnt j := Nat.le_of_dvd (mW_pos cnt j) (mW_dvd cnt h)
/-- what a measure becomes by a step from a place with call c -/
def mOv (cnt : Nat → Nat) (c x : Nat) : Nat :=
  if x = mW cnt 5 then mW cnt 5 else if c % 2 = 0 then x - x % mW cnt (c / 2) else if mW cnt 5 < x - x % mW cnt (c / 2) + mW cnt (c / 2) then mW cnt 5 else x - x % mW cnt (c / 2) + mW cnt (c / 2)
theorem mOv_le {cnt : Nat → Nat} {c x : Nat} (hx : x ≤ mW cnt 5) : mOv cnt c x ≤ mW cnt 5 := by
  unfold mOv
  split
  · exact Nat.le_refl _
  · split
    · omega
    · split <;> omega
theorem sub_mod_mono {x y d : Nat} (h : x ≤ y) : x - x % d ≤ y - y % d := by
  have hx := Nat.div_add_mod x d
  have hy := Nat.div_add_mod y d
  have e1 : x - x % d = d * (x / d) := by omega
  have e2 : y - y % d = d * (y / d) := by omega
  rw [e1, e2]
  exact Nat.mul_le_mul_left d (Nat.div_le_div_right h)
theorem mOv_mono {cnt : Nat → Nat} {c x y : Nat} (h : x ≤ y) (hy : y ≤ mW cnt 5) : mOv cnt c x ≤ mOv cnt c y := by
  by_cases e : y = mW cnt 5
  · have : mOv cnt c y = mW cnt 5 := by unfold mOv; rw [if_pos e]
    rw [this]
    exact mOv_le (by omega)
  · have h1 := sub_mod_mono (d := mW cnt (c / 2)) h
    unfold mOv
    rw [if_neg e, if_neg (by omega)]
    split
    · exact h1
    · split <;> split <;> omega
/-- a step that doesn't pass the measure: the places' parts from each call on -/
theorem mOv_step {cnt : Nat → Nat} {c x y j : Nat} (hx : x ≤ mW cnt 5) (hy : y < mW cnt 5) (h : mOv cnt c x ≤ y) (hj : c ≤ 2 * j + 1) : x < mW cnt 5 ∧ x / mW cnt j + (if c = 2 * j + 1 then 1 else 0) ≤ y / mW cnt j := by
  have hne : x ≠ mW cnt 5 := fun e => by
    unfold mOv at h
    rw [if_pos e] at h
    omega
  refine ⟨by omega, ?_⟩
  unfold mOv at h
  rw [if_neg hne] at h
  have hJ : c / 2 ≤ j := by omega
  have hd := mW_dvd cnt hJ
  have hpJ := mW_pos cnt (c / 2)
  have hpj := mW_pos cnt j
  obtain ⟨k, hk⟩ := hd
  have hx0 := Nat.div_add_mod x (mW cnt (c / 2))
  have hm := Nat.mod_lt x hpJ
  have e1 : x - x % mW cnt (c / 2) = mW cnt (c / 2) * (x / mW cnt (c / 2)) := by omega
  have e2 : x / mW cnt j = (x / mW cnt (c / 2)) / k := by rw [hk, Nat.div_div_eq_div_mul]
  have kpos : 0 < k := by
    rcases Nat.eq_zero_or_pos k with q | q
    · rw [q, Nat.mul_zero] at hk; omega
    · exact q
  by_cases hc : c % 2 = 0
  · rw [if_pos hc, e1] at h
    rw [if_neg (by omega), Nat.add_zero, e2]
    have h2 : x / mW cnt (c / 2) ≤ y / mW cnt (c / 2) := (Nat.le_div_iff_mul_le hpJ).mpr (by rw [Nat.mul_comm]; exact h)
    rw [show y / mW cnt j = (y / mW cnt (c / 2)) / k by rw [hk, Nat.div_div_eq_div_mul]]
    exact Nat.div_le_div_right h2
  · rw [if_neg hc] at h
    have h' : mW cnt (c / 2) * (x / mW cnt (c / 2)) + mW cnt (c / 2) ≤ y := by
      split at h
      · omega
      · omega
    have h2 : x / mW cnt (c / 2) + 1 ≤ y / mW cnt (c / 2) := (Nat.le_div_iff_mul_le hpJ).mpr (by rw [Nat.mul_comm, Nat.mul_add, Nat.mul_one]; exact h')
    by_cases hcj : c = 2 * j + 1
    · have hjj : c / 2 = j := by omega
      rw [if_pos hcj]
      rw [hjj] at h2
      exact h2
    · rw [if_neg hcj, Nat.add_zero, e2, show y / mW cnt j = (y / mW cnt (c / 2)) / k by rw [hk, Nat.div_div_eq_div_mul]]
      exact Nat.div_le_div_right (by omega)
/-- the number whose digits are d: its part from the J-th digit on -/
def mT (cnt d : Nat → Nat) : Nat → Nat → Nat
  | 0, _ => 0
  | k + 1, J => d J + (cnt (2 * J + 1) + 1) * mT cnt d k (J + 1)
/-- and its part below -/
def mL (cnt d : Nat → Nat) : Nat → Nat
  | 0 => 0
  | J + 1 => mL cnt d J + d J * mW cnt J
theorem mL_lt {cnt d : Nat → Nat} (h : ∀ j, d j ≤ cnt (2 * j + 1)) : ∀ J, mL cnt d J < mW cnt J
  | 0 => Nat.one_pos
  | J + 1 => by
    have ih := mL_lt h J
    have h1 : d J * mW cnt J ≤ cnt (2 * J + 1) * mW cnt J := Nat.mul_le_mul_right _ (h J)
    show mL cnt d J + d J * mW cnt J < mW cnt J * (cnt (2 * J + 1) + 1)
    rw [Nat.mul_add, Nat.mul_one, Nat.mul_comm (mW cnt J)]
    omega
theorem m_split {cnt d : Nat → Nat} : ∀ k J, mL cnt d (J + k) = mL cnt d J + mW cnt J * mT cnt d k J
  | 0, J => by simp [mT]
  | k + 1, J => by
    have ih := m_split (cnt := cnt) (d := d) k (J + 1)
    have e : J + (k + 1) = J + 1 + k := by omega
    rw [e, ih]
    show mL cnt d J + d J * mW cnt J + mW cnt J * (cnt (2 * J + 1) + 1) * mT cnt d k (J + 1) = mL cnt d J + mW cnt J * (d J + (cnt (2 * J + 1) + 1) * mT cnt d k (J + 1))
    rw [Nat.mul_add (mW cnt J) (d J), Nat.mul_assoc, Nat.mul_comm (d J) (mW cnt J), Nat.add_assoc]
theorem mT_mono {cnt d d' : Nat → Nat} : ∀ k J, (∀ j, J ≤ j → d j ≤ d' j) → mT cnt d k J ≤ mT cnt d' k J
  | 0, _, _ => Nat.le_refl _
  | k + 1, J, h => Nat.add_le_add (h J (Nat.le_refl _)) (Nat.mul_le_mul_left _ (mT_mono k (J + 1) fun j hj => h j (by omega)))
/-- the number made of a certificate's ranks is one that no step from its places passes -/
theorem m_cert {cnt d d' : Nat → Nat} {c : Nat} (hc : c < 10) (h : ∀ j, d j ≤ cnt (2 * j + 1)) (h' : ∀ j, d' j ≤ cnt (2 * j + 1)) (hs : ∀ j, c ≤ 2 * j + 1 → d j + (if c = 2 * j + 1 then 1 else 0) ≤ d' j) : mOv cnt c (mL cnt d 5) ≤ mL cnt d' 5 := by
  have hJ : c / 2 + (5 - c / 2) = 5 := by omega
  have e := m_split (cnt := cnt) (d := d) (5 - c / 2) (c / 2)
  have e' := m_split (cnt := cnt) (d := d') (5 - c / 2) (c / 2)
  rw [hJ] at e e'
  have hl := mL_lt h (c / 2)
  have hl5 := mL_lt h 5
  have hl5' := mL_lt h' 5
  have hmod : mL cnt d 5 % mW cnt (c / 2) = mL cnt d (c / 2) := by
    rw [e, Nat.add_mul_mod_self_left, Nat.mod_eq_of_lt hl]
  have e1 : mL cnt d 5 - mL cnt d 5 % mW cnt (c / 2) = mW cnt (c / 2) * mT cnt d (5 - c / 2) (c / 2) := by rw [hmod]; omega
  unfold mOv
  rw [if_neg (by omega), e1]
  by_cases hc2 : c % 2 = 0
  · rw [if_pos hc2]
    have h1 := mT_mono (cnt := cnt) (d := d) (d' := d') (5 - c / 2) (c / 2) (fun j hj => by have := hs j (by omega); split at this <;> omega)
    have h2 := Nat.mul_le_mul_left (mW cnt (c / 2)) h1
    omega
  · rw [if_neg hc2]
    have h1 : mT cnt d (5 - c / 2) (c / 2) + 1 ≤ mT cnt d' (5 - c / 2) (c / 2) := by
      obtain ⟨k, hk⟩ : ∃ k, 5 - c / 2 = k + 1 := ⟨4 - c / 2, by omega⟩
      rw [hk]
      show d (c / 2) + _ + 1 ≤ d' (c / 2) + _
      have h3 := hs (c / 2) (by omega)
      rw [if_pos (by omega)] at h3
      have h4 := Nat.mul_le_mul_left (cnt (2 * (c / 2) + 1) + 1) (mT_mono (cnt := cnt) (d := d) (d' := d') k (c / 2 + 1) (fun j hj => by have := hs j (by omega); split at this <;> omega))
      omega
    have h2 := Nat.mul_le_mul_left (mW cnt (c / 2)) h1
    rw [Nat.mul_add, Nat.mul_one] at h2
    split <;> omega
/-- how many places have call q -/
def gCnt (n : Nat) (ca : Nat → Nat) (q : Nat) : Nat := pCnt (fun u => decide (ca u = q)) n
theorem gCnt_le (n : Nat) (ca : Nat → Nat) (q : Nat) : gCnt n ca q ≤ n := pCnt_top _ _
/-- a measure that no step passes: the places below the top are player 0's -/
theorem m_sound {n : Nat} {ow ca : Nat → Nat} {E : Nat → Nat → Prop} {cnt ms : Nat → Nat} (hm : ∀ v, v < n → ms v ≤ mW cnt 5) (hE : ∀ v w, E v w → v < n ∧ w < n)
    (h0 : ∀ v, v < n → ow v = 0 → ms v < mW cnt 5 → ∃ w, E v w ∧ mOv cnt (ca v) (ms w) ≤ ms v) (h1 : ∀ v w, v < n → ow v ≠ 0 → E v w → mOv cnt (ca v) (ms w) ≤ ms v) {v : Nat} (hv : v < n) (hlt : ms v < mW cnt 5) : pWin ow ca E 0 v := by
  refine ⟨fun v => v < n ∧ ms v < mW cnt 5, fun p v => ms v / mW cnt (p / 2), fun v ⟨hv, hlt⟩ => ⟨fun q => ?_, fun q w hw => ?_⟩, hv, hlt⟩
  · obtain ⟨w, a, b⟩ := h0 v hv q hlt
    have st := fun j hj => mOv_step (cnt := cnt) (c := ca v) (x := ms w) (y := ms v) (j := j) (hm w (hE v w a).2) hlt b hj
    refine ⟨w, a, ⟨(hE v w a).2, (st (ca v) (by omega)).1⟩, fun p hp hpv => ?_⟩
    obtain ⟨j, rfl⟩ : ∃ j, p = 2 * j + 1 := ⟨p / 2, by omega⟩
    have := (st j hpv).2
    dsimp only
    rw [show (2 * j + 1) / 2 = j by omega]
    exact this
  · have b := h1 v w hv q hw
    have st := fun j hj => mOv_step (cnt := cnt) (c := ca v) (x := ms w) (y := ms v) (j := j) (hm w (hE v w hw).2) hlt b hj
    refine ⟨⟨(hE v w hw).2, (st (ca v) (by omega)).1⟩, fun p hp hpv => ?_⟩
    obtain ⟨j, rfl⟩ : ∃ j, p = 2 * j + 1 := ⟨p / 2, by omega⟩
    have := (st j hpv).2
    dsimp only
    rw [show (2 * j + 1) / 2 = j by omega]
    exact this
/-- player 0's places have a measure below the top that no step passes, the others the top -/
theorem m_complete {n : Nat} {ow ca : Nat → Nat} {E : Nat → Nat → Prop} {S : Nat → Prop} {r : Nat → Nat → Nat} (hca : ∀ v, ca v < 10) (hn : ∀ v, S v → v < n) (hc : pCert ow ca E 0 S r) :
    ∃ ms : Nat → Nat, (∀ v, ms v ≤ mW (gCnt n ca) 5) ∧ (∀ v, S v → ms v < mW (gCnt n ca) 5) ∧ (∀ v, ow v = 0 → (∃ w, E v w ∧ mOv (gCnt n ca) (ca v) (ms w) ≤ ms v) ∨ ms v = mW (gCnt n ca) 5) ∧ (∀ v w, ow v ≠ 0 → E v w → mOv (gCnt n ca) (ca v) (ms w) ≤ ms v ∨ ms v = mW (gCnt n ca) 5) := by
  classical
  have hb := p_small hn hc
  let d : Nat → Nat → Nat := fun v j => pCnt (fun u => decide (ca u = 2 * j + 1) && decide (r (2 * j + 1) u ≤ r (2 * j + 1) v)) n
  have hd : ∀ v j, d v j ≤ gCnt n ca (2 * j + 1) := fun v j => pCnt_le (fun u _ hu => by
    rw [Bool.and_eq_true] at hu
    exact hu.1)
  have step : ∀ v w, S v → S w → pOk ca 0 (fun p v => pCnt (fun u => decide (ca u = p) && decide (r p u ≤ r p v)) n) v w → mOv (gCnt n ca) (ca v) (mL (gCnt n ca) (d w) 5) ≤ mL (gCnt n ca) (d v) 5 := fun v w hv hw hk =>
    m_cert (hca v) (hd w) (hd v) (fun j hj => hk (2 * j + 1) (by omega) hj)
  refine ⟨fun v => if S v then mL (gCnt n ca) (d v) 5 else mW (gCnt n ca) 5, fun v => ?_, fun v hv => ?_, fun v q => ?_, fun v w q hw => ?_⟩
  · dsimp only
    split
    · exact Nat.le_of_lt (mL_lt (hd v) 5)
    · exact Nat.le_refl _
  · dsimp only
    rw [if_pos hv]
    exact mL_lt (hd v) 5
  · by_cases hv : S v
    · obtain ⟨w, a, b, c⟩ := (hb v hv).1 q
      refine Or.inl ⟨w, a, ?_⟩
      dsimp only
      rw [if_pos hv, if_pos b]
      exact step v w hv b c
    · exact Or.inr (if_neg hv)
  · by_cases hv : S v
    · obtain ⟨b, c⟩ := (hb v hv).2 q w hw
      refine Or.inl ?_
      dsimp only
      rw [if_pos hv, if_pos b]
      exact step v w hv b c
    · exact Or.inr (if_neg hv)
