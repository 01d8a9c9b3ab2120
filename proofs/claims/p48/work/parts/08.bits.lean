/-! ===== Int32 by its bits: bt x i ===== -/
def bt (x : Int32) (i : Nat) : Bool := x.toBitVec.getLsbD i
theorem b_ext {x y : Int32} (h : ∀ i, i < 32 → bt x i = bt y i) : x = y := Int32.toBitVec_inj.mp (BitVec.eq_of_getLsbD_eq (fun i hi => h i hi))
theorem b_or (x y : Int32) (i : Nat) : bt (x ||| y) i = (bt x i || bt y i) := by unfold bt; rw [Int32.toBitVec_or, BitVec.getLsbD_or]
theorem b_and (x y : Int32) (i : Nat) : bt (x &&& y) i = (bt x i && bt y i) := by unfold bt; rw [Int32.toBitVec_and, BitVec.getLsbD_and]
theorem b_xor (x y : Int32) (i : Nat) : bt (x ^^^ y) i = (bt x i ^^ bt y i) := by unfold bt; rw [Int32.toBitVec_xor, BitVec.getLsbD_xor]
theorem b_big {x : Int32} {i : Nat} (h : 32 ≤ i) : bt x i = false := BitVec.getLsbD_of_ge _ _ h
theorem b_255 (i : Nat) : bt 255 i = decide (i < 8) := by
  rcases Nat.lt_or_ge i 32 with h | h
  · exact (by decide +kernel : ∀ i, i < 32 → bt 255 i = decide (i < 8)) i h
  · rw [b_big h, decide_eq_false (by omega)]
theorem b_65535 (i : Nat) : bt 65535 i = decide (i < 16) := by
  rcases Nat.lt_or_ge i 32 with h | h
  · exact (by decide +kernel : ∀ i, i < 32 → bt 65535 i = decide (i < 16)) i h
  · rw [b_big h, decide_eq_false (by omega)]
theorem b_m1 : ∀ i, i < 32 → bt (-1) i = true := by decide +kernel
theorem b_0 (i : Nat) : bt 0 i = false := BitVec.getLsbD_zero
theorem s_l : ∀ n, n < 32 → ((nI n &&& 31).toBitVec.smod 32).toNat = n := by decide +kernel
theorem s_u : ∀ n, n < 32 → (((nI n).toUInt32 &&& Int32.toUInt32 31).toBitVec % 32).toNat = n := by decide +kernel
theorem b_shl (n : Nat) (hn : n < 32) (x : Int32) {i : Nat} (hi : i < 32) : bt (x <<< (nI n &&& 31)) i = (decide (n ≤ i) && bt x (i - n)) := by
  unfold bt
  rw [Int32.toBitVec_shiftLeft]
  show (x.toBitVec <<< ((nI n &&& 31).toBitVec.smod 32).toNat).getLsbD i = _
  rw [s_l n hn, BitVec.getLsbD_shiftLeft]
  rcases Nat.lt_or_ge i n with h | h
  · simp [h, Nat.not_le.mpr h]
  · simp [hi, h, Nat.not_lt.mpr h]
theorem b_ushr (n : Nat) (hn : n < 32) (x : Int32) (i : Nat) : bt ((x.toUInt32 >>> ((nI n).toUInt32 &&& Int32.toUInt32 31)).toInt32) i = bt x (n + i) := by
  show (x.toUInt32 >>> ((nI n).toUInt32 &&& Int32.toUInt32 31)).toBitVec.getLsbD i = x.toUInt32.toBitVec.getLsbD (n + i)
  rw [UInt32.toBitVec_shiftRight]
  show (x.toUInt32.toBitVec >>> (((nI n).toUInt32 &&& Int32.toUInt32 31).toBitVec % 32).toNat).getLsbD i = _
  rw [s_u n hn, BitVec.getLsbD_ushiftRight]
theorem b_sshr (n : Nat) (hn : n < 32) (x : Int32) {i : Nat} (hi : i < 32) : bt (x >>> (nI n &&& 31)) i = if n + i < 32 then bt x (n + i) else bt x 31 := by
  unfold bt
  rw [Int32.toBitVec_shiftRight]
  show (x.toBitVec.sshiftRight ((nI n &&& 31).toBitVec.smod 32).toNat).getLsbD i = _
  rw [s_l n hn, BitVec.getLsbD_sshiftRight, BitVec.msb_eq_getLsbD_last]
  simp [hi]
theorem b_shl8 (x : Int32) {i : Nat} (hi : i < 32) : bt (x <<< ((8 : Int32) &&& 31)) i = (decide (8 ≤ i) && bt x (i - 8)) := b_shl 8 (by omega) x hi
theorem b_shl16 (x : Int32) {i : Nat} (hi : i < 32) : bt (x <<< ((16 : Int32) &&& 31)) i = (decide (16 ≤ i) && bt x (i - 16)) := b_shl 16 (by omega) x hi
theorem b_shl24 (x : Int32) {i : Nat} (hi : i < 32) : bt (x <<< ((24 : Int32) &&& 31)) i = (decide (24 ≤ i) && bt x (i - 24)) := b_shl 24 (by omega) x hi
theorem b_sshr8 (x : Int32) {i : Nat} (hi : i < 32) : bt (x >>> ((8 : Int32) &&& 31)) i = if 8 + i < 32 then bt x (8 + i) else bt x 31 := b_sshr 8 (by omega) x hi
/-! ===== sets of places as numbers ===== -/
theorem b_one {k : Nat} (hk : k < 32) (u : Nat) : bt ((1 : Int32) <<< (nI k &&& 31)) u = decide (u = k) := by
  rcases Nat.lt_or_ge u 32 with hu | hu
  · rw [b_shl k hk 1 hu]
    rcases Nat.lt_or_ge u k with q | q
    · rw [decide_eq_false (by omega), decide_eq_false (by omega)]; rfl
    · rw [decide_eq_true q, Bool.true_and]
      have h1 : ∀ j, j < 32 → bt 1 j = decide (j = 0) := by decide +kernel
      rw [h1 _ (by omega)]
      by_cases e : u = k
      · rw [decide_eq_true e, decide_eq_true (by omega)]
      · rw [decide_eq_false e, decide_eq_false (by omega)]
  · rw [b_big hu, decide_eq_false (by omega)]
theorem b_not (x : Int32) {u : Nat} (hu : u < 32) : bt (x ^^^ (-1 : Int32)) u = !bt x u := by
  rw [b_xor, b_m1 u hu]; cases bt x u <;> rfl
theorem b_setbit {x : Int32} {k : Nat} (hk : k < 32) (u : Nat) : bt (x ||| ((1 : Int32) <<< (nI k &&& 31))) u = true ↔ bt x u = true ∨ u = k := by
  rw [b_or, b_one hk, Bool.or_eq_true, decide_eq_true_eq]
theorem b_eq0 {x : Int32} : x = 0 ↔ ∀ u, ¬ bt x u = true := by
  constructor
  · rintro rfl u
    rw [b_0]; decide
  · intro h
    refine b_ext (fun i _ => ?_)
    rw [b_0]
    cases hb : bt x i
    · rfl
    · exact absurd hb (h i)
theorem b_and0 {x y : Int32} : x &&& y = 0 ↔ ∀ u, bt x u = true → ¬ bt y u = true := by
  rw [b_eq0]
  constructor
  · intro h u hx hy
    exact h u (by rw [b_and, hx, hy]; rfl)
  · intro h u hu
    rw [b_and, Bool.and_eq_true] at hu
    exact h u hu.1 hu.2
theorem b_andbit {x : Int32} {k : Nat} (hk : k < 32) : x &&& ((1 : Int32) <<< (nI k &&& 31)) = 0 ↔ ¬ bt x k = true := by
  rw [b_and0]
  constructor
  · intro h hx
    exact h k hx (by rw [b_one hk, decide_eq_true rfl])
  · intro h u hx hy
    rw [b_one hk, decide_eq_true_eq] at hy
    subst hy
    exact h hx
theorem b_lt {x : Int32} {u : Nat} (h : bt x u = true) : u < 32 := by
  rcases Nat.lt_or_ge u 32 with q | q
  · exact q
  · rw [b_big q] at h; cases h
theorem b_diff {x y : Int32} (u : Nat) : bt (x &&& (y ^^^ (-1 : Int32))) u = true ↔ bt x u = true ∧ ¬ bt y u = true := by
  rw [b_and, Bool.and_eq_true]
  constructor
  · rintro ⟨h1, h2⟩
    rw [b_not y (b_lt h1)] at h2
    refine ⟨h1, fun h3 => ?_⟩
    rw [h3] at h2; cases h2
  · rintro ⟨h1, h2⟩
    refine ⟨h1, ?_⟩
    rw [b_not y (b_lt h1)]
    cases hb : bt y u
    · rfl
    · exact absurd hb h2
theorem b_sub0 {x y : Int32} : x &&& (y ^^^ (-1 : Int32)) = 0 ↔ ∀ u, bt x u = true → bt y u = true := by
  rw [b_eq0]
  constructor
  · intro h u hx
    exact Decidable.byContradiction fun q => h u ((b_diff u).mpr ⟨hx, q⟩)
  · intro h u hu
    obtain ⟨h1, h2⟩ := (b_diff u).mp hu
    exact h2 (h u h1)
theorem b_andI {x y : Int32} (u : Nat) : bt (x &&& y) u = true ↔ bt x u = true ∧ bt y u = true := by rw [b_and, Bool.and_eq_true]
theorem b_orI {x y : Int32} (u : Nat) : bt (x ||| y) u = true ↔ bt x u = true ∨ bt y u = true := by rw [b_or, Bool.or_eq_true]
theorem b_ne0 {x : Int32} (h : ¬ x = 0) : ∃ u, bt x u = true := Classical.byContradiction fun q => h (b_eq0.mpr fun u hu => q ⟨u, hu⟩)
theorem b_all {n : Nat} (hn : n ≤ 20) (u : Nat) : bt (((1 : Int32) <<< (nI n &&& 31)) - 1) u = decide (u < n) := by
  rcases Nat.lt_or_ge u 32 with hu | hu
  · exact (by decide +kernel : ∀ n, n < 21 → ∀ u, u < 32 → bt (((1 : Int32) <<< (nI n &&& 31)) - 1) u = decide (u < n)) n (by omega) u hu
  · rw [b_big hu, decide_eq_false (by omega)]
theorem st_no {X : Nat → Prop} {k u : Nat} (h : ¬ X k) : (u < k + 1 ∧ X u) ↔ (u < k ∧ X u) := by
  constructor
  · rintro ⟨h1, h2⟩
    refine ⟨?_, h2⟩
    rcases Nat.lt_or_ge u k with q | q
    · exact q
    · have : u = k := by omega
      subst this
      exact absurd h2 h
  · rintro ⟨h1, h2⟩
    exact ⟨by omega, h2⟩
theorem st_yes {X : Nat → Prop} {k u : Nat} (h : X k) : (u < k + 1 ∧ X u) ↔ ((u < k ∧ X u) ∨ u = k) := by
  constructor
  · rintro ⟨h1, h2⟩
    rcases Nat.lt_or_ge u k with q | q
    · exact Or.inl ⟨q, h2⟩
    · exact Or.inr (by omega)
  · rintro (⟨h1, h2⟩ | rfl)
    · exact ⟨by omega, h2⟩
    · exact ⟨by omega, h⟩
