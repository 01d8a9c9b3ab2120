/-! ARGUMENTS -/
/-- an argument: one of the numbers below n, or none -/
theorem arg_ix (a : Int32) {n : Nat} (hn : n ≤ 1000) : (¬ (a < 0 ∨ nI n - 1 < a) ∧ ∃ k, k < n ∧ a = nI k) ∨ ((a < 0 ∨ nI n - 1 < a) ∧ ∀ k, k < n → a ≠ nI k) := by
  rcases pk_ix a (n := n) (by omega) with z | z | ⟨j, hj, rfl⟩
  · exact Or.inr ⟨Or.inl z, fun k hk e => nI_pos (n := k) (by omega) (by rw [← e]; exact z)⟩
  · refine Or.inr ⟨Or.inr ?_, fun k hk e => nI_ge hk (by omega) (by rw [← e]; exact z)⟩
    have h : nI n - 1 < nI n := by
      rcases Nat.eq_zero_or_pos n with q | q
      · subst q; decide
      · rw [i_subp q]; exact nI_lt (by omega) (by omega)
    rw [Int32.lt_iff_toInt_lt] at h ⊢
    rw [Int32.le_iff_toInt_le] at z
    omega
  · refine Or.inl ⟨?_, j, hj, rfl⟩
    rintro (z | z)
    · exact nI_pos (n := j) (by omega) z
    · rw [i_subp (by omega)] at z
      have := (nI_ltI (by omega) (by omega)).mp z
      omega
theorem bt_neg {a : Int32} : a < 0 ↔ bt a 31 = true := by
  have h := BitVec.msb_eq_toInt (x := a.toBitVec)
  rw [BitVec.msb_eq_getLsbD_last] at h
  rw [Int32.lt_iff_toInt_lt]
  unfold bt
  rw [show a.toBitVec.getLsbD 31 = decide (a.toBitVec.toInt < 0) from h, decide_eq_true_eq]
  exact Iff.rfl
theorem set_ix {a : Int32} {n : Nat} (hn : n ≤ 20) : (¬ a < 0 ∧ (a.toUInt32 >>> ((nI n).toUInt32 &&& Int32.toUInt32 31)).toInt32 = 0) ↔ ∀ u, bt a u = true → u < n := by
  constructor
  · rintro ⟨_, h⟩ u hu
    refine Nat.lt_of_not_le fun z => b_eq0.mp h (u - n) ?_
    rw [b_ushr n (by omega), Nat.add_sub_cancel' z]
    exact hu
  · intro h
    refine ⟨fun z => ?_, b_eq0.mpr fun u hu => ?_⟩
    · have := h 31 (bt_neg.mp z)
      omega
    · rw [b_ushr n (by omega)] at hu
      have := h _ hu
      omega
theorem set_ix2 {a : Int32} {n : Nat} (hn : n ≤ 20) : (¬ a < 0 ∧ a >>> (nI n &&& 31) = 0) ↔ ∀ u, bt a u = true → u < n := by
  constructor
  · rintro ⟨_, h⟩ u hu
    have h32 := b_lt hu
    refine Nat.lt_of_not_le fun z => b_eq0.mp h (u - n) ?_
    rw [b_sshr n (by omega) a (by omega), if_pos (by omega), Nat.add_sub_cancel' z]
    exact hu
  · intro h
    have hneg : ¬ a < 0 := fun z => by
      have := h 31 (bt_neg.mp z)
      omega
    refine ⟨hneg, b_eq0.mpr fun u hu => ?_⟩
    rw [b_sshr n (by omega) a (b_lt hu)] at hu
    split at hu
    · have := h _ hu
      omega
    · exact hneg (bt_neg.mpr hu)
theorem x5_needSet {n : Nat} {a : Int32} {post : Prop} {postX : String → Prop} (hn : n ≤ 20) (h0 : (¬ ∀ u, bt a u = true → u < n) → postX "java/lang/IllegalArgumentException") (h1 : (∀ u, bt a u = true → u < n) → post) : wp_X5_needSet a (nI n) post postX := by
  unfold wp_X5_needSet
  exact ⟨fun q => h0 fun z => ((set_ix hn).mpr z).1 q, fun q => ⟨fun q2 => h1 ((set_ix hn).mp ⟨q, q2⟩), fun q2 => h0 fun z => q2 ((set_ix hn).mpr z).2⟩⟩
theorem x5_needPlace {n : Nat} {a : Int32} {post : Prop} {postX : String → Prop} (hn : n ≤ 20) (h0 : (∀ k, k < n → a ≠ nI k) → postX "java/util/NoSuchElementException") (h1 : ∀ k, k < n → a = nI k → post) : wp_X5_needPlace a (nI n) post postX := by
  unfold wp_X5_needPlace
  exact x1_hasPlace hn (fun q => ⟨fun z => absurd rfl z, fun _ => h0 q⟩) (fun k hk e => ⟨fun _ => h1 k hk e, fun z => absurd z (by decide)⟩)
/-- the same as the programs ask it: below 0, or not below n -/
theorem arg_lt {a : Int32} {n : Nat} {A B : Prop} (hn : n ≤ 1000) (h0 : (∀ k, k < n → a ≠ nI k) → A) (h1 : ∀ k, k < n → a = nI k → B) : (a < 0 → A) ∧ (¬ a < 0 → (a < nI n → B) ∧ (¬ a < nI n → A)) := by
  rcases pk_ix a (n := n) (by omega) with z | z | ⟨j, hj, e⟩
  · exact ⟨fun _ => h0 fun k hk e => nI_pos (n := k) (by omega) (by rw [← e]; exact z), fun q => absurd z q⟩
  · have hno : ∀ k, k < n → a ≠ nI k := fun k hk e => nI_ge hk (by omega) (by rw [← e]; exact z)
    refine ⟨fun _ => h0 hno, fun _ => ⟨fun q => ?_, fun _ => h0 hno⟩⟩
    rw [Int32.lt_iff_toInt_lt] at q
    rw [Int32.le_iff_toInt_le] at z
    omega
  · exact ⟨fun q => absurd q (by rw [e]; exact nI_pos (by omega)), fun _ => ⟨fun _ => h1 j hj e, fun q => absurd (by rw [e]; exact nI_lt hj (by omega)) q⟩⟩
theorem x5_needMove {n : Nat} {a : Int32} {post : Prop} {postX : String → Prop} (hn : n ≤ 60) (h0 : (∀ k, k < n → a ≠ nI k) → postX "java/util/NoSuchElementException") (h1 : ∀ k, k < n → a = nI k → post) : wp_X5_needMove a (nI n) post postX := arg_lt (by omega) h0 h1
theorem x5_needCall {a : Int32} {post : Prop} {postX : String → Prop} (h0 : (∀ k, k < 10 → a ≠ nI k) → postX "java/lang/IllegalArgumentException") (h1 : ∀ k, k < 10 → a = nI k → post) : wp_X5_needCall a post postX := arg_lt (n := 10) (by decide) h0 h1
theorem x5_needSlot {a : Int32} {post : Prop} {postX : String → Prop} (h0 : (∀ k, k < 2 → a ≠ nI k) → postX "java/lang/IllegalArgumentException") (h1 : ∀ k, k < 2 → a = nI k → post) : wp_X5_needSlot a post postX := arg_lt (n := 2) (by decide) h0 h1
theorem x5_needPlayer {a : Int32} {post : Prop} {postX : String → Prop} (h0 : (∀ k, k < 2 → a ≠ nI k) → postX "java/lang/IllegalArgumentException") (h1 : ∀ k, k < 2 → a = nI k → post) : wp_X5_needPlayer a post postX := by
  unfold wp_X5_needPlayer
  refine ⟨fun q => h1 0 (by decide) q, fun q => ⟨fun q2 => h1 1 (by decide) q2, fun q2 => h0 fun k hk e => ?_⟩⟩
  rcases (show k = 0 ∨ k = 1 by omega) with y | y
  · subst y; exact q e
  · subst y; exact q2 e
