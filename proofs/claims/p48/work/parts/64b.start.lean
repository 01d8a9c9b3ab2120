/-! the start of the law: the game that both constructors lay -/
abbrev pl0 : List (Nat × Nat) := [] ++ [(0, 0)] ++ [(0, 1)] ++ [(1, 2)] ++ [(1, 3)]
abbrev mv0 : List (Nat × Nat) := [] ++ [(0, 1)] ++ [(0, 2)] ++ [(1, 0)] ++ [(1, 3)] ++ [(2, 0)] ++ [(2, 3)] ++ [(3, 2)]
def g0 : gm := (pl0, mv0, 0, 0, hdLay pl0 0)
theorem g0_ok : gOk g0 := ⟨⟨by decide, by decide, by decide, by decide, by decide⟩, by decide, by decide⟩
def P5_0 (p o : Int32) (c : Nat → Int32) (m : Int32) (f t : Nat → Int32) (tk md : Int32) (h : Nat → Int32) : Prop := RG g0 p o m tk md c f h t
def P6_0 (n : Nat → Int32) : Prop := RM g0 n
theorem x5_init_ok : wp_X5_init P5_0 := by
  unfold wp_X5_init
  refine x1_appendPlace (pl := []) (o := 0) (c := 0) ⟨rfl, fun u => ⟨fun h => absurd h (b_n0 u), fun h => absurd h.1 (Nat.not_lt_zero _)⟩, fun u h => absurd h (Nat.not_lt_zero _)⟩ (by decide) (by decide) (fun p1 o1 c1 h1 => ?_)
  refine x1_appendPlace (o := 0) (c := 1) h1 (by decide) (by decide) (fun p2 o2 c2 h2 => ?_)
  refine x1_appendPlace (o := 1) (c := 2) h2 (by decide) (by decide) (fun p3 o3 c3 h3 => ?_)
  refine x1_appendPlace (o := 1) (c := 3) h3 (by decide) (by decide) (fun p4 o4 c4 h4 => ?_)
  refine x1_appendMove (mv := []) (a := 0) (b := 1) ⟨rfl, fun k h => absurd h (Nat.not_lt_zero _)⟩ (by decide) (fun m1 f1 t1 v1 => ?_)
  refine x1_appendMove (a := 0) (b := 2) v1 (by decide) (fun m2 f2 t2 v2 => ?_)
  refine x1_appendMove (a := 1) (b := 0) v2 (by decide) (fun m3 f3 t3 v3 => ?_)
  refine x1_appendMove (a := 1) (b := 3) v3 (by decide) (fun m4 f4 t4 v4 => ?_)
  refine x1_appendMove (a := 2) (b := 0) v4 (by decide) (fun m5 f5 t5 v5 => ?_)
  refine x1_appendMove (a := 2) (b := 3) v5 (by decide) (fun m6 f6 t6 v6 => ?_)
  refine x1_appendMove (a := 3) (b := 2) v6 (by decide) (fun m7 f7 t7 v7 => ?_)
  exact x1_layAt (p := 0) h4 (by decide) (by decide) (by decide) (fun t m h hT => ⟨h4, v7, hT⟩)
theorem lw6 {L j : Nat} (hL : L ≤ 3072) (hj : j ≤ 3072) : nI L - (6 : Int32) < nI j ↔ L < j + 6 := by
  have e : (nI L - (6 : Int32)).toInt = (L : Int) - 6 := by
    rw [Int32.toInt_sub, nI_toInt (by omega)]
    show ((L : Int) - 6).bmod (2 ^ 32) = (L : Int) - 6
    rw [Int.bmod_eq_of_le (by omega) (by omega)]
  rw [Int32.lt_iff_toInt_lt, e, nI_toInt (by omega)]
  omega
theorem lw63 (x : Int32) : ∃ j, j < 64 ∧ x &&& (63 : Int32) = nI j := by
  refine ⟨x.toBitVec.toNat % 2 ^ 6, Nat.mod_lt _ (by decide), b_ext (fun i hi => ?_)⟩
  have h63 : ∀ i, i < 32 → bt 63 i = decide (i < 6) := by decide +kernel
  rw [b_and, h63 i hi, bt_nI, Nat.testBit_mod_two_pow, decide_eq_true hi, Bool.true_and, Bool.and_comm]
  rfl
