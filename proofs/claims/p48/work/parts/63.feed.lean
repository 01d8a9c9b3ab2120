/-! feed, on both sides -/
def fyB (a : Int32) (s : Nat) : Nat := (a.toBitVec.toNat / 2 ^ s) % 2 ^ 8
theorem fyB_lt (a : Int32) (s : Nat) : fyB a s < 256 := Nat.mod_lt _ (by decide)
theorem fyB_tb (a : Int32) (s i : Nat) : (fyB a s).testBit i = (decide (i < 8) && bt a (s + i)) := by
  unfold fyB
  rw [Nat.testBit_mod_two_pow, Nat.testBit_div_two_pow, Nat.add_comm i s]; rfl
theorem fy5 (a : Int32) {s : Nat} (hs : s < 32) : ((a.toUInt32 >>> ((nI s).toUInt32 &&& Int32.toUInt32 31)).toInt32 &&& (255 : Int32)) = nI (fyB a s) := b_ext (fun i hi => by
  rw [b_and, b_ushr s hs, b_255, bt_nI, fyB_tb, decide_eq_true hi, Bool.true_and, Bool.and_comm])
theorem sg_of (x : Int32) : vp_nar .byte (x.toInt8.toInt32) = sgB (x.toBitVec.toNat % 2 ^ 8) := by
  show x.toInt8.toInt32.toInt8.toInt32 = _
  have h8 : x.toBitVec.toNat % 2 ^ 8 < 256 := Nat.mod_lt _ (by decide)
  rw [Int8.toInt8_toInt32, ← Int32.toInt_inj, Int8.toInt_toInt32, Int32.toInt_toInt8, sgB_in h8]
  show (x.toBitVec.toInt).bmod (2 ^ 8) = _
  rw [BitVec.toInt_eq_toNat_bmod, Int.bmod_bmod_of_dvd (by decide), Int.bmod_def]
  have e : (x.toBitVec.toNat : Int) % ((2 ^ 8 : Nat) : Int) = ((x.toBitVec.toNat % 2 ^ 8 : Nat) : Int) := (Int.natCast_emod _ _).symm
  rw [e]
  generalize x.toBitVec.toNat % 2 ^ 8 = y at h8
  by_cases q : y < 128
  · rw [if_pos (by omega), if_pos q]
  · rw [if_neg (by omega), if_neg q]; rfl
theorem fy6 (a : Int32) {s : Nat} (hs : s ≤ 24) : vp_nar .byte ((a >>> (nI s &&& 31)).toInt8.toInt32) = sgB (fyB a s) := by
  rw [sg_of]
  congr 1
  refine Nat.eq_of_testBit_eq (fun i => ?_)
  rw [fyB_tb, Nat.testBit_mod_two_pow]
  show (decide (i < 8) && bt (a >>> (nI s &&& 31)) i) = _
  by_cases q : i < 8
  · rw [b_sshr s (by omega) a (by omega), if_pos (by omega)]
  · rw [decide_eq_false q, Bool.false_and, Bool.false_and]
theorem fy60 (a : Int32) : vp_nar .byte (a.toInt8.toInt32) = sgB (fyB a 0) := by
  rw [sg_of]
  unfold fyB
  rw [Nat.pow_zero, Nat.div_one]
/-- four bytes more -/
def fd4 (T : Nat → Nat) (N : Nat) (a : Int32) (j : Nat) : Nat :=
  if j = N + 3 then fyB a 0 else if j = N + 2 then fyB a 8 else if j = N + 1 then fyB a 16 else if j = N then fyB a 24 else T j
theorem fd4_lt {T : Nat → Nat} {N : Nat} {a : Int32} (hT : ∀ j, j < N → T j < 256) : ∀ j, j < N + 4 → fd4 T N a j < 256 := by
  intro j hj
  unfold fd4
  by_cases e3 : j = N + 3
  · rw [if_pos e3]; exact fyB_lt _ _
  rw [if_neg e3]
  by_cases e2 : j = N + 2
  · rw [if_pos e2]; exact fyB_lt _ _
  rw [if_neg e2]
  by_cases e1 : j = N + 1
  · rw [if_pos e1]; exact fyB_lt _ _
  rw [if_neg e1]
  by_cases e0 : j = N
  · rw [if_pos e0]; exact fyB_lt _ _
  rw [if_neg e0]; exact hT j (by omega)
theorem fd4_fn {T : Nat → Nat} {N : Nat} {a : Int32} {f : Nat → Int32} {g : Nat → Int32} (hf : ∀ j, j < N → f j = g (T j)) : ∀ j, j < N + 4 → upd (upd (upd (upd f N (g (fyB a 24))) (N + 1) (g (fyB a 16))) (N + 2) (g (fyB a 8))) (N + 3) (g (fyB a 0)) j = g (fd4 T N a j) := by
  intro j hj
  unfold fd4
  rw [upd_get, upd_get, upd_get, upd_get]
  by_cases e3 : j = N + 3
  · rw [if_pos e3, if_pos e3]
  rw [if_neg e3, if_neg e3]
  by_cases e2 : j = N + 2
  · rw [if_pos e2, if_pos e2]
  rw [if_neg e2, if_neg e2]
  by_cases e1 : j = N + 1
  · rw [if_pos e1, if_pos e1]
  rw [if_neg e1, if_neg e1]
  by_cases e0 : j = N
  · rw [if_pos e0, if_pos e0]
  rw [if_neg e0, if_neg e0]; exact hf j (by omega)
section FEED
variable {T : Nat → Nat} {N : Nat} {a b c d e : Int32} {inp : Nat → Int32}
theorem x5_append {post : Int32 → (Nat → Int32) → Prop} (hN : N + 4 ≤ 600) (hT : ∀ j, j < N → inp j = nI (T j) ∧ T j < 256)
    (h : ∀ i', (∀ j, j < N + 4 → i' j = nI (fd4 T N a j) ∧ fd4 T N a j < 256) → post (nI (N + 4)) i') : wp_X5_appendFour a (nI N) inp post := by
  have st : ∀ (s k : Nat) (f : Nat → Int32) (K0 rec : Int32 → Int32 → (Nat → Int32) → Prop), s < 32 → k < 600 → rec (nI s + (-8 : Int32)) (nI (k + 1)) (upd f k (nI (fyB a s))) → F_X5_appendFour_3 a K0 rec (nI s) (nI k) f := by
    intro s k f K0 rec hs hk hr
    unfold F_X5_appendFour_3
    refine ⟨fun z => absurd z (nI_pos (by omega)), fun _ => ⟨fun z => absurd z (nI_ge hk (by decide)), fun _ => ⟨vp_in_nI hk (by decide), ?_⟩⟩⟩
    rw [nI_clamp (show k < 2 ^ 31 by omega), fy5 a hs, nI_1]
    exact hr
  unfold wp_X5_appendFour
  refine ⟨5, ?_⟩
  refine st 24 N inp _ _ (by decide) (by omega) ?_
  refine st 16 (N + 1) _ _ _ (by decide) (by omega) ?_
  refine st 8 (N + 2) _ _ _ (by decide) (by omega) ?_
  refine st 0 (N + 3) _ _ _ (by decide) (by omega) ?_
  show F_X5_appendFour_3 _ _ _ _ _ _
  unfold F_X5_appendFour_3
  refine ⟨fun _ => h _ (fun j hj => ⟨fd4_fn (g := nI) (fun j hj => (hT j hj).1) j hj, fd4_lt (fun j hj => (hT j hj).2) j hj⟩), fun z => absurd (by decide) z⟩
def fdA (T : Nat → Nat) (N : Nat) (a b c d e : Int32) : Nat → Nat := fd4 (fd4 (fd4 (fd4 (fd4 T N a) (N + 4) b) (N + 8) c) (N + 12) d) (N + 16) e
theorem x5_feed {post : Int32 → Int32 → (Nat → Int32) → Prop} {postX : String → Int32 → (Nat → Int32) → Prop} (hN : N ≤ 600) (hT : ∀ j, j < N → inp j = nI (T j) ∧ T j < 256)
    (h1 : ¬ N ≤ 580 → postX "java/lang/IllegalStateException" (nI N) inp)
    (h : ∀ i', N ≤ 580 → (∀ j, j < N + 20 → i' j = nI (fdA T N a b c d e j) ∧ fdA T N a b c d e j < 256) → post (nI (N + 20)) (nI (N + 20)) i') : wp_X5_feed a b c d e (nI N) inp post postX := by
  unfold wp_X5_feed
  refine ⟨fun z => ?_, fun z => h1 (fun q => z (nI_le q (by decide)))⟩
  have z2 : N ≤ 580 := (nI_leI (a := N) (b := 580) (by omega) (by decide)).mp z
  exact x5_append (by omega) hT (fun i1 h1 => x5_append (by omega) h1 (fun i2 h2 => x5_append (by omega) h2 (fun i3 h3 => x5_append (by omega) h3 (fun i4 h4 => x5_append (by omega) h4 (fun i5 h5 => h i5 z2 h5)))))
end FEED
