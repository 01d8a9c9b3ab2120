/-! the texts: words; the reference's tokens -/
def wordAt (T : Nat → Nat) (w s e : Nat) : Prop := e - s = gLen.getD w 0 ∧ ∀ j, j < gLen.getD w 0 → nI (T (s + j)) = (gByt.getD w []).getD j 0
theorem gW_ok : ∀ w, w < 5 → gLen.getD w 0 ≤ 5 ∧ 0 < gLen.getD w 0 ∧ ∀ j, j < 5 → ((gByt.getD w []).getD j 0 = 0 ↔ gLen.getD w 0 ≤ j) := by decide +kernel
section WRD
variable {T : Nat → Nat} {n k e s w : Nat} {text : Nat → Int32} {v : Int32}
theorem x5_isWord {post : Int32 → Prop} (hn : n ≤ 600) (hs : s ≤ e) (he : e ≤ n) (hk : k < 5) (hw : w < 5) (hT : ∀ j, j < n → text j = nI (T j) ∧ T j < 256)
    (h1 : k = 1 → wordAt T w s e → post 1) (h0 : ¬ (k = 1 ∧ wordAt T w s e) → post 0) : wp_X4_isWord w (nI k) (nI s) (nI e) text post := by
  have k1 : nI k = (1 : Int32) ↔ k = 1 := nI_eq (b := 1) (by omega) (by decide)
  obtain ⟨hl, _, _⟩ := gW_ok w hw
  unfold wp_X4_isWord
  refine ⟨fun q => h0 (fun z => q (k1.mpr z.1)), fun q => ⟨fun q2 => ?_, fun q2 => h0 (fun z => q2 ?_)⟩⟩
  · have q3 : e - s = gLen.getD w 0 := by
      rw [i_subn hs] at q2
      exact (nI_eq (by omega) (by omega)).mp q2
    refine up1 (gLen.getD w 0) (by omega) (fun j => ∀ i, i < j → nI (T (s + i)) = (gByt.getD w []).getD i 0) 0 (Nat.zero_le _) (fun i hi => absurd hi (Nat.not_lt_zero _)) (fun rec hI => ?_) (fun rec j hj hI hrec => ?_)
    · unfold F_X4_isWord_28
      exact ⟨fun _ => h1 (k1.mp q) ⟨q3, hI⟩, fun z => absurd (Int32.le_refl _) z⟩
    · unfold F_X4_isWord_28
      refine ⟨fun z => absurd z (nI_ge hj (by omega)), fun _ => ?_⟩
      rw [nI_add]
      refine ⟨txt_in (by omega) hn, vp_in_nI hj (by omega), ?_⟩
      rw [nI_clamp (show s + j < 2 ^ 31 by omega), (hT (s + j) (by omega)).1]
      unfold bW
      rw [nI_clamp (show j < 2 ^ 31 by omega)]
      refine ⟨fun z => hrec (fun i hi => ?_), fun z => h0 (fun y => z (y.2.2 j hj))⟩
      rcases Nat.eq_or_lt_of_le (Nat.le_of_lt_succ hi) with c | c
      · rw [c]; exact z
      · exact hI i c
  · rw [i_subn hs, z.2.1]
def RKy (keys : Nat → Int32) : Prop := ∀ w, w < 5 → ∀ j, j < 5 → keys (5 * w + j) = (gByt.getD w []).getD j 0
def sgB (x : Nat) : Int32 := if x < 128 then nI x else nI x - 256
theorem sgB_in {x : Nat} (hx : x < 256) : (sgB x).toInt = if x < 128 then (x : Int) else (x : Int) - 256 := by
  unfold sgB
  by_cases q : x < 128
  · rw [if_pos q, if_pos q, nI_toInt (by omega)]
  · rw [if_neg q, if_neg q, Int32.toInt_sub, nI_toInt (by omega)]
    show ((x : Int) - 256).bmod (2 ^ 32) = (x : Int) - 256
    rw [Int.bmod_eq_of_le (by omega) (by omega)]
theorem sgB_eq {x c : Nat} (hx : x < 256) (hc : c < 128) : sgB x = nI c ↔ x = c := by
  rw [← Int32.toInt_inj, sgB_in hx, nI_toInt (by omega)]
  by_cases q : x < 128
  · rw [if_pos q]; omega
  · rw [if_neg q]; omega
theorem sgB_lt {x c : Nat} (hx : x < 256) (hc : c < 128) : sgB x < nI c ↔ (x < c ∨ 128 ≤ x) := by
  rw [Int32.lt_iff_toInt_lt, sgB_in hx, nI_toInt (by omega)]
  by_cases q : x < 128
  · rw [if_pos q]; omega
  · rw [if_neg q]; omega
theorem lt_sgB {x c : Nat} (hx : x < 256) (hc : c < 128) : nI c < sgB x ↔ (c < x ∧ x < 128) := by
  rw [Int32.lt_iff_toInt_lt, sgB_in hx, nI_toInt (by omega)]
  by_cases q : x < 128
  · rw [if_pos q]; omega
  · rw [if_neg q]; omega
variable {inp keys : Nat → Int32}
theorem tokR_of {kk bb b : Nat} {v' : Int32} (hst : tokS T n e = s) (hB : tokB T n s = (kk, bb)) (ng : ¬ ((k = 1 ∨ k = 2) ∧ s = e) ∨ ¬ (kk = 1 ∨ kk = 2)) (hb : b ≤ n) (hbb : kk ≠ 4 → b = bb) (hv : kk = 2 → v' = nI (vaF T s (bb - s))) : tokR T n k e (nI kk) (nI s) (nI b) v' := by
  have eK : tokK T n k e = kk := by
    unfold tokK tokG
    rw [hst, hB]
    rw [if_neg (fun z => ng.elim (fun y => y ⟨z.1, z.2.1⟩) (fun y => y z.2.2))]
  refine ⟨by rw [eK], by rw [hst], ⟨b, hb, rfl, fun z => ?_⟩, fun z => ?_⟩
  · unfold tokE
    rw [hst, hB]
    exact hbb (by rw [← eK]; exact z)
  · unfold tokV tokE
    rw [hst, hB]
    exact hv (by rw [← eK]; exact z)
theorem tokR_gl {b : Nat} {v' : Int32} (hst : tokS T n e = s) (hB : (tokB T n s).1 = 1 ∨ (tokB T n s).1 = 2) (g : (k = 1 ∨ k = 2) ∧ s = e) (hb : b ≤ n) : tokR T n k e 4 (nI s) (nI b) v' := by
  have eK : tokK T n k e = 4 := by
    unfold tokK tokG
    rw [hst]
    rw [if_pos ⟨g.1, g.2, hB⟩]
  refine ⟨by rw [eK]; rfl, by rw [hst], ⟨b, hb, rfl, fun z => absurd eK z⟩, fun z => ?_⟩
  rw [eK] at z
  exact absurd z (nn rfl)
theorem tokB_1 (hlt : s < n) (h : s < rn (fun j => isLe (T j)) n s) : tokB T n s = (1, rn (fun j => isLe (T j)) n s) := by
  have := of_decide_eq_true (rn_in (p := fun j => isLe (T j)) (Nat.le_refl s) h)
  unfold tokB
  rw [if_neg (by omega), if_neg (by omega), if_pos h]
theorem tokB_d (hlt : s < n) (h : ¬ s < rn (fun j => isLe (T j)) n s) (hd : s < rn (fun j => isDi (T j)) n s) : tokB T n s = if rn (fun j => isDi (T j)) n s - s ≤ 3 then (2, rn (fun j => isDi (T j)) n s) else (4, s + 1) := by
  have := of_decide_eq_true (rn_in (p := fun j => isDi (T j)) (Nat.le_refl s) hd)
  unfold tokB
  rw [if_neg (by omega), if_neg (by omega), if_neg h]
  by_cases q : rn (fun j => isDi (T j)) n s - s ≤ 3
  · rw [if_pos ⟨hd, q⟩, if_pos q]
  · rw [if_neg (fun z => q z.2), if_neg q]
theorem tokB_3 (hlt : s < n) (h : T s = 59) : tokB T n s = (3, s + 1) := by
  unfold tokB
  rw [if_neg (by omega), if_pos h]
theorem tokB_4 (hlt : s < n) (h : ¬ T s = 59) (h1 : ¬ s < rn (fun j => isLe (T j)) n s) (h2 : ¬ s < rn (fun j => isDi (T j)) n s) : tokB T n s = (4, s + 1) := by
  unfold tokB
  rw [if_neg (by omega), if_neg h, if_neg h1, if_neg (fun z => h2 z.1)]
theorem tokB_0 (h : n ≤ s) : tokB T n s = (0, s) := by
  unfold tokB
  rw [if_pos h]
end WRD
