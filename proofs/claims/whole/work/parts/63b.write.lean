/-! writePlaces and outputByte, on both sides -/
theorem nI_toNat {c : Nat} (h : c < 2 ^ 32) : (nI c).toBitVec.toNat = c := by
  show (BitVec.ofNat 32 c).toNat = c
  rw [BitVec.toNat_ofNat]; exact Nat.mod_eq_of_lt h
theorem nar_c {c : Nat} (hc : c < 128) : vp_nar .byte ((nI c).toInt8.toInt32) = nI c := by
  rw [sg_of, nI_toNat (by omega), Nat.mod_eq_of_lt (show c < 2 ^ 8 by omega)]
  unfold sgB
  rw [if_pos hc]
def ROut (out : List Nat) (len : Int32) (arr : Nat → Int32) : Prop := len = nI out.length ∧ ∀ j, j < out.length → arr j = nI (out.getD j 0)
theorem rOut_add {out : List Nat} {len : Int32} {arr : Nat → Int32} {c : Nat} (hc : c < 128) (hl : out.length < 1000) (hr : ROut out len arr) : ROut (out ++ [c]) (len + 1) (upd arr len.toNatClampNeg (vp_nar .byte ((nI c).toInt8.toInt32))) := by
  obtain ⟨rfl, h⟩ := hr
  refine ⟨by rw [List.length_append]; exact nI_1 _, fun j hj => ?_⟩
  rw [List.length_append] at hj
  have hj : j < out.length + 1 := hj
  rw [nI_clamp (by omega), upd_get, nar_c hc, List.getD_eq_getElem?_getD]
  by_cases q : j = out.length
  · rw [if_pos q, q, List.getElem?_append_right (Nat.le_refl _), Nat.sub_self]; rfl
  · rw [if_neg q, List.getElem?_append_left (by omega), ← List.getD_eq_getElem?_getD]; exact h j (by omega)
theorem x5_put {out : List Nat} {len : Int32} {arr : Nat → Int32} {c : Nat} {post : Int32 → (Nat → Int32) → Prop} (hc : c < 128) (hl : out.length < 140) (hr : ROut out len arr)
    (h : ∀ l w, ROut (out ++ [c]) l w → post l w) : wp_X5_put (nI c) len arr post := by
  have h9 := h _ _ (rOut_add hc (by omega) hr)
  obtain ⟨rfl, _⟩ := hr
  unfold wp_X5_put
  exact ⟨fun z => absurd z (nI_ge hl (by decide)), fun _ => ⟨vp_in_nI hl (by decide), h9⟩⟩
theorem x6_put {out : List Nat} {len : Int32} {arr : Nat → Int32} {c : Nat} {post : Int32 → (Nat → Int32) → Prop} (hc : c < 128) (hl : out.length < 140) (hr : ROut out len arr)
    (h : ∀ l w, ROut (out ++ [c]) l w → post l w) : wp_X6_writes (nI c) len arr post := by
  have h9 := h _ _ (rOut_add hc (by omega) hr)
  obtain ⟨rfl, _⟩ := hr
  unfold wp_X6_writes
  exact ⟨vp_in_nI (by omega) (by decide), h9⟩
/-- a place's row in the text -/
def wrN (t : Nat) : List Nat := if t < 10 then [48 + t % 10] else [48 + t / 10] ++ [48 + t % 10]
noncomputable def wrM (mv : List (Nat × Nat)) (v : Int32) : List Nat := if v = -1 then [] else [62] ++ wrN (lB mv v.toNatClampNeg)
noncomputable def wrS (pl mv : List (Nat × Nat)) (u : Nat) : List Nat := if pD (gW pl mv allL (lA pl u) u) = true then [42] else []
noncomputable def wrP (pl mv : List (Nat × Nat)) (u : Nat) : List Nat := [if lA pl u = 1 then 111 else 101] ++ ([48 + lB pl u] ++ (wrS pl mv u ++ wrM mv (plV pl mv u)))
noncomputable def wrA (pl mv : List (Nat × Nat)) : Nat → List Nat
  | 0 => []
  | u + 1 => wrA pl mv u ++ ((if u = 0 then [] else [32]) ++ wrP pl mv u)
theorem wrN_le (t : Nat) : (wrN t).length ≤ 2 := by
  unfold wrN
  by_cases q : t < 10
  · rw [if_pos q]; show 1 ≤ 2; decide
  · rw [if_neg q]; show 2 ≤ 2; decide
theorem wrM_le (mv : List (Nat × Nat)) (v : Int32) : (wrM mv v).length ≤ 3 := by
  unfold wrM
  by_cases q : v = -1
  · rw [if_pos q]; decide
  · rw [if_neg q, List.length_append]
    have := wrN_le (lB mv v.toNatClampNeg)
    show 1 + _ ≤ 3
    omega
theorem wrS_le (pl mv : List (Nat × Nat)) (u : Nat) : (wrS pl mv u).length ≤ 1 := by
  unfold wrS
  by_cases q : pD (gW pl mv allL (lA pl u) u) = true
  · rw [if_pos q]; decide
  · rw [if_neg q]; decide
theorem wrP_le (pl mv : List (Nat × Nat)) (u : Nat) : (wrP pl mv u).length ≤ 6 := by
  unfold wrP
  rw [List.length_append, List.length_append, List.length_append]
  have := wrM_le mv (plV pl mv u)
  have := wrS_le pl mv u
  show 1 + (1 + _) ≤ 6
  omega
theorem wrA_le (pl mv : List (Nat × Nat)) : ∀ u, (wrA pl mv u).length ≤ 7 * u - (if u = 0 then 0 else 1)
  | 0 => by rw [if_pos rfl]; exact Nat.le_refl _
  | u + 1 => by
    have ih := wrA_le pl mv u
    have h6 := wrP_le pl mv u
    show (wrA pl mv u ++ _).length ≤ _
    rw [if_neg (Nat.succ_ne_zero u), List.length_append, List.length_append]
    by_cases q : u = 0
    · rw [if_pos q] at ih ⊢
      show _ + (0 + _) ≤ _
      omega
    · rw [if_neg q] at ih ⊢
      show _ + (1 + _) ≤ _
      omega
section WR5
variable {pl mv : List (Nat × Nat)} {u : Nat} {out : List Nat} {len places odd moves bp ba zero zk ck : Int32} {arr calls fr to ch calling next owned : Nat → Int32}
theorem x5_wTail {K : Int32 → (Nat → Int32) → Prop} (hg : gOk0 pl mv) (hv : RV mv moves fr to) (hu : u < pl.length) (hch : ch u = plV pl mv u) (hl : out.length + 3 ≤ 140) (hr : ROut out len arr)
    (h : ∀ l w, ROut (out ++ wrM mv (plV pl mv u)) l w → K l w) : (vp_in (nI u) 20 ∧ (((ch (nI u).toNatClampNeg) = (-1 : Int32) → (K len arr)) ∧ (¬ ((ch (nI u).toNatClampNeg) = (-1 : Int32)) → (wp_X5_put (62 : Int32) len arr (fun l47 w48 => (vp_in (ch (nI u).toNatClampNeg) 60 ∧ (((to (ch (nI u).toNatClampNeg).toNatClampNeg) < (10 : Int32) → (wp_X5_put (((48 : Int32) + ((to (ch (nI u).toNatClampNeg).toNatClampNeg) - (to (ch (nI u).toNatClampNeg).toNatClampNeg) / (10 : Int32) * (10 : Int32)))) l47 w48 (fun l49 w50 => (K l49 w50)))) ∧ (¬ ((to (ch (nI u).toNatClampNeg).toNatClampNeg) < (10 : Int32)) → (wp_X5_put (((48 : Int32) + ((to (ch (nI u).toNatClampNeg).toNatClampNeg) / (10 : Int32)))) l47 w48 (fun l51 w52 => (wp_X5_put (((48 : Int32) + ((to (ch (nI u).toNatClampNeg).toNatClampNeg) - (to (ch (nI u).toNatClampNeg).toNatClampNeg) / (10 : Int32) * (10 : Int32)))) l51 w52 (fun l53 w54 => (K l53 w54))))))))))))) := by
  have hn := hg.1
  have hm := hg.2.1
  rw [nI_clamp (show u < 2 ^ 31 by omega), hch]
  refine ⟨vp_in_nI (by omega) (by decide), fun q => ?_, fun q => ?_⟩
  · rw [q] at h
    unfold wrM at h
    rw [if_pos rfl, List.append_nil] at h
    exact h _ _ hr
  · rcases plV_cases hg u with z | ⟨k, hk, _, e⟩
    · exact absurd z q
    · rw [e] at h q ⊢
      unfold wrM at h
      rw [if_neg q] at h
      rw [nI_clamp (show k < 2 ^ 31 by omega)] at h ⊢
      have ht := (gOk0_mv hg hk).2
      rw [(hv.2 k hk).2]
      generalize lB mv k = t at ht h ⊢
      have e1 : nI t - nI t / (10 : Int32) * (10 : Int32) = nI (t % 10) := pk_rem (d := 10) (by omega) (by decide) (by decide)
      have e2 : nI t / (10 : Int32) = nI (t / 10) := pk_div (d := 10) (by omega) (by decide) (by decide)
      have e3 : (48 : Int32) + nI (t % 10) = nI (48 + t % 10) := nI_add 48 _
      have e4 : (48 : Int32) + nI (t / 10) = nI (48 + t / 10) := nI_add 48 _
      rw [e1, e2, e3, e4]
      unfold wrN at h
      refine x5_put (c := 62) (by decide) (by omega) hr (fun l1 w1 h1 => ⟨vp_in_nI (by omega) (by decide), fun z => ?_, fun z => ?_⟩)
      · have z2 : t < 10 := (nI_ltI (a := t) (b := 10) (by omega) (by decide)).mp z
        rw [if_pos z2] at h
        refine x5_put (by omega) (by rw [List.length_append]; show _ + 1 < _; omega) h1 (fun l2 w2 h2 => h l2 w2 ?_)
        rw [List.append_assoc] at h2; exact h2
      · have z2 : ¬ t < 10 := fun q => z (nI_lt q (by decide))
        rw [if_neg z2] at h
        refine x5_put (by omega) (by rw [List.length_append]; show _ + 1 < _; omega) h1 (fun l2 w2 h2 => x5_put (by omega) (by rw [List.length_append, List.length_append]; show _ + 1 + 1 < _; omega) h2 (fun l3 w3 h3 => h l3 w3 ?_))
        rw [List.append_assoc, List.append_assoc] at h3; exact h3
theorem x5_wBody {c : Nat} {post : Int32 → Int32 → Int32 → (Nat → Int32) → Int32 → Int32 → (Nat → Int32) → (Nat → Int32) → (Nat → Int32) → Prop} (hg : gOk0 pl mv) (hp : RP pl places odd calls) (hv : RV mv moves fr to) (hz : RZ pl mv zero zk) (hu : u < pl.length) (hch : ch u = plV pl mv u) (hl : out.length + 6 ≤ 140) (hr : ROut out len arr)
    (hc : c = if lA pl u = 1 then 111 else 101)
    (h : ∀ l b1 b2 w z' k' c1 n1 o1, ROut (out ++ wrP pl mv u) l w → RZ pl mv z' k' → post l b1 b2 w z' k' c1 n1 o1) : (wp_X5_put (nI c) len arr (fun len_35 arr_36 => (vp_in (nI u) 20 ∧ (wp_X5_put (((48 : Int32) + (calls (nI u).toNatClampNeg))) len_35 arr_36 (fun len_37 arr_38 => (wp_X5_winnerOf (nI u) bp ba places odd moves zero zk calling next owned calls fr to (fun r_39 bp_40 ba_41 zero_42 zk_43 calling_44 next_45 owned_46 => ((¬ r_39 = (nI (lA pl u)) → (vp_in (nI u) 20 ∧ (((ch (nI u).toNatClampNeg) = (-1 : Int32) → (post len_37 bp_40 ba_41 arr_38 zero_42 zk_43 calling_44 next_45 owned_46)) ∧ (¬ ((ch (nI u).toNatClampNeg) = (-1 : Int32)) → (wp_X5_put (62 : Int32) len_37 arr_38 (fun len_47 arr_48 => (vp_in (ch (nI u).toNatClampNeg) 60 ∧ (((to (ch (nI u).toNatClampNeg).toNatClampNeg) < (10 : Int32) → (wp_X5_put (((48 : Int32) + ((to (ch (nI u).toNatClampNeg).toNatClampNeg) - (to (ch (nI u).toNatClampNeg).toNatClampNeg) / (10 : Int32) * (10 : Int32)))) len_47 arr_48 (fun len_49 arr_50 => (post len_49 bp_40 ba_41 arr_50 zero_42 zk_43 calling_44 next_45 owned_46)))) ∧ (¬ ((to (ch (nI u).toNatClampNeg).toNatClampNeg) < (10 : Int32)) → (wp_X5_put (((48 : Int32) + ((to (ch (nI u).toNatClampNeg).toNatClampNeg) / (10 : Int32)))) len_47 arr_48 (fun len_51 arr_52 => (wp_X5_put (((48 : Int32) + ((to (ch (nI u).toNatClampNeg).toNatClampNeg) - (to (ch (nI u).toNatClampNeg).toNatClampNeg) / (10 : Int32) * (10 : Int32)))) len_51 arr_52 (fun len_53 arr_54 => (post len_53 bp_40 ba_41 arr_54 zero_42 zk_43 calling_44 next_45 owned_46)))))))))))))) ∧ (r_39 = (nI (lA pl u)) → (wp_X5_put (42 : Int32) len_37 arr_38 (fun len_55 arr_56 => (vp_in (nI u) 20 ∧ (((ch (nI u).toNatClampNeg) = (-1 : Int32) → (post len_55 bp_40 ba_41 arr_56 zero_42 zk_43 calling_44 next_45 owned_46)) ∧ (¬ ((ch (nI u).toNatClampNeg) = (-1 : Int32)) → (wp_X5_put (62 : Int32) len_55 arr_56 (fun len_57 arr_58 => (vp_in (ch (nI u).toNatClampNeg) 60 ∧ (((to (ch (nI u).toNatClampNeg).toNatClampNeg) < (10 : Int32) → (wp_X5_put (((48 : Int32) + ((to (ch (nI u).toNatClampNeg).toNatClampNeg) - (to (ch (nI u).toNatClampNeg).toNatClampNeg) / (10 : Int32) * (10 : Int32)))) len_57 arr_58 (fun len_59 arr_60 => (post len_59 bp_40 ba_41 arr_60 zero_42 zk_43 calling_44 next_45 owned_46)))) ∧ (¬ ((to (ch (nI u).toNatClampNeg).toNatClampNeg) < (10 : Int32)) → (wp_X5_put (((48 : Int32) + ((to (ch (nI u).toNatClampNeg).toNatClampNeg) / (10 : Int32)))) len_57 arr_58 (fun len_61 arr_62 => (wp_X5_put (((48 : Int32) + ((to (ch (nI u).toNatClampNeg).toNatClampNeg) - (to (ch (nI u).toNatClampNeg).toNatClampNeg) / (10 : Int32) * (10 : Int32)))) len_61 arr_62 (fun len_63 arr_64 => (post len_63 bp_40 ba_41 arr_64 zero_42 zk_43 calling_44 next_45 owned_46)))))))))))))))))))))))) := by
  have hn := hg.1
  obtain ⟨ho, hcl⟩ := gOk0_ow hg u
  have hc9 : c < 128 := by
    rw [hc]
    by_cases q : lA pl u = 1
    · rw [if_pos q]; decide
    · rw [if_neg q]; decide
  rw [nI_clamp (show u < 2 ^ 31 by omega), hp.2.2 u hu, show (48 : Int32) + nI (lB pl u) = nI (48 + lB pl u) from nI_add 48 _]
  unfold wrP at h
  rw [← hc] at h
  refine x5_put hc9 (by omega) hr (fun l1 w1 h1 => ⟨vp_in_nI (by omega) (by decide), x5_put (by omega) (by rw [List.length_append]; show _ + 1 < _; omega) h1 (fun l2 w2 h2 => ?_)⟩)
  refine x5_winnerOf hg hp hv hz hu (fun i b1 b2 z' k' c1 n1 o1 hi hw hnw hz' => ⟨fun q => ?_, fun q => ?_⟩)
  · have e9 : lA pl u = 1 - i := by
      have : ¬ i = lA pl u := fun z => q (by rw [z])
      omega
    have e8 : wrS pl mv u = [] := by unfold wrS; rw [if_neg (fun z => hnw (by rw [← e9]; exact pD_t.mp z))]
    rw [e8] at h
    have := x5_wTail (K := fun l w => post l b1 b2 w z' k' c1 n1 o1) hg hv hu hch (by rw [List.length_append, List.length_append]; show _ + 1 + 1 + 3 ≤ _; omega) h2 (fun l w h3 => h l b1 b2 w z' k' c1 n1 o1 (by rw [List.append_assoc, List.append_assoc] at h3; exact h3) hz')
    rw [nI_clamp (show u < 2 ^ 31 by omega)] at this
    exact this
  · have e9 : i = lA pl u := (nI_eq (by omega) (by omega)).mp q
    have e8 : wrS pl mv u = [42] := by unfold wrS; rw [if_pos (pD_t.mpr (by rw [← e9]; exact hw))]
    rw [e8] at h
    refine x5_put (c := 42) (by decide) (by rw [List.length_append, List.length_append]; show _ + 1 + 1 < _; omega) h2 (fun l3 w3 h3 => ?_)
    have := x5_wTail (K := fun l w => post l b1 b2 w z' k' c1 n1 o1) hg hv hu hch (by rw [List.length_append, List.length_append, List.length_append]; show _ + 1 + 1 + 1 + 3 ≤ _; omega) h3 (fun l w h4 => h l b1 b2 w z' k' c1 n1 o1 (by rw [List.append_assoc, List.append_assoc, List.append_assoc] at h4; exact h4) hz')
    rw [nI_clamp (show u < 2 ^ 31 by omega)] at this
    exact this
theorem x5_writePlace {post : Int32 → Int32 → Int32 → (Nat → Int32) → Int32 → Int32 → (Nat → Int32) → (Nat → Int32) → (Nat → Int32) → Prop} (hg : gOk0 pl mv) (hp : RP pl places odd calls) (hv : RV mv moves fr to) (hz : RZ pl mv zero zk) (hu : u < pl.length) (hch : ch u = plV pl mv u) (hl : out.length + 6 ≤ 140) (hr : ROut out len arr)
    (h : ∀ l b1 b2 w z' k' c1 n1 o1, ROut (out ++ wrP pl mv u) l w → RZ pl mv z' k' → post l b1 b2 w z' k' c1 n1 o1) : wp_X5_writePlace (nI u) len bp ba places odd moves arr zero zk calling next owned calls fr to ch post := by
  obtain ⟨ho, _⟩ := gOk0_ow hg u
  unfold wp_X5_writePlace
  refine x1_ownerOf hp hu hg.1 ho ⟨fun q => ?_, fun q => ?_⟩
  · have e : lA pl u = 1 := by
      have : ¬ lA pl u = 0 := fun z => q (by rw [z]; rfl)
      omega
    exact x5_wBody (c := 111) hg hp hv hz hu hch hl hr (by rw [if_pos e]) h
  · have e : lA pl u = 0 := (nI_eq (b := 0) (by omega) (by decide)).mp q
    exact x5_wBody (c := 101) hg hp hv hz hu hch hl hr (by rw [if_neg (by omega)]) h
theorem x5_writePlaces {post : Int32 → Int32 → Int32 → Int32 → (Nat → Int32) → Int32 → Int32 → Int32 → (Nat → Int32) → (Nat → Int32) → (Nat → Int32) → (Nat → Int32) → Prop} (hg : gOk0 pl mv) (hp : RP pl places odd calls) (hv : RV mv moves fr to) (hz : RZ pl mv zero zk) (hc : RC pl mv ch ck)
    (h : ∀ l b1 b2 w z' k' c1 n1 o1 ch', ROut (wrA pl mv pl.length) l w → RZ pl mv z' k' → RC pl mv ch' 1 → post l l b1 b2 w z' k' 1 c1 n1 o1 ch') : wp_X5_writePlaces bp ba places odd moves arr zero zk ck calling next owned calls fr to ch post := by
  have hn := hg.1
  unfold wp_X5_writePlaces
  refine x3_choose hg hp hv hz hc (fun z' k' p' a' ch' c' n' o' hz' hch => ?_)
  refine fx10_go (fun v l _ _ w z k _ _ _ => ∃ j, j ≤ pl.length ∧ v = nI j ∧ ROut (wrA pl mv j) l w ∧ RZ pl mv z k) (fun v _ _ _ _ _ _ _ _ _ => 20 - v.toNatClampNeg) ?_ _ _ _ _ _ _ _ _ _ _ ⟨0, Nat.zero_le _, rfl, ⟨rfl, fun j hj => absurd hj (Nat.not_lt_zero _)⟩, hz'⟩
  rintro rec v l p1 a1 w z k c1 n1 o1 ⟨j, hj, rfl, hO, hz1⟩ hrec
  unfold F_X5_writePlaces_18
  rw [hp.1]
  refine ⟨fun q => ?_, fun q => ?_⟩
  · have e : j = pl.length := by
      have := (nI_leI (by omega) (by omega)).mp q
      omega
    rw [e] at hO
    exact h _ _ _ _ _ _ _ _ _ _ hO hz1 (fun _ => hch)
  · have e : j < pl.length := Nat.lt_of_not_le (fun y => q (nI_le y (by omega)))
    have hle := wrA_le pl mv j
    have hs : (wrA pl mv j ++ ((if j = 0 then [] else [32]) ++ wrP pl mv j)) = wrA pl mv (j + 1) := rfl
    have hmu : ∀ l' p' a' w' z' k' c' n' o', ROut (wrA pl mv (j + 1)) l' w' → RZ pl mv z' k' → rec (nI j + (1 : Int32)) l' p' a' w' z' k' c' n' o' := fun l' p' a' w' z' k' c' n' o' h1 h2 => hrec _ _ _ _ _ _ _ _ _ _ ⟨j + 1, e, nI_1 j, h1, h2⟩ (by rw [nI_1, nI_clamp (by omega), nI_clamp (by omega)]; omega)
    refine ⟨fun y => ?_, fun y => ?_⟩
    · have e0 : j = 0 := by
        have := (nI_leI (b := 0) (by omega) (by decide)).mp y
        omega
      rw [if_pos e0, List.nil_append] at hs
      rw [if_pos e0] at hle
      exact x5_writePlace hg ⟨rfl, hp.2⟩ hv hz1 e (hch j e) (by omega) hO (fun l' b1 b2 w' z' k' c' n' o' h1 h2 => hmu _ _ _ _ _ _ _ _ _ (by rw [← hs]; exact h1) h2)
    · have e0 : ¬ j = 0 := fun z => y (by rw [z]; decide)
      rw [if_neg e0] at hs hle
      refine x5_put (c := 32) (by decide) (by omega) hO (fun l3 w3 h3 => ?_)
      exact x5_writePlace hg ⟨rfl, hp.2⟩ hv hz1 e (hch j e) (by rw [List.length_append]; show _ + 1 + 6 ≤ _; omega) h3 (fun l' b1 b2 w' z' k' c' n' o' h1 h2 => hmu _ _ _ _ _ _ _ _ _ (by rw [← hs, ← List.append_assoc]; exact h1) h2)
end WR5
section WR6
variable {pl mv : List (Nat × Nat)} {u : Nat} {out : List Nat} {len z0 : Int32} {arr now ch live measure planned weight : Nat → Int32}
theorem x6_wTail {K : Int32 → (Nat → Int32) → Prop} (hg : gOk0 pl mv) (hv : RMv mv now) (hu : u < pl.length) (hch : ch u = plV pl mv u) (hl : out.length + 3 ≤ 140) (hr : ROut out len arr)
    (h : ∀ l w, ROut (out ++ wrM mv (plV pl mv u)) l w → K l w) : (vp_in (nI u) 20 ∧ (((ch (nI u).toNatClampNeg) = (-1 : Int32) → (K len arr)) ∧ (¬ ((ch (nI u).toNatClampNeg) = (-1 : Int32)) → (vp_in (nI u) 20 ∧ (vp_in (((105 : Int32) + (ch (nI u).toNatClampNeg))) 176 ∧ (wp_X6_writes (62 : Int32) len arr (fun len_22 arr_23 => (((now (((105 : Int32) + (ch (nI u).toNatClampNeg))).toNatClampNeg) ≤ (9 : Int32) → (wp_X6_writes (((48 : Int32) + ((now (((105 : Int32) + (ch (nI u).toNatClampNeg))).toNatClampNeg) - (now (((105 : Int32) + (ch (nI u).toNatClampNeg))).toNatClampNeg) / (10 : Int32) * (10 : Int32)))) len_22 arr_23 (fun len_24 arr_25 => (K len_24 arr_25)))) ∧ (¬ ((now (((105 : Int32) + (ch (nI u).toNatClampNeg))).toNatClampNeg) ≤ (9 : Int32)) → (wp_X6_writes (((48 : Int32) + ((now (((105 : Int32) + (ch (nI u).toNatClampNeg))).toNatClampNeg) / (10 : Int32)))) len_22 arr_23 (fun len_26 arr_27 => (wp_X6_writes (((48 : Int32) + ((now (((105 : Int32) + (ch (nI u).toNatClampNeg))).toNatClampNeg) - (now (((105 : Int32) + (ch (nI u).toNatClampNeg))).toNatClampNeg) / (10 : Int32) * (10 : Int32)))) len_26 arr_27 (fun len_28 arr_29 => (K len_28 arr_29)))))))))))))) := by
  have hn := hg.1
  have hm := hg.2.1
  rw [nI_clamp (show u < 2 ^ 31 by omega), hch]
  refine ⟨vp_in_nI (by omega) (by decide), fun q => ?_, fun q => ?_⟩
  · rw [q] at h
    unfold wrM at h
    rw [if_pos rfl, List.append_nil] at h
    exact h _ _ hr
  · rcases plV_cases hg u with z | ⟨k, hk, _, e⟩
    · exact absurd z q
    · rw [e] at h q ⊢
      unfold wrM at h
      rw [if_neg q] at h
      rw [nI_clamp (show k < 2 ^ 31 by omega)] at h
      have ht := (gOk0_mv hg hk).2
      rw [show (105 : Int32) + nI k = nI (105 + k) from nI_add 105 k, nI_clamp (show 105 + k < 2 ^ 31 by omega), (hv.2 k hk).2]
      generalize lB mv k = t at ht h ⊢
      have e1 : nI t - nI t / (10 : Int32) * (10 : Int32) = nI (t % 10) := pk_rem (d := 10) (by omega) (by decide) (by decide)
      have e2 : nI t / (10 : Int32) = nI (t / 10) := pk_div (d := 10) (by omega) (by decide) (by decide)
      have e3 : (48 : Int32) + nI (t % 10) = nI (48 + t % 10) := nI_add 48 _
      have e4 : (48 : Int32) + nI (t / 10) = nI (48 + t / 10) := nI_add 48 _
      rw [e1, e2, e3, e4]
      unfold wrN at h
      refine ⟨vp_in_nI (by omega) (by decide), vp_in_nI (by omega) (by decide), x6_put (c := 62) (by decide) (by omega) hr (fun l1 w1 h1 => ⟨fun z => ?_, fun z => ?_⟩)⟩
      · have z2 : t ≤ 9 := (nI_leI (a := t) (b := 9) (by omega) (by decide)).mp z
        rw [if_pos (by omega)] at h
        refine x6_put (by omega) (by rw [List.length_append]; show _ + 1 < _; omega) h1 (fun l2 w2 h2 => h l2 w2 ?_)
        rw [List.append_assoc] at h2; exact h2
      · have z2 : ¬ t ≤ 9 := fun q => z (nI_le q (by decide))
        rw [if_neg (by omega)] at h
        refine x6_put (by omega) (by rw [List.length_append]; show _ + 1 < _; omega) h1 (fun l2 w2 h2 => x6_put (by omega) (by rw [List.length_append, List.length_append]; show _ + 1 + 1 < _; omega) h2 (fun l3 w3 h3 => h l3 w3 ?_))
        rw [List.append_assoc, List.append_assoc] at h3; exact h3
theorem x6_wBody {c o : Nat} {K : Int32 → (Nat → Int32) → Prop} (hg : gOk0 pl mv) (hp : RMp pl now) (hv : RMv mv now) (hz : ∀ u, bt z0 u = true ↔ gW pl mv allL 0 u) (hu : u < pl.length) (hch : ch u = plV pl mv u) (hl : out.length + 6 ≤ 140) (hr : ROut out len arr)
    (ho : lA pl u = o) (hc : c = if o = 1 then 111 else 101)
    (h : ∀ l w, ROut (out ++ wrP pl mv u) l w → K l w) : (wp_X6_writes (nI c) len arr (fun len_17 arr_18 => (vp_in (((24 : Int32) + (nI u))) 176 ∧ (wp_X6_writes (((48 : Int32) + (now (((24 : Int32) + (nI u))).toNatClampNeg))) len_17 arr_18 (fun len_19 arr_20 => (wp_X6_has z0 (nI u) (fun r_21 => ((r_21 = nI o → (vp_in (nI u) 20 ∧ (((ch (nI u).toNatClampNeg) = (-1 : Int32) → (K len_19 arr_20)) ∧ (¬ ((ch (nI u).toNatClampNeg) = (-1 : Int32)) → (vp_in (nI u) 20 ∧ (vp_in (((105 : Int32) + (ch (nI u).toNatClampNeg))) 176 ∧ (wp_X6_writes (62 : Int32) len_19 arr_20 (fun len_22 arr_23 => (((now (((105 : Int32) + (ch (nI u).toNatClampNeg))).toNatClampNeg) ≤ (9 : Int32) → (wp_X6_writes (((48 : Int32) + ((now (((105 : Int32) + (ch (nI u).toNatClampNeg))).toNatClampNeg) - (now (((105 : Int32) + (ch (nI u).toNatClampNeg))).toNatClampNeg) / (10 : Int32) * (10 : Int32)))) len_22 arr_23 (fun len_24 arr_25 => (K len_24 arr_25)))) ∧ (¬ ((now (((105 : Int32) + (ch (nI u).toNatClampNeg))).toNatClampNeg) ≤ (9 : Int32)) → (wp_X6_writes (((48 : Int32) + ((now (((105 : Int32) + (ch (nI u).toNatClampNeg))).toNatClampNeg) / (10 : Int32)))) len_22 arr_23 (fun len_26 arr_27 => (wp_X6_writes (((48 : Int32) + ((now (((105 : Int32) + (ch (nI u).toNatClampNeg))).toNatClampNeg) - (now (((105 : Int32) + (ch (nI u).toNatClampNeg))).toNatClampNeg) / (10 : Int32) * (10 : Int32)))) len_26 arr_27 (fun len_28 arr_29 => (K len_28 arr_29))))))))))))))) ∧ (¬ (r_21 = nI o) → (wp_X6_writes (42 : Int32) len_19 arr_20 (fun len_30 arr_31 => (vp_in (nI u) 20 ∧ (((ch (nI u).toNatClampNeg) = (-1 : Int32) → (K len_30 arr_31)) ∧ (¬ ((ch (nI u).toNatClampNeg) = (-1 : Int32)) → (vp_in (nI u) 20 ∧ (vp_in (((105 : Int32) + (ch (nI u).toNatClampNeg))) 176 ∧ (wp_X6_writes (62 : Int32) len_30 arr_31 (fun len_32 arr_33 => (((now (((105 : Int32) + (ch (nI u).toNatClampNeg))).toNatClampNeg) ≤ (9 : Int32) → (wp_X6_writes (((48 : Int32) + ((now (((105 : Int32) + (ch (nI u).toNatClampNeg))).toNatClampNeg) - (now (((105 : Int32) + (ch (nI u).toNatClampNeg))).toNatClampNeg) / (10 : Int32) * (10 : Int32)))) len_32 arr_33 (fun len_34 arr_35 => (K len_34 arr_35)))) ∧ (¬ ((now (((105 : Int32) + (ch (nI u).toNatClampNeg))).toNatClampNeg) ≤ (9 : Int32)) → (wp_X6_writes (((48 : Int32) + ((now (((105 : Int32) + (ch (nI u).toNatClampNeg))).toNatClampNeg) / (10 : Int32)))) len_32 arr_33 (fun len_36 arr_37 => (wp_X6_writes (((48 : Int32) + ((now (((105 : Int32) + (ch (nI u).toNatClampNeg))).toNatClampNeg) - (now (((105 : Int32) + (ch (nI u).toNatClampNeg))).toNatClampNeg) / (10 : Int32) * (10 : Int32)))) len_36 arr_37 (fun len_38 arr_39 => (K len_38 arr_39))))))))))))))))))))))))) := by
  have hn := hg.1
  obtain ⟨ho2, hcl⟩ := gOk0_ow hg u
  have hc9 : c < 128 := by
    rw [hc]
    by_cases q : o = 1
    · rw [if_pos q]; decide
    · rw [if_neg q]; decide
  rw [show (24 : Int32) + nI u = nI (24 + u) from nI_add 24 u, nI_clamp (show 24 + u < 2 ^ 31 by omega), (hp.2 u hu).2, show (48 : Int32) + nI (lB pl u) = nI (48 + lB pl u) from nI_add 48 _]
  unfold wrP at h
  rw [ho, ← hc] at h
  have hno : (wrS pl mv u = [] → ∀ {l w}, ROut (out ++ [c] ++ [48 + lB pl u]) l w → (vp_in (nI u) 20 ∧ (((ch (nI u).toNatClampNeg) = (-1 : Int32) → (K l w)) ∧ (¬ ((ch (nI u).toNatClampNeg) = (-1 : Int32)) → (vp_in (nI u) 20 ∧ (vp_in (((105 : Int32) + (ch (nI u).toNatClampNeg))) 176 ∧ (wp_X6_writes (62 : Int32) l w (fun len_22 arr_23 => (((now (((105 : Int32) + (ch (nI u).toNatClampNeg))).toNatClampNeg) ≤ (9 : Int32) → (wp_X6_writes (((48 : Int32) + ((now (((105 : Int32) + (ch (nI u).toNatClampNeg))).toNatClampNeg) - (now (((105 : Int32) + (ch (nI u).toNatClampNeg))).toNatClampNeg) / (10 : Int32) * (10 : Int32)))) len_22 arr_23 (fun len_24 arr_25 => (K len_24 arr_25)))) ∧ (¬ ((now (((105 : Int32) + (ch (nI u).toNatClampNeg))).toNatClampNeg) ≤ (9 : Int32)) → (wp_X6_writes (((48 : Int32) + ((now (((105 : Int32) + (ch (nI u).toNatClampNeg))).toNatClampNeg) / (10 : Int32)))) len_22 arr_23 (fun len_26 arr_27 => (wp_X6_writes (((48 : Int32) + ((now (((105 : Int32) + (ch (nI u).toNatClampNeg))).toNatClampNeg) - (now (((105 : Int32) + (ch (nI u).toNatClampNeg))).toNatClampNeg) / (10 : Int32) * (10 : Int32)))) len_26 arr_27 (fun len_28 arr_29 => (K len_28 arr_29))))))))))))))) := fun e8 l2 w2 h2 => by
    rw [e8] at h
    exact x6_wTail (K := K) hg hv hu hch (by rw [List.length_append, List.length_append]; show _ + 1 + 1 + 3 ≤ _; omega) h2 (fun l w h3 => h l w (by rw [List.append_assoc, List.append_assoc] at h3; exact h3))
  have hye : (wrS pl mv u = [42] → ∀ {l w}, ROut (out ++ [c] ++ [48 + lB pl u] ++ [42]) l w → (vp_in (nI u) 20 ∧ (((ch (nI u).toNatClampNeg) = (-1 : Int32) → (K l w)) ∧ (¬ ((ch (nI u).toNatClampNeg) = (-1 : Int32)) → (vp_in (nI u) 20 ∧ (vp_in (((105 : Int32) + (ch (nI u).toNatClampNeg))) 176 ∧ (wp_X6_writes (62 : Int32) l w (fun len_22 arr_23 => (((now (((105 : Int32) + (ch (nI u).toNatClampNeg))).toNatClampNeg) ≤ (9 : Int32) → (wp_X6_writes (((48 : Int32) + ((now (((105 : Int32) + (ch (nI u).toNatClampNeg))).toNatClampNeg) - (now (((105 : Int32) + (ch (nI u).toNatClampNeg))).toNatClampNeg) / (10 : Int32) * (10 : Int32)))) len_22 arr_23 (fun len_24 arr_25 => (K len_24 arr_25)))) ∧ (¬ ((now (((105 : Int32) + (ch (nI u).toNatClampNeg))).toNatClampNeg) ≤ (9 : Int32)) → (wp_X6_writes (((48 : Int32) + ((now (((105 : Int32) + (ch (nI u).toNatClampNeg))).toNatClampNeg) / (10 : Int32)))) len_22 arr_23 (fun len_26 arr_27 => (wp_X6_writes (((48 : Int32) + ((now (((105 : Int32) + (ch (nI u).toNatClampNeg))).toNatClampNeg) - (now (((105 : Int32) + (ch (nI u).toNatClampNeg))).toNatClampNeg) / (10 : Int32) * (10 : Int32)))) len_26 arr_27 (fun len_28 arr_29 => (K len_28 arr_29))))))))))))))) := fun e8 l2 w2 h2 => by
    rw [e8] at h
    exact x6_wTail (K := K) hg hv hu hch (by rw [List.length_append, List.length_append, List.length_append]; show _ + 1 + 1 + 1 + 3 ≤ _; omega) h2 (fun l w h3 => h l w (by rw [List.append_assoc, List.append_assoc, List.append_assoc] at h3; exact h3))
  have s1 : gW pl mv allL (lA pl u) u → wrS pl mv u = [42] := fun y => by unfold wrS; rw [if_pos (pD_t.mpr y)]
  have s0 : ¬ gW pl mv allL (lA pl u) u → wrS pl mv u = [] := fun y => by unfold wrS; rw [if_neg (fun z => y (pD_t.mp z))]
  rw [ho] at s1 s0
  refine x6_put hc9 (by omega) hr (fun l1 w1 h1 => ⟨vp_in_nI (by omega) (by decide), x6_put (by omega) (by rw [List.length_append]; show _ + 1 < _; omega) h1 (fun l2 w2 h2 => ?_)⟩)
  have hd := gW_det (lv := allL) hg hu
  refine x6_has (by omega) (fun y => ?_) (fun y => ?_)
  · have y0 := (hz u).mp y
    refine ⟨fun q => hno (s0 ?_) h2, fun q => x6_put (c := 42) (by decide) (by rw [List.length_append, List.length_append]; show _ + 1 + 1 < _; omega) h2 (fun l3 w3 h3 => hye (s1 ?_) h3)⟩
    · have e : o = 1 := ((nI_eq (a := 1) (by decide) (by omega)).mp q).symm
      rw [e]
      exact fun y1 => hd.mpr y1 y0
    · have e : o = 0 := by
        have : ¬ o = 1 := fun z => q (by rw [z]; rfl)
        omega
      rw [e]; exact y0
  · have y1 := hd.mp (fun z => y ((hz u).mpr z))
    refine ⟨fun q => hno (s0 ?_) h2, fun q => x6_put (c := 42) (by decide) (by rw [List.length_append, List.length_append]; show _ + 1 + 1 < _; omega) h2 (fun l3 w3 h3 => hye (s1 ?_) h3)⟩
    · have e : o = 0 := ((nI_eq (a := 0) (by decide) (by omega)).mp q).symm
      rw [e]
      exact fun y0 => y ((hz u).mpr y0)
    · have e : o = 1 := by
        have : ¬ o = 0 := fun z => q (by rw [z]; rfl)
        omega
      rw [e]; exact y1
theorem x6_wPlace {K : Int32 → (Nat → Int32) → Prop} (hg : gOk0 pl mv) (hp : RMp pl now) (hv : RMv mv now) (hz : ∀ u, bt z0 u = true ↔ gW pl mv allL 0 u) (hu : u < pl.length) (hch : ch u = plV pl mv u) (hl : out.length + 6 ≤ 140) (hr : ROut out len arr)
    (h : ∀ l w, ROut (out ++ wrP pl mv u) l w → K l w) : (vp_in (((4 : Int32) + (nI u))) 176 ∧ ((¬ (now (((4 : Int32) + (nI u))).toNatClampNeg) = (1 : Int32) → (wp_X6_writes (101 : Int32) len arr (fun len_17 arr_18 => (vp_in (((24 : Int32) + (nI u))) 176 ∧ (wp_X6_writes (((48 : Int32) + (now (((24 : Int32) + (nI u))).toNatClampNeg))) len_17 arr_18 (fun len_19 arr_20 => (wp_X6_has z0 (nI u) (fun r_21 => ((r_21 = (0 : Int32) → (vp_in (nI u) 20 ∧ (((ch (nI u).toNatClampNeg) = (-1 : Int32) → (K len_19 arr_20)) ∧ (¬ ((ch (nI u).toNatClampNeg) = (-1 : Int32)) → (vp_in (nI u) 20 ∧ (vp_in (((105 : Int32) + (ch (nI u).toNatClampNeg))) 176 ∧ (wp_X6_writes (62 : Int32) len_19 arr_20 (fun len_22 arr_23 => (((now (((105 : Int32) + (ch (nI u).toNatClampNeg))).toNatClampNeg) ≤ (9 : Int32) → (wp_X6_writes (((48 : Int32) + ((now (((105 : Int32) + (ch (nI u).toNatClampNeg))).toNatClampNeg) - (now (((105 : Int32) + (ch (nI u).toNatClampNeg))).toNatClampNeg) / (10 : Int32) * (10 : Int32)))) len_22 arr_23 (fun len_24 arr_25 => (K len_24 arr_25)))) ∧ (¬ ((now (((105 : Int32) + (ch (nI u).toNatClampNeg))).toNatClampNeg) ≤ (9 : Int32)) → (wp_X6_writes (((48 : Int32) + ((now (((105 : Int32) + (ch (nI u).toNatClampNeg))).toNatClampNeg) / (10 : Int32)))) len_22 arr_23 (fun len_26 arr_27 => (wp_X6_writes (((48 : Int32) + ((now (((105 : Int32) + (ch (nI u).toNatClampNeg))).toNatClampNeg) - (now (((105 : Int32) + (ch (nI u).toNatClampNeg))).toNatClampNeg) / (10 : Int32) * (10 : Int32)))) len_26 arr_27 (fun len_28 arr_29 => (K len_28 arr_29))))))))))))))) ∧ (¬ (r_21 = (0 : Int32)) → (wp_X6_writes (42 : Int32) len_19 arr_20 (fun len_30 arr_31 => (vp_in (nI u) 20 ∧ (((ch (nI u).toNatClampNeg) = (-1 : Int32) → (K len_30 arr_31)) ∧ (¬ ((ch (nI u).toNatClampNeg) = (-1 : Int32)) → (vp_in (nI u) 20 ∧ (vp_in (((105 : Int32) + (ch (nI u).toNatClampNeg))) 176 ∧ (wp_X6_writes (62 : Int32) len_30 arr_31 (fun len_32 arr_33 => (((now (((105 : Int32) + (ch (nI u).toNatClampNeg))).toNatClampNeg) ≤ (9 : Int32) → (wp_X6_writes (((48 : Int32) + ((now (((105 : Int32) + (ch (nI u).toNatClampNeg))).toNatClampNeg) - (now (((105 : Int32) + (ch (nI u).toNatClampNeg))).toNatClampNeg) / (10 : Int32) * (10 : Int32)))) len_32 arr_33 (fun len_34 arr_35 => (K len_34 arr_35)))) ∧ (¬ ((now (((105 : Int32) + (ch (nI u).toNatClampNeg))).toNatClampNeg) ≤ (9 : Int32)) → (wp_X6_writes (((48 : Int32) + ((now (((105 : Int32) + (ch (nI u).toNatClampNeg))).toNatClampNeg) / (10 : Int32)))) len_32 arr_33 (fun len_36 arr_37 => (wp_X6_writes (((48 : Int32) + ((now (((105 : Int32) + (ch (nI u).toNatClampNeg))).toNatClampNeg) - (now (((105 : Int32) + (ch (nI u).toNatClampNeg))).toNatClampNeg) / (10 : Int32) * (10 : Int32)))) len_36 arr_37 (fun len_38 arr_39 => (K len_38 arr_39)))))))))))))))))))))))))) ∧ ((now (((4 : Int32) + (nI u))).toNatClampNeg) = (1 : Int32) → (wp_X6_writes (111 : Int32) len arr (fun len_40 arr_41 => (vp_in (((24 : Int32) + (nI u))) 176 ∧ (wp_X6_writes (((48 : Int32) + (now (((24 : Int32) + (nI u))).toNatClampNeg))) len_40 arr_41 (fun len_42 arr_43 => (wp_X6_has z0 (nI u) (fun r_44 => ((r_44 = (1 : Int32) → (vp_in (nI u) 20 ∧ (((ch (nI u).toNatClampNeg) = (-1 : Int32) → (K len_42 arr_43)) ∧ (¬ ((ch (nI u).toNatClampNeg) = (-1 : Int32)) → (vp_in (nI u) 20 ∧ (vp_in (((105 : Int32) + (ch (nI u).toNatClampNeg))) 176 ∧ (wp_X6_writes (62 : Int32) len_42 arr_43 (fun len_45 arr_46 => (((now (((105 : Int32) + (ch (nI u).toNatClampNeg))).toNatClampNeg) ≤ (9 : Int32) → (wp_X6_writes (((48 : Int32) + ((now (((105 : Int32) + (ch (nI u).toNatClampNeg))).toNatClampNeg) - (now (((105 : Int32) + (ch (nI u).toNatClampNeg))).toNatClampNeg) / (10 : Int32) * (10 : Int32)))) len_45 arr_46 (fun len_47 arr_48 => (K len_47 arr_48)))) ∧ (¬ ((now (((105 : Int32) + (ch (nI u).toNatClampNeg))).toNatClampNeg) ≤ (9 : Int32)) → (wp_X6_writes (((48 : Int32) + ((now (((105 : Int32) + (ch (nI u).toNatClampNeg))).toNatClampNeg) / (10 : Int32)))) len_45 arr_46 (fun len_49 arr_50 => (wp_X6_writes (((48 : Int32) + ((now (((105 : Int32) + (ch (nI u).toNatClampNeg))).toNatClampNeg) - (now (((105 : Int32) + (ch (nI u).toNatClampNeg))).toNatClampNeg) / (10 : Int32) * (10 : Int32)))) len_49 arr_50 (fun len_51 arr_52 => (K len_51 arr_52))))))))))))))) ∧ (¬ (r_44 = (1 : Int32)) → (wp_X6_writes (42 : Int32) len_42 arr_43 (fun len_53 arr_54 => (vp_in (nI u) 20 ∧ (((ch (nI u).toNatClampNeg) = (-1 : Int32) → (K len_53 arr_54)) ∧ (¬ ((ch (nI u).toNatClampNeg) = (-1 : Int32)) → (vp_in (nI u) 20 ∧ (vp_in (((105 : Int32) + (ch (nI u).toNatClampNeg))) 176 ∧ (wp_X6_writes (62 : Int32) len_53 arr_54 (fun len_55 arr_56 => (((now (((105 : Int32) + (ch (nI u).toNatClampNeg))).toNatClampNeg) ≤ (9 : Int32) → (wp_X6_writes (((48 : Int32) + ((now (((105 : Int32) + (ch (nI u).toNatClampNeg))).toNatClampNeg) - (now (((105 : Int32) + (ch (nI u).toNatClampNeg))).toNatClampNeg) / (10 : Int32) * (10 : Int32)))) len_55 arr_56 (fun len_57 arr_58 => (K len_57 arr_58)))) ∧ (¬ ((now (((105 : Int32) + (ch (nI u).toNatClampNeg))).toNatClampNeg) ≤ (9 : Int32)) → (wp_X6_writes (((48 : Int32) + ((now (((105 : Int32) + (ch (nI u).toNatClampNeg))).toNatClampNeg) / (10 : Int32)))) len_55 arr_56 (fun len_59 arr_60 => (wp_X6_writes (((48 : Int32) + ((now (((105 : Int32) + (ch (nI u).toNatClampNeg))).toNatClampNeg) - (now (((105 : Int32) + (ch (nI u).toNatClampNeg))).toNatClampNeg) / (10 : Int32) * (10 : Int32)))) len_59 arr_60 (fun len_61 arr_62 => (K len_61 arr_62)))))))))))))))))))))))))))) := by
  have hn := hg.1
  obtain ⟨ho, _⟩ := gOk0_ow hg u
  refine ⟨?_, fun q => ?_, fun q => ?_⟩
  · rw [show (4 : Int32) + nI u = nI (4 + u) from nI_add 4 u]; exact vp_in_nI (by omega) (by decide)
  · rw [show (4 : Int32) + nI u = nI (4 + u) from nI_add 4 u, nI_clamp (show 4 + u < 2 ^ 31 by omega), (hp.2 u hu).1] at q
    have e : lA pl u = 0 := by
      have : ¬ lA pl u = 1 := fun z => q (by rw [z]; rfl)
      omega
    exact x6_wBody (c := 101) (o := 0) hg hp hv hz hu hch hl hr e rfl h
  · rw [show (4 : Int32) + nI u = nI (4 + u) from nI_add 4 u, nI_clamp (show 4 + u < 2 ^ 31 by omega), (hp.2 u hu).1] at q
    have e : lA pl u = 1 := (nI_eq (b := 1) (by omega) (by decide)).mp q
    exact x6_wBody (c := 111) (o := 1) hg hp hv hz hu hch hl hr e rfl h
theorem x6_writePlaces {post : Int32 → Int32 → Int32 → Int32 → (Nat → Int32) → (Nat → Int32) → (Nat → Int32) → (Nat → Int32) → (Nat → Int32) → Prop} (hg : gOk0 pl mv) (hp : RMp pl now) (hv : RMv mv now)
    (h : ∀ l t li me w pd we, ROut (wrA pl mv pl.length) l w → post l 0 l t li me w pd we) : wp_X6_writePlaces live measure now arr planned weight post := by
  have hn := hg.1
  unfold wp_X6_writePlaces wp_X6_told
  refine x6_plans hg hp hv (fun t li me pd we hpd => x6_wonByEven hg hp hv (fun r t2 li2 me2 we2 hr => ?_))
  refine up3i pl.length (by omega) (fun j l w => ROut (wrA pl mv j) l w) 0 _ _ (Nat.zero_le _) ⟨rfl, fun j hj => absurd hj (Nat.not_lt_zero _)⟩ (fun rec l w hO => ?_) (fun rec j l w hj hO go => ?_)
  · unfold F_X6_writePlaces_16
    rw [hp.1]
    exact lpE (e := pl.length) (h _ _ _ _ _ _ _ hO)
  · unfold F_X6_writePlaces_16
    rw [hp.1]
    have hle := wrA_le pl mv j
    have hs : (wrA pl mv j ++ ((if j = 0 then [] else [32]) ++ wrP pl mv j)) = wrA pl mv (j + 1) := rfl
    have hmu : ∀ l' w', ROut (wrA pl mv (j + 1)) l' w' → rec (nI j + (1 : Int32)) l' w' := fun l' w' h => go l' w' h
    refine lpS hj (by omega) ⟨fun y => ?_, fun y => ?_⟩
    · have e0 : j = 0 := by
        have := (nI_leI (b := 0) (by omega) (by decide)).mp y
        omega
      rw [if_pos e0, List.nil_append] at hs
      rw [if_pos e0] at hle
      exact x6_wPlace (K := fun l w => rec (nI j + (1 : Int32)) l w) hg hp hv hr hj (hpd j hj) (by omega) hO (fun l' w' h1 => hmu _ _ (by rw [← hs]; exact h1))
    · have e0 : ¬ j = 0 := fun z => y (by rw [z]; decide)
      rw [if_neg e0] at hs hle
      refine x6_put (c := 32) (by decide) (by omega) hO (fun l3 w3 h3 => ?_)
      exact x6_wPlace (K := fun l w => rec (nI j + (1 : Int32)) l w) hg hp hv hr hj (hpd j hj) (by rw [List.length_append]; show _ + 1 + 6 ≤ _; omega) h3 (fun l' w' h1 => hmu _ _ (by rw [← hs, ← List.append_assoc]; exact h1))
end WR6
section OUTB
variable {out : List Nat} {a len : Int32} {arr : Nat → Int32}
theorem x5_outputByte {post : Int32 → Prop} {postX : String → Prop} (hr : ROut out len arr) (hl : out.length ≤ 139) (h1 : ¬ isN out.length a → postX "java/lang/IndexOutOfBoundsException") (h : isN out.length a → post (nI (out.getD (ix a) 0))) : wp_X5_outputByte a len arr post postX := by
  obtain ⟨rfl, hr⟩ := hr
  unfold wp_X5_outputByte
  by_cases ha : isN out.length a
  · have h := h ha
    obtain ⟨k, hk, rfl⟩ := ha
    rw [ix_nI (by omega)] at h
    refine ⟨fun z => absurd z (nI_pos (by omega)), fun _ => ⟨fun _ => ⟨vp_in_nI (by omega) (by decide), ?_⟩, fun z => absurd (nI_lt hk (by omega)) z⟩⟩
    rw [nI_clamp (by omega), hr k hk]
    exact h
  · refine ⟨fun _ => h1 ha, fun z => ⟨fun z2 => absurd ?_ ha, fun _ => h1 ha⟩⟩
    obtain ⟨j, hj, rfl⟩ := nI_of z
    exact ⟨j, (nI_ltI hj (by omega)).mp z2, rfl⟩
theorem x6_outputByte {post : Int32 → Int32 → Prop} (hr : ROut out len arr) (hl : out.length ≤ 139) (h1 : ¬ isN out.length a → post 0 1) (h : isN out.length a → post (nI (out.getD (ix a) 0)) 0) : wp_X6_outputByte a len arr post := by
  obtain ⟨rfl, hr⟩ := hr
  unfold wp_X6_outputByte wp_X6_refuse wp_X6_told
  refine n6_in (n := out.length) (by omega) (fun q => n6_no (h1 q)) (fun ha => n6_ye ?_)
  have h := h ha
  obtain ⟨k, hk, rfl⟩ := ha
  rw [ix_nI (by omega)] at h
  rw [nI_clamp (by omega), hr k hk]
  exact ⟨vp_in_nI (by omega) (by decide), h⟩
theorem wrA_full {pl mv : List (Nat × Nat)} (hn : pl.length ≤ 20) : (wrA pl mv pl.length).length ≤ 139 := by
  have h := wrA_le pl mv pl.length
  by_cases q : pl.length = 0
  · rw [if_pos q] at h; omega
  · rw [if_neg q] at h; omega
end OUTB
