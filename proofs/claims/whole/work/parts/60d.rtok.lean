/-! the texts: words; the reference's tokens -/
def wordAt (T : Nat → Nat) (w s e : Nat) : Prop := e - s = gLen.getD w 0 ∧ ∀ j, j < gLen.getD w 0 → nI (T (s + j)) = (gByt.getD w []).getD j 0
theorem gW_ok : ∀ w, w < 5 → gLen.getD w 0 ≤ 5 ∧ 0 < gLen.getD w 0 ∧ ∀ j, j < 5 → ((gByt.getD w []).getD j 0 = 0 ↔ gLen.getD w 0 ≤ j) := by decide +kernel
section WRD
variable {T : Nat → Nat} {n k e s w : Nat} {text : Nat → Int32} {v : Int32}
theorem x5_isWord {post : Int32 → Prop} (hn : n ≤ 600) (hs : s ≤ e) (he : e ≤ n) (hk : k < 5) (hw : w < 5) (hT : ∀ j, j < n → text j = nI (T j) ∧ T j < 256)
    (h1 : k = 1 → wordAt T w s e → post 1) (h0 : ¬ (k = 1 ∧ wordAt T w s e) → post 0) : wp_X4_isWord w (nI k) (nI s) (nI e) text post := by
  have k1 : nI k = (1 : Int32) ↔ k = 1 := nI_eq (b := 1) (by omega) (by decide)
  obtain ⟨hl, _, _⟩ := gW_ok w hw
  unfold wp_X4_isWord
  refine ⟨fun q => h0 (fun z => q (k1.mpr z.1)), fun q => ⟨fun q2 => ?_, fun q2 => h0 (fun z => q2 ?_)⟩⟩
  · have q3 : e - s = gLen.getD w 0 := by
      rw [i_subn hs] at q2
      exact (nI_eq (by omega) (by omega)).mp q2
    refine up1 (gLen.getD w 0) (by omega) (fun j => ∀ i, i < j → nI (T (s + i)) = (gByt.getD w []).getD i 0) 0 (Nat.zero_le _) (fun i hi => absurd hi (Nat.not_lt_zero _)) (fun rec hI => ?_) (fun rec j hj hI hrec => ?_)
    · unfold F_X4_isWord_28
      exact ⟨fun _ => h1 (k1.mp q) ⟨q3, hI⟩, fun z => absurd (Int32.le_refl _) z⟩
    · unfold F_X4_isWord_28
      refine ⟨fun z => absurd z (nI_ge hj (by omega)), fun _ => ?_⟩
      rw [nI_add]
      refine ⟨txt_in (by omega) hn, vp_in_nI hj (by omega), ?_⟩
      rw [nI_clamp (show s + j < 2 ^ 31 by omega), (hT (s + j) (by omega)).1]
      unfold bW
      rw [nI_clamp (show j < 2 ^ 31 by omega)]
      refine ⟨fun z => hrec (fun i hi => ?_), fun z => h0 (fun y => z (y.2.2 j hj))⟩
      rcases Nat.eq_or_lt_of_le (Nat.le_of_lt_succ hi) with c | c
      · rw [c]; exact z
      · exact hI i c
  · rw [i_subn hs, z.2.1]
def RKy (keys : Nat → Int32) : Prop := ∀ w, w < 5 → ∀ j, j < 5 → keys (5 * w + j) = (gByt.getD w []).getD j 0
def sgB (x : Nat) : Int32 := if x < 128 then nI x else nI x - 256
theorem sgB_in {x : Nat} (hx : x < 256) : (sgB x).toInt = if x < 128 then (x : Int) else (x : Int) - 256 := by
  unfold sgB
  by_cases q : x < 128
  · rw [if_pos q, if_pos q, nI_toInt (by omega)]
  · rw [if_neg q, if_neg q, Int32.toInt_sub, nI_toInt (by omega)]
    show ((x : Int) - 256).bmod (2 ^ 32) = (x : Int) - 256
    rw [Int.bmod_eq_of_le (by omega) (by omega)]
theorem sgB_eq {x c : Nat} (hx : x < 256) (hc : c < 128) : sgB x = nI c ↔ x = c := by
  rw [← Int32.toInt_inj, sgB_in hx, nI_toInt (by omega)]
  by_cases q : x < 128
  · rw [if_pos q]; omega
  · rw [if_neg q]; omega
theorem sgB_lt {x c : Nat} (hx : x < 256) (hc : c < 128) : sgB x < nI c ↔ (x < c ∨ 128 ≤ x) := by
  rw [Int32.lt_iff_toInt_lt, sgB_in hx, nI_toInt (by omega)]
  by_cases q : x < 128
  · rw [if_pos q]; omega
  · rw [if_neg q]; omega
theorem lt_sgB {x c : Nat} (hx : x < 256) (hc : c < 128) : nI c < sgB x ↔ (c < x ∧ x < 128) := by
  rw [Int32.lt_iff_toInt_lt, sgB_in hx, nI_toInt (by omega)]
  by_cases q : x < 128
  · rw [if_pos q]; omega
  · rw [if_neg q]; omega
theorem x6_isLetter {post : Int32 → Prop} {x : Nat} (hx : x < 256) (h1 : isLe x = true → post 1) (h0 : ¬ isLe x = true → post 0) : wp_X6_isLetter (sgB x) post := by
  have e1 := sgB_lt (c := 97) hx (by decide)
  have e2 := lt_sgB (c := 122) hx (by decide)
  unfold wp_X6_isLetter
  refine ⟨fun q => h0 (fun z => ?_), fun q => ⟨fun q2 => h0 (fun z => ?_), fun q2 => h1 (decide_eq_true ?_)⟩⟩
  · have := e1.mp q; have := of_decide_eq_true z; omega
  · have := e2.mp q2; have := of_decide_eq_true z; omega
  · have := mt e1.mpr q; have := mt e2.mpr q2; omega
theorem x6_isDigit {post : Int32 → Prop} {x : Nat} (hx : x < 256) (h1 : isDi x = true → post 1) (h0 : ¬ isDi x = true → post 0) : wp_X6_isDigit (sgB x) post := by
  have e1 := sgB_lt (c := 48) hx (by decide)
  have e2 := lt_sgB (c := 57) hx (by decide)
  unfold wp_X6_isDigit
  refine ⟨fun q => h0 (fun z => ?_), fun q => ⟨fun q2 => h0 (fun z => ?_), fun q2 => h1 (decide_eq_true ?_)⟩⟩
  · have := e1.mp q; have := of_decide_eq_true z; omega
  · have := e2.mp q2; have := of_decide_eq_true z; omega
  · have := mt e1.mpr q; have := mt e2.mpr q2; omega
variable {inp keys : Nat → Int32}
theorem x6_isKey {post : Int32 → Prop} (hn : n ≤ 600) (hs : s ≤ e) (he : e ≤ n) (hk : k < 5) (hw : w < 5) (hK : RKy keys) (hT : ∀ j, j < n → inp j = sgB (T j) ∧ T j < 256) (hl : k = 1 → ∀ j, s ≤ j → j < e → isLe (T j) = true)
    (h1 : k = 1 → wordAt T w s e → post 1) (h0 : ¬ (k = 1 ∧ wordAt T w s e) → post 0) : wp_X6_isKey (nI w) (nI k) (nI s) (nI e) inp keys post := by
  have k1 : nI k = (1 : Int32) ↔ k = 1 := nI_eq (b := 1) (by omega) (by decide)
  obtain ⟨hg, hg0, hgj⟩ := gW_ok w hw
  unfold wp_X6_isKey
  rw [i_subn hs]
  refine ⟨fun q => h0 (fun z => q (k1.mpr z.1)), fun q => ⟨fun q2 => ?_, fun q2 => h0 (fun z => q2 ?_)⟩⟩
  · have q3 : e - s ≤ 5 := (nI_leI (b := 5) (by omega) (by decide)).mp q2
    have hlt := hl (k1.mp q)
    have hsgB : ∀ j, j < e - s → sgB (T (s + j)) = nI (T (s + j)) := fun j hj => by
      have := of_decide_eq_true (hlt (s + j) (by omega) (by omega))
      unfold sgB
      rw [if_pos (by omega)]
    refine up1 5 (by decide) (fun j => ∀ i, i < j → (if i < e - s then nI (T (s + i)) else 0) = (gByt.getD w []).getD i 0) 0 (Nat.zero_le _) (fun i hi => absurd hi (Nat.not_lt_zero _)) (fun rec hI => ?_) (fun rec j hj hI hrec => ?_)
    · unfold F_X6_isKey_25
      refine ⟨fun _ => h1 (k1.mp q) ?_, fun z => absurd (Int32.le_refl _) z⟩
      have a1 : ∀ i, i < 5 → (i < e - s ↔ i < gLen.getD w 0) := by
        intro i hi
        have c := hI i hi
        have d := hgj i hi
        constructor
        · intro y
          rw [if_pos y] at c
          have lt := of_decide_eq_true (hlt (s + i) (by omega) (by omega))
          rcases Nat.lt_or_ge i (gLen.getD w 0) with z | z
          · exact z
          · rw [d.mpr z] at c
            exact absurd c (nI_ne0 (by omega) (by omega))
        · intro y
          rcases Nat.lt_or_ge i (e - s) with z | z
          · exact z
          · rw [if_neg (by omega)] at c
            have := d.mp c.symm
            omega
      have a2 : e - s = gLen.getD w 0 := by
        rcases Nat.lt_trichotomy (e - s) (gLen.getD w 0) with z | z | z
        · have := (a1 (e - s) (by omega)).mpr z; omega
        · exact z
        · have := (a1 (gLen.getD w 0) (by omega)).mp z; omega
      refine ⟨a2, fun i hi => ?_⟩
      have c := hI i (by omega)
      rw [if_pos (by omega)] at c
      exact c
    · unfold F_X6_isKey_25
      have e5 : (5 : Int32) * nI w + nI j = nI (5 * w + j) := by
        show nI 5 * nI w + nI j = _
        rw [i_mul, nI_add]
      have hin : vp_in ((5 : Int32) * nI w + nI j) 25 := by rw [e5]; exact vp_in_nI (by omega) (by decide)
      have hky : keys ((5 : Int32) * nI w + nI j).toNatClampNeg = (gByt.getD w []).getD j 0 := by
        rw [e5, nI_clamp (by omega)]
        exact hK w hw j hj
      rw [i_subn hs]
      refine ⟨fun z => absurd z (nI_ge (a := j) (b := 5) hj (by decide)), fun _ => ⟨fun z => ⟨hin, ?_⟩, fun z => ?_⟩⟩
      · have z2 := (nI_leI (by omega) (by omega)).mp z
        rw [hky]
        refine ⟨fun y => hrec (fun i hi => ?_), fun y => h0 (fun x => y ?_)⟩
        · rcases Nat.eq_or_lt_of_le (Nat.le_of_lt_succ hi) with c | c
          · rw [c, if_neg (by omega)]; exact y
          · exact hI i c
        · exact ((hgj j hj).mpr (by rw [← x.2.1]; exact z2)).symm
      · have z2 : j < e - s := by have := mt (nI_leI (a := e - s) (b := j) (by omega) (by omega)).mpr z; omega
        rw [nI_add]
        refine ⟨txt_in (by omega) hn, hin, ?_⟩
        rw [hky, nI_clamp (show s + j < 2 ^ 31 by omega), (hT (s + j) (by omega)).1, hsgB j z2]
        refine ⟨fun y => hrec (fun i hi => ?_), fun y => h0 (fun x => y (x.2.2 j (by rw [← x.2.1]; exact z2)))⟩
        rcases Nat.eq_or_lt_of_le (Nat.le_of_lt_succ hi) with c | c
        · rw [c, if_pos z2]; exact y
        · exact hI i c
  · rw [z.2.1]; exact (nI_leI (b := 5) (by omega) (by decide)).mpr hg
theorem x6_nextIn {post : Int32 → Int32 → Int32 → Int32 → Prop} (KL : Int32) (CD : Int32 → Int32 → Prop) (hn : n ≤ 600) (hs : s ≤ n) (hT : ∀ j, j < n → inp j = sgB (T j) ∧ T j < 256)
    (hL : s < rn (fun j => isLe (T j)) n s → post KL (nI s) (nI (rn (fun j => isLe (T j)) n s)) v)
    (hD : s < n → ¬ s < rn (fun j => isLe (T j)) n s → s < rn (fun j => isDi (T j)) n s → CD (nI (rn (fun j => isDi (T j)) n s)) (nI (vaF T s (min (rn (fun j => isDi (T j)) n s - s) 3))))
    (h3 : s < n → T s = 59 → post 3 (nI s) (nI (s + 1)) v) (h4 : s < n → ¬ T s = 59 → ¬ s < rn (fun j => isLe (T j)) n s → ¬ s < rn (fun j => isDi (T j)) n s → post 4 (nI s) (nI (s + 1)) v) (h0 : n ≤ s → post 0 (nI s) (nI s) v) :
    (¬ nI s = nI n → (vp_in (nI s) 600 ∧ (wp_X6_isLetter (inp (nI s).toNatClampNeg) (fun r_8 => ((r_8 = (0 : Int32) → (vp_in (nI s) 600 ∧ (wp_X6_isDigit (inp (nI s).toNatClampNeg) (fun r_9 => ((r_9 = (0 : Int32) → (vp_in (nI s) 600 ∧ ((¬ (inp (nI s).toNatClampNeg) = (59 : Int32) → (post (4 : Int32) (nI s) ((nI s + (1 : Int32))) v)) ∧ ((inp (nI s).toNatClampNeg) = (59 : Int32) → (post (3 : Int32) (nI s) ((nI s + (1 : Int32))) v))))) ∧ (¬ (r_9 = (0 : Int32)) → (∃ n9, fx2 (F_X6_next_220 (nI s) (nI n) inp CD) n9 (nI s) (0 : Int32)))))))) ∧ (¬ (r_8 = (0 : Int32)) → (∃ n9, fx1 (F_X6_next_145 (nI n) inp (fun t => (post KL (nI s) t v))) n9 (nI s)))))))) ∧ (nI s = nI n → (post (0 : Int32) (nI s) (nI s) v)) := by
  have hqL := rn_le (p := fun j => isLe (T j)) hs
  have hqD := rn_le (p := fun j => isDi (T j)) hs
  have gL := rn_ge (p := fun j => isLe (T j)) (n := n) (a := s)
  have gD := rn_ge (p := fun j => isDi (T j)) (n := n) (a := s)
  refine ⟨fun q => ?_, fun q => h0 (by have := (nI_eq (by omega) (by omega)).mp q; omega)⟩
  have hlt : s < n := by
    rcases Nat.eq_or_lt_of_le hs with z | z
    · exact absurd (by rw [z]) q
    · exact z
  have hin := txt_in hlt hn
  have c := (hT s hlt).2
  rw [nI_clamp (show s < 2 ^ 31 by omega), (hT s hlt).1]
  have e59 := sgB_eq (c := 59) c (by decide)
  refine ⟨hin, x6_isLetter c (fun z => ⟨fun y => absurd y (by decide), fun _ => ?_⟩) (fun z => ⟨fun _ => ⟨hin, x6_isDigit c (fun y => ⟨fun x => absurd x (by decide), fun _ => ?_⟩) (fun y => ⟨fun _ => ⟨hin, ?_, ?_⟩, fun x => absurd rfl x⟩)⟩, fun y => absurd rfl y⟩)⟩
  · have hl2 : s < rn (fun j => isLe (T j)) n s := by rw [rn_yes hlt z]; have := rn_ge (p := fun j => isLe (T j)) (n := n) (a := s + 1); omega
    refine rn_lp (p := fun j => isLe (T j)) hn hs (fun rec => ?_) (fun rec j hj a1 a2 => ?_)
    · by_cases x : rn (fun j => isLe (T j)) n s < n
      · exact Or.inr x
      · unfold F_X6_next_145
        have e9 : rn (fun j => isLe (T j)) n s = n := by omega
        have hL2 := hL hl2
        rw [e9] at hL2
        exact Or.inl ⟨fun _ => hL2, fun x9 => absurd (Int32.le_refl _) x9⟩
    · unfold F_X6_next_145
      rw [nI_clamp (show j < 2 ^ 31 by omega), (hT j hj).1]
      refine ⟨fun x => absurd x (nI_ge hj (by omega)), fun _ => ⟨txt_in hj hn, x6_isLetter (hT j hj).2 (fun x => ⟨fun y => absurd y (by decide), fun _ => a1 x⟩) (fun x => ⟨fun _ => ?_, fun y => absurd rfl y⟩)⟩⟩
      rw [a2 x]
      exact hL hl2
  · have nl : ¬ s < rn (fun j => isLe (T j)) n s := by rw [rn_no (p := fun j => isLe (T j)) z]; omega
    have hd2 : s < rn (fun j => isDi (T j)) n s := by rw [rn_yes hlt y]; have := rn_ge (p := fun j => isDi (T j)) (n := n) (a := s + 1); omega
    refine fx2_go (fun a b => ∃ j, s ≤ j ∧ j ≤ rn (fun j => isDi (T j)) n s ∧ a = nI j ∧ b = nI (vaF T s (min (j - s) 3))) (fun a _ => n - a.toNatClampNeg) ?_ _ _ ⟨s, Nat.le_refl _, gD, rfl, by rw [Nat.sub_self]; rfl⟩
    rintro rec a b ⟨j, a1, a2, rfl, rfl⟩ hrec
    unfold F_X6_next_220
    rcases Nat.eq_or_lt_of_le a2 with x | x
    · subst x
      refine ⟨fun _ => hD hlt nl hd2, fun x2 => ?_⟩
      have x3 : rn (fun j => isDi (T j)) n s < n := by
        rcases Nat.eq_or_lt_of_le hqD with w9 | w9
        · rw [w9] at x2; exact absurd (Int32.le_refl _) x2
        · exact w9
      refine ⟨txt_in x3 hn, ?_⟩
      rw [nI_clamp (show rn (fun j => isDi (T j)) n s < 2 ^ 31 by omega), (hT _ x3).1]
      exact x6_isDigit (hT _ x3).2 (fun w9 => absurd w9 ((rn_all _ s rfl).2.2.2 x3)) (fun _ => ⟨fun _ => hD hlt nl hd2, fun w9 => absurd rfl w9⟩)
    · have hj : j < n := by omega
      have pj := rn_in (p := fun j => isDi (T j)) a1 x
      refine ⟨fun x2 => absurd x2 (nI_ge hj (by omega)), fun _ => ⟨txt_in hj hn, ?_⟩⟩
      rw [i_subn a1, nI_clamp (show j < 2 ^ 31 by omega), (hT j hj).1]
      refine x6_isDigit (hT j hj).2 (fun _ => ⟨fun w9 => absurd w9 (by decide), fun _ => ⟨fun w9 => ?_, fun w9 => ⟨txt_in hj hn, ?_⟩⟩⟩) (fun w9 => absurd pj w9)
      · have w8 := (nI_leI (a := 3) (b := j - s) (by decide) (by omega)).mp w9
        exact hrec _ _ ⟨j + 1, by omega, by omega, nI_1 j, by rw [Nat.min_eq_right (by omega), Nat.min_eq_right (by omega)]⟩ (by rw [nI_1, nI_clamp (by omega), nI_clamp (by omega)]; omega)
      · have w8 : j - s < 3 := by have := mt (nI_leI (a := 3) (b := j - s) (by decide) (by omega)).mpr w9; omega
        refine hrec _ _ ⟨j + 1, by omega, by omega, nI_1 j, ?_⟩ (by rw [nI_1, nI_clamp (by omega), nI_clamp (by omega)]; omega)
        have d9 := of_decide_eq_true pj
        have e8 : sgB (T j) = nI (T j) := by unfold sgB; rw [if_pos (by omega)]
        rw [e8, Nat.min_eq_left (by omega), Nat.min_eq_left (by omega), show j + 1 - s = (j - s) + 1 by omega]
        show nI 10 * nI (vaF T s (j - s)) + nI (T j) - nI 48 = _
        rw [i_mul, nI_add, i_subn (by omega)]
        simp only [vaF]
        rw [show s + (j - s) = j by omega]
        congr 1
        omega
  · intro w9
    have q9 : ¬ T s = 59 := fun w8 => w9 (e59.mpr w8)
    rw [nI_1]
    exact h4 hlt q9 (by rw [rn_no (p := fun j => isLe (T j)) z]; omega) (by rw [rn_no (p := fun j => isDi (T j)) y]; omega)
  · intro w9
    rw [nI_1]
    exact h3 hlt (e59.mp w9)
theorem x6_nextB {K0 : Int32 → Prop} (hn : n ≤ 600) (he : e ≤ n) (hT : ∀ j, j < n → inp j = sgB (T j) ∧ T j < 256) (h : K0 (nI (tokS T n e))) : ∃ m, fx1 (F_X6_next_30 (nI n) inp K0) m (nI e) := by
  refine rn_lp (p := fun j => isBl (T j)) hn he (fun rec => ?_) (fun rec j hj h1 h2 => ?_)
  · by_cases q : tokS T n e < n
    · exact Or.inr q
    · unfold F_X6_next_30
      refine Or.inl ⟨fun _ => ?_, fun q9 => absurd (Int32.le_refl _) q9⟩
      have e9 : tokS T n e = n := by have := tokS_le (T := T) he; omega
      rw [e9] at h
      exact h
  · unfold F_X6_next_30
    rw [nI_clamp (show j < 2 ^ 31 by omega), (hT j hj).1]
    have c := (hT j hj).2
    have e1 := sgB_eq (c := 32) c (by decide)
    have e2 := sgB_eq (c := 10) c (by decide)
    refine ⟨fun q => absurd q (nI_ge hj (by omega)), fun _ => ⟨txt_in hj hn, fun q => h1 (decide_eq_true (Or.inl (e1.mp q))), fun q => ⟨txt_in hj hn, fun q2 => ?_, fun q2 => h1 (decide_eq_true (Or.inr (e2.mp q2)))⟩⟩⟩
    rw [h2 (fun q3 => (of_decide_eq_true q3).elim (fun z => q (e1.mpr z)) (fun z => q2 (e2.mpr z)))]
    exact h
theorem tokR_of {kk bb b : Nat} {v' : Int32} (hst : tokS T n e = s) (hB : tokB T n s = (kk, bb)) (ng : ¬ ((k = 1 ∨ k = 2) ∧ s = e) ∨ ¬ (kk = 1 ∨ kk = 2)) (hb : b ≤ n) (hbb : kk ≠ 4 → b = bb) (hv : kk = 2 → v' = nI (vaF T s (bb - s))) : tokR T n k e (nI kk) (nI s) (nI b) v' := by
  have eK : tokK T n k e = kk := by
    unfold tokK tokG
    rw [hst, hB]
    rw [if_neg (fun z => ng.elim (fun y => y ⟨z.1, z.2.1⟩) (fun y => y z.2.2))]
  refine ⟨by rw [eK], by rw [hst], ⟨b, hb, rfl, fun z => ?_⟩, fun z => ?_⟩
  · unfold tokE
    rw [hst, hB]
    exact hbb (by rw [← eK]; exact z)
  · unfold tokV tokE
    rw [hst, hB]
    exact hv (by rw [← eK]; exact z)
theorem tokR_gl {b : Nat} {v' : Int32} (hst : tokS T n e = s) (hB : (tokB T n s).1 = 1 ∨ (tokB T n s).1 = 2) (g : (k = 1 ∨ k = 2) ∧ s = e) (hb : b ≤ n) : tokR T n k e 4 (nI s) (nI b) v' := by
  have eK : tokK T n k e = 4 := by
    unfold tokK tokG
    rw [hst]
    rw [if_pos ⟨g.1, g.2, hB⟩]
  refine ⟨by rw [eK]; rfl, by rw [hst], ⟨b, hb, rfl, fun z => absurd eK z⟩, fun z => ?_⟩
  rw [eK] at z
  exact absurd z (nn rfl)
theorem tokB_1 (hlt : s < n) (h : s < rn (fun j => isLe (T j)) n s) : tokB T n s = (1, rn (fun j => isLe (T j)) n s) := by
  have := of_decide_eq_true (rn_in (p := fun j => isLe (T j)) (Nat.le_refl s) h)
  unfold tokB
  rw [if_neg (by omega), if_neg (by omega), if_pos h]
theorem tokB_d (hlt : s < n) (h : ¬ s < rn (fun j => isLe (T j)) n s) (hd : s < rn (fun j => isDi (T j)) n s) : tokB T n s = if rn (fun j => isDi (T j)) n s - s ≤ 3 then (2, rn (fun j => isDi (T j)) n s) else (4, s + 1) := by
  have := of_decide_eq_true (rn_in (p := fun j => isDi (T j)) (Nat.le_refl s) hd)
  unfold tokB
  rw [if_neg (by omega), if_neg (by omega), if_neg h]
  by_cases q : rn (fun j => isDi (T j)) n s - s ≤ 3
  · rw [if_pos ⟨hd, q⟩, if_pos q]
  · rw [if_neg (fun z => q z.2), if_neg q]
theorem tokB_3 (hlt : s < n) (h : T s = 59) : tokB T n s = (3, s + 1) := by
  unfold tokB
  rw [if_neg (by omega), if_pos h]
theorem tokB_4 (hlt : s < n) (h : ¬ T s = 59) (h1 : ¬ s < rn (fun j => isLe (T j)) n s) (h2 : ¬ s < rn (fun j => isDi (T j)) n s) : tokB T n s = (4, s + 1) := by
  unfold tokB
  rw [if_neg (by omega), if_neg h, if_neg h1, if_neg (fun z => h2 z.1)]
theorem tokB_0 (h : n ≤ s) : tokB T n s = (0, s) := by
  unfold tokB
  rw [if_pos h]
theorem x6_next {post : Int32 → Int32 → Int32 → Int32 → Prop} (hn : n ≤ 600) (he : e ≤ n) (hk : k < 5) (hT : ∀ j, j < n → inp j = sgB (T j) ∧ T j < 256)
    (h : ∀ k' s' e' v', tokR T n k e k' s' e' v' → post k' s' e' v') : wp_X6_next (nI n) (nI k) (nI e) v inp post := by
  have hs := tokS_le (T := T) he
  obtain ⟨s, hst⟩ : ∃ s, tokS T n e = s := ⟨_, rfl⟩
  rw [hst] at hs
  have hqL := rn_le (p := fun j => isLe (T j)) hs
  have hqD := rn_le (p := fun j => isDi (T j)) hs
  have k1 : nI k = (1 : Int32) ↔ k = 1 := nI_eq (b := 1) (by omega) (by decide)
  have k2 : nI k = (2 : Int32) ↔ k = 2 := nI_eq (b := 2) (by omega) (by decide)
  have gD := rn_ge (p := fun j => isDi (T j)) (n := n) (a := s)
  have h3 : s < n → T s = 59 → post 3 (nI s) (nI (s + 1)) v := fun a1 a2 => h _ _ _ _ (tokR_of hst (tokB_3 a1 a2) (Or.inr (fun z => z.elim (nn rfl) (nn rfl))) (by omega) (fun _ => rfl) (fun z => absurd z (nn rfl)))
  have h4 : s < n → ¬ T s = 59 → ¬ s < rn (fun j => isLe (T j)) n s → ¬ s < rn (fun j => isDi (T j)) n s → post 4 (nI s) (nI (s + 1)) v := fun a1 a2 a3 a4 => h _ _ _ _ (tokR_of hst (tokB_4 a1 a2 a3 a4) (Or.inr (fun z => z.elim (nn rfl) (nn rfl))) (by omega) (fun z => absurd rfl z) (fun z => absurd z (nn rfl)))
  have h0 : n ≤ s → post 0 (nI s) (nI s) v := fun a1 => h _ _ _ _ (tokR_of hst (tokB_0 a1) (Or.inr (fun z => z.elim (nn rfl) (nn rfl))) hs (fun _ => rfl) (fun z => absurd z (nn rfl)))
  have hA := fun (ng : ¬ ((k = 1 ∨ k = 2) ∧ s = e)) => x6_nextIn (T := T) (v := v) (post := post) (1 : Int32) (fun t_to t_value => (((t_to - nI s) ≤ (3 : Int32) → (post (2 : Int32) (nI s) t_to t_value)) ∧ (¬ ((t_to - nI s) ≤ (3 : Int32)) → (post (4 : Int32) (nI s) t_to t_value)))) hn hs hT
    (fun a1 => h _ _ _ _ (tokR_of hst (tokB_1 (by omega) a1) (Or.inl ng) hqL (fun _ => rfl) (fun z => absurd z (nn rfl))))
    (fun a1 a2 a3 => by
      have hB := tokB_d a1 a2 a3
      rw [i_subn gD]
      refine ⟨fun q => ?_, fun q => ?_⟩
      · have q2 := (nI_leI (b := 3) (by omega) (by decide)).mp q
        rw [if_pos q2] at hB
        rw [Nat.min_eq_left q2]
        exact h _ _ _ _ (tokR_of hst hB (Or.inl ng) hqD (fun _ => rfl) (fun _ => rfl))
      · have q2 := mt (nI_leI (b := 3) (by omega) (by decide)).mpr q
        rw [if_neg q2] at hB
        exact h _ _ _ _ (tokR_of hst hB (Or.inl ng) hqD (fun z => absurd rfl z) (fun z => absurd z (nn rfl)))) h3 h4 h0
  have hG := fun (g : (k = 1 ∨ k = 2) ∧ s = e) => x6_nextIn (T := T) (v := v) (post := post) (4 : Int32) (fun t_to t_value => post (4 : Int32) (nI s) t_to t_value) hn hs hT
    (fun a1 => h _ _ _ _ (tokR_gl hst (Or.inl (by rw [tokB_1 (by omega) a1])) g hqL))
    (fun a1 a2 a3 => by
      have hB := tokB_d a1 a2 a3
      by_cases q2 : rn (fun j => isDi (T j)) n s - s ≤ 3
      · rw [if_pos q2] at hB
        exact h _ _ _ _ (tokR_gl hst (Or.inr (by rw [hB])) g hqD)
      · rw [if_neg q2] at hB
        exact h _ _ _ _ (tokR_of hst hB (Or.inr (fun z => z.elim (nn rfl) (nn rfl))) hqD (fun z => absurd rfl z) (fun z => absurd z (nn rfl)))) h3 h4 h0
  have hse : nI s = nI e ↔ s = e := nI_eq (by omega) (by omega)
  unfold wp_X6_next
  refine ⟨fun q1 => ?_, fun q1 => ⟨fun q2 => ?_, fun q2 => ?_⟩⟩
  · refine x6_nextB hn he hT ?_
    rw [hst]
    exact ⟨fun q => hA (fun z => q (hse.mpr z.2)), fun q => hG ⟨Or.inl (k1.mp q1), hse.mp q⟩⟩
  · refine x6_nextB hn he hT ?_
    rw [hst]
    exact hA (fun z => z.1.elim (fun y => q1 (k1.mpr y)) (fun y => q2 (k2.mpr y)))
  · refine x6_nextB hn he hT ?_
    rw [hst]
    exact ⟨fun q => hA (fun z => q (hse.mpr z.2)), fun q => hG ⟨Or.inr (k2.mp q2), hse.mp q⟩⟩
end WRD
