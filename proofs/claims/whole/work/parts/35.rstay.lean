theorem stay_congr {ow : Nat → Nat} {E : Nat → Nat → Prop} {i : Nat} {X Y : Nat → Prop} (h : ∀ v, X v ↔ Y v) (v : Nat) : stay ow E i X v ↔ stay ow E i Y v := by
  have : X = Y := funext fun v => propext (h v)
  rw [this]
theorem x6_leaves {pl mv : List (Nat × Nat)} {i p : Nat} {x : Int32} {now : Nat → Int32} {post : Int32 → Prop} (hg : gOk0 pl mv) (hp : RMp pl now) (hv : RMv mv now) (hi : i < 2) (hpn : p < pl.length)
    (h1 : ¬ stay (lA pl) (gEd mv) i (fun u => bt x u = true) p → post 1) (h0 : stay (lA pl) (gEd mv) i (fun u => bt x u = true) p → post 0) : wp_X6_leaves (nI i) (nI p) x now post := by
  have hn := hg.1
  have hm := hg.2.1
  have hop := (gOk0_ow hg p).1
  unfold wp_X6_leaves
  refine fx3_go (fun a b v => ∃ k, k ≤ mv.length ∧ v = nI k ∧ a = nI (pCnt (cAt mv p) k) ∧ b = nI (pCnt (cOut mv x p) k)) (fun _ _ v => mv.length - v.toNatClampNeg) ?_ _ _ _ ⟨0, Nat.zero_le _, rfl, rfl, rfl⟩
  rintro rec a b v ⟨k, hk, rfl, rfl, rfl⟩ hrec
  unfold F_X6_leaves_9
  rw [hv.1]
  have hcl : (nI k).toNatClampNeg = k := nI_clamp (by omega)
  rcases Nat.lt_or_ge k mv.length with q | q
  · rw [ix44, ix105, nI_clamp (show 44 + k < 2 ^ 31 by omega), nI_clamp (show 105 + k < 2 ^ 31 by omega), (hv.2 k q).1, (hv.2 k q).2]
    obtain ⟨g1, g2⟩ := gOk0_mv hg q
    have hmu : mv.length - (nI k + 1).toNatClampNeg < mv.length - (nI k).toNatClampNeg := by rw [nI_1, nI_clamp (by omega), hcl]; omega
    refine lpS q (by omega) ⟨vp_in_nI (by omega) (by omega), fun z => hrec _ _ _ ⟨k + 1, by omega, nI_1 k, ?_, ?_⟩ hmu, fun z => ⟨vp_in_nI (by omega) (by omega), ?_⟩⟩
    · have e : ¬ lA mv k = p := fun y => z (by rw [y])
      exact pCnt_no (decide_eq_false e)
    · have e : ¬ lA mv k = p := fun y => z (by rw [y])
      exact pCnt_no (show (decide (lA mv k = p) && !bt x (lB mv k)) = false by rw [decide_eq_false e, Bool.false_and])
    · have e : lA mv k = p := (nI_eq (by omega) (by omega)).mp z
      refine x6_has (by omega) (fun hb => ⟨fun y => absurd y (by decide), fun _ => hrec _ _ _ ⟨k + 1, by omega, nI_1 k, ?_, ?_⟩ hmu⟩) (fun hb => ⟨fun _ => hrec _ _ _ ⟨k + 1, by omega, nI_1 k, ?_, ?_⟩ hmu, fun y => absurd rfl y⟩)
      · exact pCnt_yes (decide_eq_true e)
      · rw [add0]
        exact pCnt_no (show (decide (lA mv k = p) && !bt x (lB mv k)) = false by rw [decide_eq_true e, hb]; rfl)
      · exact pCnt_yes (decide_eq_true e)
      · exact pCnt_yes (show (decide (lA mv k = p) && !bt x (lB mv k)) = true by
          rw [decide_eq_true e, Bool.true_and]
          cases h2 : bt x (lB mv k)
          · rfl
          · exact absurd h2 hb)
  · have e : k = mv.length := by omega
    subst e
    have t1 := pCnt_top (cAt mv p) mv.length
    have t2 := pCnt_top (cOut mv x p) mv.length
    have pos : ∀ {c : Nat}, c ≤ 60 → (nI c ≤ (0 : Int32) ↔ ¬ 0 < c) := fun hc => by
      rw [show (0 : Int32) = nI 0 from rfl, nI_leI (by omega) (by decide)]
      omega
    rw [ix4, nI_clamp (show 4 + p < 2 ^ 31 by omega), (hp.2 p hpn).1]
    refine lpE ⟨vp_in_nI (by omega) (by omega), fun z => ⟨fun y => h0 ?_, fun y => h1 ?_⟩, fun z => ⟨fun y => h0 ?_, fun y => ⟨fun w => h0 ?_, fun w => h1 ?_⟩⟩⟩
    · have ne : lA pl p ≠ i := fun y => z (by rw [y])
      exact ⟨fun a => absurd a ne, fun _ w hw => Classical.byContradiction fun a => ((pos (by omega)).mp y) (cOut_pos.mpr ⟨w, hw, a⟩)⟩
    · have ne : lA pl p ≠ i := fun y => z (by rw [y])
      have hpos : 0 < pCnt (cOut mv x p) mv.length := Nat.pos_of_ne_zero fun y2 => y ((pos (by omega)).mpr (by omega))
      obtain ⟨w, a, b⟩ := cOut_pos.mp hpos
      exact fun s => b (s.2 ne w a)
    · have eq : lA pl p = i := (nI_eq (by omega) (by omega)).mp z
      exact ⟨fun _ => Or.inr fun a => ((pos (by omega)).mp y) (cAt_pos.mpr a), fun a => absurd eq a⟩
    · have eq : lA pl p = i := (nI_eq (by omega) (by omega)).mp z
      refine ⟨fun _ => Or.inl (Classical.byContradiction fun a => w ?_), fun a => absurd eq a⟩
      rw [cOut_all.mpr (fun w2 hw2 hb => a ⟨w2, hw2, hb⟩)]
    · have eq : lA pl p = i := (nI_eq (by omega) (by omega)).mp z
      have hall := cOut_all.mp ((nI_eq (by omega) (by omega)).mp w)
      have hpos : 0 < pCnt (cAt mv p) mv.length := Nat.pos_of_ne_zero fun y2 => y ((pos (by omega)).mpr (by omega))
      have hsome := cAt_pos.mp hpos
      intro s
      rcases s.1 eq with ⟨w2, a, b⟩ | a
      · exact hall w2 a b
      · exact a hsome
theorem x6_stays {pl mv : List (Nat × Nat)} {i : Nat} {x : Int32} {S : Nat → Prop} {now : Nat → Int32} {post : Int32 → Prop} (hg : gOk0 pl mv) (hp : RMp pl now) (hv : RMv mv now) (hi : i < 2) (hS : ∀ u, bt x u = true ↔ S u) (hSn : ∀ u, S u → u < pl.length)
    (h : ∀ r, (∀ u, bt r u = true ↔ ∀ k, sIter (lA pl) (gEd mv) i S k u) → post r) : wp_X6_stays (nI i) x now post := by
  have hn := hg.1
  have hd : ∀ k v, sIter (lA pl) (gEd mv) i S (k + 1) v → sIter (lA pl) (gEd mv) i S k v := fun k v a => a.1
  have hsn : ∀ k v, sIter (lA pl) (gEd mv) i S k v → v < pl.length := fun k => by
    induction k with
    | zero => exact hSn
    | succ k ih => exact fun v a => ih v a.1
  unfold wp_X6_stays
  refine fx2_go (fun l b => ∃ k, (∀ u, bt l u = true ↔ sIter (lA pl) (gEd mv) i S k u) ∧ (l = b → ∀ u, sIter (lA pl) (gEd mv) i S k u → sIter (lA pl) (gEd mv) i S (k + 1) u)) (fun l b => 2 * pCnt (fun u => bt l u) pl.length + (if l = b then 0 else 1)) ?_ _ _ ⟨0, hS, fun e => ?_⟩
  rotate_left
  · have h31 : bt x 31 = true := by rw [e]; exact b_m1 31 (by decide)
    have := hSn 31 ((hS 31).mp h31)
    omega
  rintro rec l b ⟨k, hb, hst⟩ hrec
  unfold F_X6_stays_5
  refine ⟨fun q => h _ (fun u => by rw [hb u]; exact down_lim hd (sIter_stab (hst q)) u), fun q => ?_⟩
  refine up2 pl.length (by omega) (fun p l2 => ∀ u, bt l2 u = true ↔ sIter (lA pl) (gEd mv) i S k u ∧ (u < p → stay (lA pl) (gEd mv) i (fun u => bt l u = true) u)) 0 _ (Nat.zero_le _) (fun u => by rw [hb u]; exact ⟨fun a => ⟨a, fun z => absurd z (Nat.not_lt_zero _)⟩, fun a => a.1⟩) (fun rec2 l2 hI => ?_) (fun rec2 p l2 hpn hI go => ?_)
  · unfold F_X6_stays_17
    rw [hp.1]
    have hnew : ∀ u, bt l2 u = true ↔ sIter (lA pl) (gEd mv) i S (k + 1) u := fun u => by
      rw [hI u]
      have e := stay_congr (ow := lA pl) (E := gEd mv) (i := i) hb u
      exact ⟨fun a => ⟨a.1, e.mp (a.2 (hsn k u a.1))⟩, fun a => ⟨a.1, fun _ => e.mpr a.2⟩⟩
    refine lpE (hrec _ _ ⟨k + 1, hnew, fun e u a => ?_⟩ ?_)
    · have st : ∀ v, sIter (lA pl) (gEd mv) i S k v → sIter (lA pl) (gEd mv) i S (k + 1) v := fun v a => (hnew v).mp (by rw [e]; exact (hb v).mpr a)
      exact sIter_stab st 2 u a.1
    · rw [if_neg q]
      by_cases e : l2 = l
      · rw [if_pos e, e]; omega
      · rw [if_neg e]
        obtain ⟨u, hu⟩ : ∃ u, bt l u = true ∧ ¬ bt l2 u = true := Classical.byContradiction fun z => e (b_ext (fun u _ => Bool.eq_iff_iff.mpr ⟨fun a => (hb u).mpr ((hI u).mp a).1, fun a => Classical.byContradiction fun y => z ⟨u, a, y⟩⟩))
        have := pCnt_mono_lt (f := fun u => bt l2 u) (g := fun u => bt l u) (n := pl.length) (fun v _ a => (hb v).mpr ((hI v).mp a).1) ⟨u, hsn k u ((hb u).mp hu.1), by cases h2 : bt l2 u; rfl; exact absurd h2 hu.2, hu.1⟩
        omega
  · unfold F_X6_stays_17
    rw [hp.1]
    refine lpS hpn (by omega) (x6_has (by omega) (fun hb2 => ⟨fun y => absurd y (by decide), fun _ => x6_leaves hg hp hv hi hpn (fun hs => ⟨fun y => absurd y (by decide), fun _ => go _ (fun u => ?_)⟩) (fun hs => ⟨fun _ => go _ (fun u => ?_), fun y => absurd rfl y⟩)⟩) (fun hb2 => ⟨fun _ => go _ (fun u => ?_), fun y => absurd rfl y⟩))
    · rw [b_diff, hI u, b_one (by omega), decide_eq_true_eq]
      constructor
      · rintro ⟨⟨a, b⟩, c⟩
        exact ⟨a, fun d => b (by omega)⟩
      · rintro ⟨a, b⟩
        exact ⟨⟨a, fun d => b (by omega)⟩, fun e => hs (by rw [← e]; exact b (by omega))⟩
    · rw [hI u]
      constructor
      · rintro ⟨a, b⟩
        refine ⟨a, fun d => ?_⟩
        rcases Nat.lt_or_ge u p with y | y
        · exact b y
        · have : u = p := by omega
          subst this
          exact hs
      · rintro ⟨a, b⟩
        exact ⟨a, fun d => b (by omega)⟩
    · rw [hI u]
      constructor
      · rintro ⟨a, b⟩
        refine ⟨a, fun d => ?_⟩
        rcases Nat.lt_or_ge u p with y | y
        · exact b y
        · have : u = p := by omega
          subst this
          exact absurd ((hI u).mpr ⟨a, b⟩) hb2
      · rintro ⟨a, b⟩
        exact ⟨a, fun d => b (by omega)⟩
theorem x6_comesBack {pl mv : List (Nat × Nat)} {i : Nat} {x : Int32} {S : Nat → Prop} {now rank : Nat → Int32} {post : Int32 → (Nat → Int32) → Prop} (hg : gOk0 pl mv) (hp : RMp pl now) (hv : RMv mv now) (hi : i < 2) (hS : ∀ u, bt x u = true ↔ S u) (hSn : ∀ u, S u → u < pl.length)
    (h : ∀ r rk, (∀ u, bt r u = true ↔ ∀ k, cIter (lA pl) (gEd mv) i pl.length S k u) → post r rk) : wp_X6_comesBack (nI i) x now rank post := by
  have hn := hg.1
  have hEn : ∀ v w, gEd mv v w → v < pl.length ∧ w < pl.length := fun v w q => gEd_lt hg q
  have hd := cIter_down (ow := lA pl) (i := i) hEn hSn
  have hsn := cIter_n (ow := lA pl) (i := i) hEn hSn
  unfold wp_X6_comesBack wp_X6_all
  rw [hp.1]
  have hall : ∀ u, bt (((1 : Int32) <<< (nI pl.length &&& 31)) - 1) u = true ↔ u < pl.length := fun u => by rw [b_all hn, decide_eq_true_eq]
  refine fx3_go (fun l b _ => ∃ k, (∀ u, bt l u = true ↔ cIter (lA pl) (gEd mv) i pl.length S k u) ∧ (l = b → ∀ u, cIter (lA pl) (gEd mv) i pl.length S k u → cIter (lA pl) (gEd mv) i pl.length S (k + 1) u)) (fun l b _ => 2 * pCnt (fun u => bt l u) pl.length + (if l = b then 0 else 1)) ?_ _ _ _ ⟨0, hall, fun e => ?_⟩
  rotate_left
  · have h31 : bt (((1 : Int32) <<< (nI pl.length &&& 31)) - 1) 31 = true := by rw [e]; exact b_m1 31 (by decide)
    have := (hall 31).mp h31
    omega
  rintro rec l b rk ⟨k, hb, hst⟩ hrec
  unfold F_X6_comesBack_8
  refine ⟨fun q => h _ _ (fun u => by rw [hb u]; exact down_lim hd (cIter_stab hEn hSn (hst q)) u), fun q => ?_⟩
  refine x6_forcing hg hp hv hi hb (fun r5 hr5 => ?_)
  refine x6_pulls (T := fun u => S u ∧ pre (lA pl) (gEd mv) i (cIter (lA pl) (gEd mv) i pl.length S k) u) hg hp hv hi (fun u => by rw [b_andI, hS u, hr5 u]) (fun u a => hSn u a.1) (fun r6 rk7 hr6 _ => ?_)
  have hnew : ∀ u, bt (r6 &&& l) u = true ↔ cIter (lA pl) (gEd mv) i pl.length S (k + 1) u := fun u => by
    rw [b_andI, hr6 u, hb u]
    exact ⟨fun a => a.1, fun a => ⟨a, hd k u a⟩⟩
  refine hrec _ _ _ ⟨k + 1, hnew, fun e u a => ?_⟩ ?_
  · have st : ∀ v, cIter (lA pl) (gEd mv) i pl.length S k v → cIter (lA pl) (gEd mv) i pl.length S (k + 1) v := fun v a => (hnew v).mp (by rw [e]; exact (hb v).mpr a)
    exact cIter_stab hEn hSn st 2 u (hd k u a)
  · rw [if_neg q]
    by_cases e : r6 &&& l = l
    · rw [if_pos e, e]; omega
    · rw [if_neg e]
      obtain ⟨u, hu⟩ : ∃ u, bt l u = true ∧ ¬ bt (r6 &&& l) u = true := Classical.byContradiction fun z => e (b_ext (fun u _ => Bool.eq_iff_iff.mpr ⟨fun a => ((b_andI u).mp a).2, fun a => Classical.byContradiction fun y => z ⟨u, a, y⟩⟩))
      have := pCnt_mono_lt (f := fun u => bt (r6 &&& l) u) (g := fun u => bt l u) (n := pl.length) (fun v _ a => ((b_andI v).mp a).2) ⟨u, hsn k u ((hb u).mp hu.1), by cases h2 : bt (r6 &&& l) u; rfl; exact absurd h2 hu.2, hu.1⟩
      omega
