/-! what would be: the reference -/
theorem x6_looksAll61 {m : Nat} {live now : Nat → Int32} {post : (Nat → Int32) → Prop} (hm : m ≤ 61) (h1 : now 1 = nI m) (h : ∀ l', mLive m allL l' → post l') : wp_X6_looksAtAll live now post := by
  unfold wp_X6_looksAtAll
  refine up2i m (by omega) (fun k l => ∀ j, j < k → l j = 1) 0 _ (Nat.zero_le _) (fun j hj => absurd hj (Nat.not_lt_zero _)) (fun rec l hI => ?_) (fun rec k l hk hI go => ?_)
  · unfold F_X6_looksAtAll_2
    rw [h1]
    exact lpE (h _ (fun k hk => by rw [hI k hk]; rfl))
  · unfold F_X6_looksAtAll_2
    rw [h1, nI_clamp (by omega)]
    refine lpS hk (by omega) ⟨vp_in_nI (by omega) (by omega), go _ (fun j hj => ?_)⟩
    rw [upd_get]
    split
    · rfl
    · exact hI j (by omega)
theorem upd_back {f : Nat → Int32} {k : Nat} {x : Int32} : upd (upd f k x) k (f k) = f := funext fun j => by
  rw [upd_get]
  by_cases z : j = k
  · rw [if_pos z, z]
  · rw [if_neg z, pk_un z]
theorem x6_winner {pl mv : List (Nat × Nat)} {s : Nat} {live measure now weight : Nat → Int32} {post : Int32 → Int32 → (Nat → Int32) → (Nat → Int32) → (Nat → Int32) → Prop} (hg : gOk0 pl mv) (hp : RMp pl now) (hv : RMv mv now) (hs : s < pl.length)
    (h : ∀ (i : Nat) (t : Int32) (li me we : Nat → Int32), i < 2 → gW pl mv allL i s → ¬ gW pl mv allL (1 - i) s → post (nI i) t li me we) : wp_X6_winner (nI s) live measure now weight post := by
  have hn := hg.1
  unfold wp_X6_winner
  refine x6_wonByEven hg hp hv (fun r t li me we hr => x6_has (by omega) (fun q => ⟨fun z => absurd z (by decide), fun _ => ?_⟩) (fun q => ⟨fun _ => ?_, fun z => absurd rfl z⟩))
  · exact h 0 t li me we (by decide) ((hr s).mp q) (fun y => (gW_det hg hs).mpr y ((hr s).mp q))
  · have q2 : ¬ gW pl mv allL 0 s := fun y => q ((hr s).mpr y)
    exact h 1 t li me we (by decide) ((gW_det hg hs).mp q2) q2
theorem i_1sub {o : Nat} (h : o < 2) : (1 : Int32) - nI o = nI (1 - o) := i_subn (a := 1) (by omega)
theorem i_11 (x : Int32) : (1 : Int32) - (1 - x) = x := by
  rw [Int32.sub_eq_add_neg 1 (1 - x), Int32.neg_sub, Int32.add_comm, Int32.sub_add_cancel]
theorem x6_wonOther {pl mv : List (Nat × Nat)} {p : Nat} {live measure now weight : Nat → Int32} {post : Int32 → Int32 → (Nat → Int32) → (Nat → Int32) → (Nat → Int32) → (Nat → Int32) → Prop} (hg : gOk0 pl mv) (hp : RMp pl now) (hv : RMv mv now) (hpn : p < pl.length)
    (h : ∀ (r t : Int32) (li me we : Nat → Int32), (∀ u, bt r u = true ↔ gW (aOther pl p) mv allL 0 u) → post r t li me now we) : wp_X6_wonOther (nI p) live measure now weight post := by
  have hn := hg.1
  have ho := (gOk0_ow hg p).1
  unfold wp_X6_wonOther
  rw [ix4, nI_clamp (show 4 + p < 2 ^ 31 by omega)]
  have hin : vp_in (nI (4 + p)) 176 := vp_in_nI (by omega) (by decide)
  have e1 : (1 : Int32) - now (4 + p) = nI (1 - lA pl p) := by rw [(hp.2 p hpn).1]; exact i_1sub ho
  have hg2 : gOk0 (aOther pl p) mv := gOk0_set hg (by show 1 - lA pl p < 2; omega) (gOk0_ow hg p).2
  have hp2 : RMp (aOther pl p) (upd now (4 + p) (1 - now (4 + p))) := by rw [e1]; exact rm_owner hp hn hpn
  have hv2 : RMv mv (upd now (4 + p) (1 - now (4 + p))) := RMv_upd hv (by have := hg.2.1; omega) (by omega) (by omega)
  refine ⟨hin, hin, x6_wonByEven hg2 hp2 hv2 (fun r t li me we hr => ⟨hin, hin, ?_⟩)⟩
  rw [pk_us, i_11, upd_back]
  exact h r t li me we hr
theorem x6_wonBut {pl mv : List (Nat × Nat)} {k : Nat} {live measure now weight : Nat → Int32} {post : Int32 → Int32 → (Nat → Int32) → (Nat → Int32) → (Nat → Int32) → Prop} (hg : gOk0 pl mv) (hp : RMp pl now) (hv : RMv mv now) (hk : k < mv.length)
    (h : ∀ (r t : Int32) (li me we : Nat → Int32), (∀ u, bt r u = true ↔ gW pl mv (lvBut k) 0 u) → post r t li me we) : wp_X6_wonBut (nI k) live measure now weight post := by
  have hm := hg.2.1
  unfold wp_X6_wonBut
  refine x6_looksAtAll hm hv.1 (fun l' hl => ⟨vp_in_nI (by omega) (by decide), ?_⟩)
  rw [nI_clamp (show k < 2 ^ 31 by omega)]
  refine x6_solved (lv := lvBut k) hg hp hv (fun j hj => ?_) (fun r t me we hr => h r t _ me we hr)
  rw [upd_get]
  unfold lvBut
  by_cases z : j = k
  · rw [if_pos z, if_neg (by rw [decide_eq_true_eq]; exact fun y => y z)]
  · rw [if_neg z, if_pos (by rw [decide_eq_true_eq]; exact z), hl j hj]
    rfl
section WHAT6
variable {pl mv : List (Nat × Nat)} {a c p s t0 : Int32} {live measure now weight : Nat → Int32} {post : Int32 → Int32 → Int32 → (Nat → Int32) → (Nat → Int32) → (Nat → Int32) → (Nat → Int32) → Prop} {post3 : Int32 → Int32 → Int32 → (Nat → Int32) → (Nat → Int32) → (Nat → Int32) → Prop}
theorem x6_wonIfCall (hg : gOk0 pl mv) (hp : RMp pl now) (hv : RMv mv now)
    (h1 : ¬ isN pl.length a → post 0 1 t0 live measure now weight) (h2 : isN pl.length a → ¬ isN 10 c → post 0 2 t0 live measure now weight)
    (h : ∀ r t li me we, isN pl.length a → isN 10 c → (∀ u, bt r u = true ↔ gW (aCall pl (ix a) (ix c)) mv allL 0 u) → post r 0 t li me now we) : wp_X6_wonIfCall a c t0 live measure now weight post := by
  have hn := hg.1
  unfold wp_X6_wonIfCall wp_X6_refuse wp_X6_told
  refine n6_place hp hn (fun q => n6_no (h1 q)) (fun ha => n6_ye (n6_in (n := 10) (by decide) (fun q => n6_no (h2 ha q)) (fun hc => n6_ye ?_)))
  obtain ⟨k, hk, e⟩ := ha
  obtain ⟨j, hj, e2⟩ := hc
  have hpost := fun r t li me we => h r t li me we ⟨k, hk, e⟩ ⟨j, hj, e2⟩
  rw [e, e2, ix_nI (by omega), ix_nI (by omega)] at hpost
  rw [e, e2, ix24, nI_clamp (show 24 + k < 2 ^ 31 by omega)]
  have hin : vp_in (nI (24 + k)) 176 := vp_in_nI (by omega) (by decide)
  have hg2 : gOk0 (aCall pl k j) mv := gOk0_set hg (gOk0_ow hg k).1 hj
  refine ⟨hin, hin, x6_wonByEven hg2 (rm_call hp hn hk) (RMv_upd hv (by have := hg.2.1; omega) (by omega) (by omega)) (fun r t li me we hr => ⟨hin, ?_⟩)⟩
  rw [upd_back]
  exact hpost _ _ _ _ _ hr
theorem x6_wonIfOther (hg : gOk0 pl mv) (hp : RMp pl now) (hv : RMv mv now)
    (h1 : ¬ isN pl.length a → post 0 1 t0 live measure now weight)
    (h : ∀ r t li me we, isN pl.length a → (∀ u, bt r u = true ↔ gW (aOther pl (ix a)) mv allL 0 u) → post r 0 t li me now we) : wp_X6_wonIfOther a t0 live measure now weight post := by
  have hn := hg.1
  unfold wp_X6_wonIfOther wp_X6_refuse wp_X6_told
  refine n6_place hp hn (fun q => n6_no (h1 q)) (fun ha => n6_ye ?_)
  obtain ⟨k, hk, e⟩ := ha
  have hpost := fun r t li me we => h r t li me we ⟨k, hk, e⟩
  rw [e, ix_nI (by omega)] at hpost
  rw [e]
  exact x6_wonOther hg hp hv hk (fun r t li me we hr => hpost _ _ _ _ _ hr)
theorem x6_wonWithout (hg : gOk0 pl mv) (hp : RMp pl now) (hv : RMv mv now)
    (h1 : ¬ isN mv.length a → post3 0 1 t0 live measure weight)
    (h : ∀ r t li me we, isN mv.length a → (∀ u, bt r u = true ↔ gW pl mv (lvBut (ix a)) 0 u) → post3 r 0 t li me we) : wp_X6_wonWithout a t0 live measure now weight post3 := by
  have hm := hg.2.1
  unfold wp_X6_wonWithout wp_X6_refuse wp_X6_told
  refine n6_move hv hm (fun q => n6_no (h1 q)) (fun ha => n6_ye ?_)
  obtain ⟨k, hk, e⟩ := ha
  have hpost := fun r t li me we => h r t li me we ⟨k, hk, e⟩
  rw [e, ix_nI (by omega)] at hpost
  rw [e]
  exact x6_wonBut hg hp hv hk (fun r t li me we hr => hpost _ _ _ _ _ hr)
end WHAT6
theorem RMv_less {mv : List (Nat × Nat)} {q : Nat × Nat} {now : Nat → Int32} (h : RMv (mv ++ [q]) now) (hm : mv.length ≤ 60) : RMv mv (upd now 1 (now 1 - 1)) := by
  refine ⟨?_, fun k hk => ?_⟩
  · rw [pk_us, h.1, List.length_append, List.length_singleton]
    exact i_sub1
  · have := h.2 k (by rw [List.length_append]; omega)
    rw [pk_un (by omega), pk_un (by omega), this.1, this.2, lA_app.1, lA_app.2, if_neg (by omega), if_neg (by omega)]
    exact ⟨rfl, rfl⟩
theorem x6_wonWith {pl mv : List (Nat × Nat)} {tk : Nat} {md : Int32} {hd : Nat → Int32} {a b t0 : Int32} {live measure now weight : Nat → Int32} {post : Int32 → Int32 → Int32 → (Nat → Int32) → (Nat → Int32) → (Nat → Int32) → (Nat → Int32) → Prop} (hg : gOk0 pl mv) (hp : RMp pl now) (hv : RMv mv now) (ht : RMt tk md hd now)
    (h1 : ¬ (isN pl.length a ∧ isN pl.length b) → post 0 1 t0 live measure now weight)
    (h' : ∀ r n' t li me we, isN pl.length a ∧ isN pl.length b → (∀ u, bt r u = true ↔ gWj pl mv (ix a) (ix b) 0 u) → RMp pl n' → RMv mv n' → RMt tk md hd n' → post r 0 t li me n' we) : wp_X6_wonWith a b t0 live measure now weight post := by
  have hn := hg.1
  have hm := hg.2.1
  unfold wp_X6_wonWith wp_X6_refuse wp_X6_told
  refine n6_place hp hn (fun q => n6_no' (h1 (fun z => q z.1))) (fun ha => n6_ye' (n6_place hp hn (fun q => n6_no (h1 (fun z => q z.2))) (fun hb => n6_ye ?_)))
  obtain ⟨k, hk, e⟩ := ha
  obtain ⟨j, hj, e2⟩ := hb
  have h := fun r n' x1 x2 x3 x4 t li me we => h' r n' t li me we ⟨⟨k, hk, e⟩, ⟨j, hj, e2⟩⟩ x1 x2 x3 x4
  rw [e, e2, ix_nI (by omega), ix_nI (by omega)] at h
  rw [e, e2]
  have hvl : ∀ x, x < mv.length → lA mv x < 1000 ∧ lB mv x < 1000 := fun x hx => by have := gOk0_mv hg hx; omega
  refine x6_between hv hm hvl (by omega) (by omega) ?_
  refine ⟨fun q => ?_, fun q => ?_⟩
  · have hno : ¬ gEd mv k j := by
      rintro ⟨x, hx, y1, y2⟩
      rcases rFst_cases (fun x => decide (lA mv x = k) && decide (lB mv x = j)) mv.length with z | ⟨y, hy, z1, z2⟩
      · have : rFst (fun x => decide (lA mv x = k) && decide (lB mv x = j)) mv.length ≠ -1 := by
          have hfst : ∃ f, f < mv.length ∧ (decide (lA mv f = k) && decide (lB mv f = j)) = true ∧ ∀ i, i < f → ¬ (decide (lA mv i = k) && decide (lB mv i = j)) = true := by
            have key : ∀ n, (∃ f, f ≤ n ∧ f < mv.length ∧ (decide (lA mv f = k) && decide (lB mv f = j)) = true) → ∃ f, f < mv.length ∧ (decide (lA mv f = k) && decide (lB mv f = j)) = true ∧ ∀ i, i < f → ¬ (decide (lA mv i = k) && decide (lB mv i = j)) = true := by
              intro n
              induction n with
              | zero => rintro ⟨f, a1, a2, a3⟩; exact ⟨f, a2, a3, fun i hi => by omega⟩
              | succ n ih =>
                rintro ⟨f, a1, a2, a3⟩
                by_cases w : ∃ f, f ≤ n ∧ f < mv.length ∧ (decide (lA mv f = k) && decide (lB mv f = j)) = true
                · exact ih w
                · exact ⟨f, a2, a3, fun i hi y => w ⟨i, by omega, by omega, y⟩⟩
            exact key x ⟨x, Nat.le_refl _, hx, by rw [decide_eq_true y1, decide_eq_true y2]; rfl⟩
          obtain ⟨f, a1, a2, a3⟩ := hfst
          rw [rFst_hit a2 a3 a1]
          exact nI_m1 (by omega)
        exact this z
      · rw [z2] at q
        exact nI_m1 (k := y) (by omega) q
    refine x6_leads (a := k) (b := j) hm hv (fun n' hn' hf => ?_)
    have hp' : RMp pl n' := RMp_of hn hp (hf 0 (by decide) (by omega)) (fun i x y => hf i (by omega) (by omega))
    have ht' : RMt tk md hd n' := RMt_of ht (hf 2 (by decide) (by omega)) (hf 3 (by decide) (by omega)) (fun i x y => hf i (by omega) (by omega))
    have hv2 := hn'
    unfold wp_X6_wonByEven
    have hM : mdOk pl.length (mv ++ [(k, j)]).length (lA pl) (lB pl) (lA (mv ++ [(k, j)])) (lB (mv ++ [(k, j)])) n' :=
      ⟨hn, by rw [List.length_append, List.length_singleton]; omega, fun v => (gOk0_ow hg v).1, fun v => (gOk0_ow hg v).2, hp'.1, hn'.1, hp'.2, fun x hx => ⟨(hn'.2 x hx).1, (hn'.2 x hx).2, by
        rw [List.length_append, List.length_singleton] at hx
        rw [lA_app.1, lA_app.2]
        by_cases z : x = mv.length
        · rw [if_pos z, if_pos z]; exact ⟨hk, hj⟩
        · rw [if_neg z, if_neg z]; exact gOk0_mv hg (by omega)⟩⟩
    refine x6_looksAll61 (m := (mv ++ [(k, j)]).length) (by rw [List.length_append, List.length_singleton]; omega) hn'.1 (fun l' hl => ?_)
    refine solved_ok hM hl (fun r t me we hr => ?_)
    refine h r _ (fun u => ?_) (RMp_of hn hp' (pk_un (by decide)) (fun i x y => pk_un (by omega))) (RMv_less hn' hm) (RMt_of ht' (pk_un (by decide)) (pk_un (by decide)) (fun i x y => pk_un (by omega))) _ _ _ _
    rw [hr u]
    unfold gWj
    have : mE (mv ++ [(k, j)]).length (lA (mv ++ [(k, j)])) (lB (mv ++ [(k, j)])) allL = fun v w => gEd mv v w ∨ (v = k ∧ w = j) := funext fun v => funext fun w => propext (by
      constructor
      · rintro ⟨x, hx, _, y1, y2⟩
        rw [List.length_append, List.length_singleton] at hx
        rw [lA_app.1] at y1
        rw [lA_app.2] at y2
        by_cases z : x = mv.length
        · rw [if_pos z] at y1 y2; exact Or.inr ⟨y1.symm, y2.symm⟩
        · rw [if_neg z] at y1 y2; exact Or.inl ⟨x, by omega, y1, y2⟩
      · rintro (⟨x, hx, y1, y2⟩ | ⟨y1, y2⟩)
        · refine ⟨x, by rw [List.length_append]; omega, rfl, ?_, ?_⟩
          · rw [lA_app.1, if_neg (by omega)]; exact y1
          · rw [lA_app.2, if_neg (by omega)]; exact y2
        · refine ⟨mv.length, by rw [List.length_append, List.length_singleton]; omega, rfl, ?_, ?_⟩
          · rw [lA_app.1, if_pos rfl]; exact y1.symm
          · rw [lA_app.2, if_pos rfl]; exact y2.symm)
    rw [this]
  · have hyes : gEd mv k j := by
      rcases rFst_cases (fun x => decide (lA mv x = k) && decide (lB mv x = j)) mv.length with z | ⟨y, hy, z1, z2⟩
      · exact absurd z q
      · rw [Bool.and_eq_true, decide_eq_true_eq, decide_eq_true_eq] at z1
        exact ⟨y, hy, z1.1, z1.2⟩
    refine x6_wonByEven hg hp hv (fun r t li me we hr => h r now (fun u => ?_) hp hv ht _ _ _ _)
    rw [hr u]
    unfold gW gWj
    rw [gL_all]
    have : gEd mv = fun v w => gEd mv v w ∨ (v = k ∧ w = j) := funext fun v => funext fun w => propext ⟨Or.inl, fun y => y.elim id (fun y => by rw [y.1, y.2]; exact hyes)⟩
    rw [← this]
theorem x6_leastCall {pl mv : List (Nat × Nat)} {a p s t0 : Int32} {live measure now weight : Nat → Int32} {post : Int32 → Int32 → Int32 → (Nat → Int32) → (Nat → Int32) → (Nat → Int32) → (Nat → Int32) → Prop} (hg : gOk0 pl mv) (hp : RMp pl now) (hv : RMv mv now)
    (h1 : ¬ (isN pl.length p ∧ isN pl.length s) → post 0 1 t0 live measure now weight)
    (h2 : isN pl.length p ∧ isN pl.length s → ¬ isN 2 a → post 0 2 t0 live measure now weight)
    (h : ∀ t li me we, isN pl.length p ∧ isN pl.length s → isN 2 a → post (pLeast pl mv (ix p) (ix s) (ix a)) 0 t li me now we) : wp_X6_leastCall a p s t0 live measure now weight post := by
  have hn := hg.1
  have hm := hg.2.1
  unfold wp_X6_leastCall wp_X6_refuse wp_X6_told
  refine n6_place hp hn (fun q => n6_no' (h1 (fun z => q z.1))) (fun ha => n6_ye' (n6_place hp hn (fun q => n6_no (h1 (fun z => q z.2))) (fun hb => n6_ye (n6_in (n := 2) (by decide) (fun q => n6_no (h2 ⟨ha, hb⟩ q)) (fun hc => n6_ye ?_)))))
  obtain ⟨k, hk, e⟩ := ha
  obtain ⟨j, hj, e2⟩ := hb
  obtain ⟨i, hi, e3⟩ := hc
  have hpost := fun t li me we => h t li me we ⟨⟨k, hk, e⟩, ⟨j, hj, e2⟩⟩ ⟨i, hi, e3⟩
  rw [e, e2, e3, ix_nI (by omega), ix_nI (by omega), ix_nI (by omega)] at hpost
  unfold pLeast at hpost
  rw [e, e2, e3, ix24, nI_clamp (show 24 + k < 2 ^ 31 by omega)]
  have hin : vp_in (nI (24 + k)) 176 := vp_in_nI (by omega) (by decide)
  have hback : ∀ w : Nat → Int32, (∀ x, x ≠ 24 + k → w x = now x) → upd w (24 + k) (now (24 + k)) = now := fun w hw => funext fun x => by
    rw [upd_get]
    by_cases z : x = 24 + k
    · rw [if_pos z, z]
    · rw [if_neg z, hw x z]
  refine ⟨hin, ?_⟩
  refine fx7_go (fun v5 v6 _ _ _ w _ => (∀ x, x ≠ 24 + k → w x = now x) ∧ ((v5 = -1 ∧ ∃ c, c ≤ 10 ∧ v6 = nI c ∧ ∀ x, x < c → ¬ pD (gW (aCall pl k x) mv allL i j) = true) ∨ (∃ c, c < 10 ∧ v5 = nI c ∧ (∃ y, y ≤ 10 ∧ v6 = nI y) ∧ v5 = rFst (fun c => pD (gW (aCall pl k c) mv allL i j)) 10))) (fun v5 v6 _ _ _ _ _ => 10 - v6.toNatClampNeg) ?_ _ _ _ _ _ _ _ ⟨fun _ _ => rfl, Or.inl ⟨rfl, 0, Nat.zero_le _, rfl, fun x hx => absurd hx (Nat.not_lt_zero _)⟩⟩
  rintro rec v5 v6 t li me w we ⟨hw, hI⟩ hrec
  unfold F_X6_leastCall_54
  have e10 : (10 : Int32) = nI 10 := rfl
  rcases hI with ⟨rfl, c, hc, rfl, hno⟩ | ⟨c, hc, e5, ⟨y, hy, rfl⟩, e6⟩
  · refine ⟨fun q => ⟨hin, ?_⟩, fun q => ⟨fun z => absurd rfl z, fun _ => ⟨?_, ?_⟩⟩⟩
    · rw [e10] at q
      have : 10 ≤ c := (nI_leI (by omega) (by omega)).mp q
      have e : c = 10 := by omega
      subst e
      rw [rFst_none hno] at hpost
      rw [hback w hw]
      exact hpost _ _ _ _
    · rw [ix24]; exact hin
    · have hc10 : c < 10 := by
        rw [e10] at q
        have : ¬ 10 ≤ c := fun y => q ((nI_leI (a := 10) (b := c) (by omega) (by omega)).mpr y)
        omega
      rw [ix24, nI_clamp (show 24 + k < 2 ^ 31 by omega)]
      have eupd : upd w (24 + k) (nI c) = upd now (24 + k) (nI c) := funext fun x => by
        rw [upd_get, upd_get]
        by_cases z : x = 24 + k
        · rw [if_pos z, if_pos z]
        · rw [if_neg z, if_neg z, hw x z]
      rw [eupd]
      have hg2 : gOk0 (aCall pl k c) mv := gOk0_set hg (gOk0_ow hg k).1 hc10
      have hw2 : ∀ x, x ≠ 24 + k → upd now (24 + k) (nI c) x = now x := fun x hx => pk_un hx
      have hlen : (aCall pl k c).length = pl.length := by unfold aCall; rw [List.length_set]
      refine x6_winner hg2 (rm_call hp hn hk) (RMv_upd hv (by omega) (by omega) (by omega)) (by rw [hlen]; exact hj) (fun o t2 li2 me2 we2 ho hwin hlose => ⟨fun q2 => ?_, fun q2 => ?_⟩)
      · refine hrec _ _ _ _ _ _ _ ⟨hw2, Or.inl ⟨rfl, c + 1, by omega, nI_1 c, fun x hx => ?_⟩⟩ (by rw [nI_1, nI_clamp (by omega), nI_clamp (by omega)]; omega)
        rcases Nat.lt_or_ge x c with y | y
        · exact hno x y
        · have ex : x = c := by omega
          subst ex
          have : i = 1 - o := by
            have : o ≠ i := fun y => q2 (by rw [y])
            omega
          rw [this]
          exact fun z => hlose (pD_t.mp z)
      · have eo : o = i := (nI_eq (by omega) (by omega)).mp q2
        subst eo
        exact hrec _ _ _ _ _ _ _ ⟨hw2, Or.inr ⟨c, hc10, rfl, ⟨c + 1, by omega, nI_1 c⟩, (rFst_hit (k := c) (pD_t.mpr hwin) hno hc10).symm⟩⟩ (by rw [nI_1, nI_clamp (by omega), nI_clamp (by omega)]; omega)
  · have hfin : vp_in (24 + nI k) 176 ∧ post v5 0 t li me (upd w (24 + k) (now (24 + k))) we := by
      rw [ix24]
      refine ⟨hin, ?_⟩
      rw [hback w hw, e6]
      exact hpost _ _ _ _
    rw [ix24] at hfin
    refine ⟨fun _ => hfin, fun _ => ⟨fun _ => hfin, fun z => ?_⟩⟩
    rw [e5] at z
    exact absurd z (nI_m1 (by omega))
