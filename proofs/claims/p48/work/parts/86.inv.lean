/-! the law's one state, and its pieces from it -/
theorem lg_self (x : Int64) : lg_cmp x x = 0 := by
  unfold lg_cmp
  simp
/-- the class's object shows a game, its history, its two saved games -/
def lawE (P : gm → List gm → (Nat → Option gm) → Prop) : lawT := fun il ol o2 bp ba places odd moves token made first kept inp isS outp zero zk ck y_reader_error y_reader_errorAt y_reader_length y_reader_kind y_reader_start y_reader_end y_reader_value y_reader_laid seenAt calling next owned calls fr heard to chosen y_reader_game_places y_reader_game_odd y_reader_game_moves y_reader_game_token y_reader_game_made sp so sm st sd rp ro rm rt rd y_reader_game_calls y_reader_game_from y_reader_game_heard y_reader_game_to sc sf sh se rc rf rh re => il = 0 ∧ ∃ g hs sv, P g hs sv ∧ gOk g ∧ RG g places odd moves token made calls fr heard to ∧ RZ g.1 g.2.1 zero zk ∧ RC g.1 g.2.1 chosen ck ∧ RHc hs first kept rp ro rm rt rd rc rf rh re ∧ RSc sv isS sp so sm st sd sc sf sh se
theorem two_n : ∀ n, n < 10 → (1 : Int32) <<< (nI n &&& 31) = nI (2 ^ n) ∧ 0 < 2 ^ n ∧ 2 ^ n < 1024 := by decide +kernel
theorem isS_lt {n x : Nat} (h : x < 2 ^ n) : isS n (nI x) := fun u hu => by
  rw [bt_nI, Bool.and_eq_true] at hu
  rcases Nat.lt_or_ge u n with q | q
  · exact q
  · rw [Nat.testBit_lt_two_pow (Nat.lt_of_lt_of_le h (Nat.pow_le_pow_right (by decide) q))] at hu
    exact absurd hu.2 (by decide)
theorem y_sgC {q n : Nat} {gb : gm} {s6 : Int64} (hq : q < 2) (hn : n = gb.1.length) (h6 : s6 = smV gb) (il : Int32) (ol : Int32) (o2 : (Nat → Int32)) (bp : Int32) (ba : Int32) (places : Int32) (odd : Int32) (moves : Int32) (token : Int32) (made : Int32) (first : Int32) (kept : Int32) (inp : (Nat → Int32)) (isS : (Nat → Int32)) (outp : (Nat → Int32)) (zero : Int32) (zk : Int32) (ck : Int32) (y_reader_error : Int32) (y_reader_errorAt : Int32) (y_reader_length : Int32) (y_reader_kind : Int32) (y_reader_start : Int32) (y_reader_end : Int32) (y_reader_value : Int32) (y_reader_laid : Int32) (seenAt : (Nat → Int32)) (calling : (Nat → Int32)) (next : (Nat → Int32)) (owned : (Nat → Int32)) (calls : (Nat → Int32)) (fr : (Nat → Int32)) (heard : (Nat → Int32)) (to : (Nat → Int32)) (chosen : (Nat → Int32)) (y_reader_game_places : Int32) (y_reader_game_odd : Int32) (y_reader_game_moves : Int32) (y_reader_game_token : Int32) (y_reader_game_made : Int32) (sp : (Nat → Int32)) (so : (Nat → Int32)) (sm : (Nat → Int32)) (st : (Nat → Int32)) (sd : (Nat → Int32)) (rp : (Nat → Int32)) (ro : (Nat → Int32)) (rm : (Nat → Int32)) (rt : (Nat → Int32)) (rd : (Nat → Int32)) (y_reader_game_calls : (Nat → Int32)) (y_reader_game_from : (Nat → Int32)) (y_reader_game_heard : (Nat → Int32)) (y_reader_game_to : (Nat → Int32)) (sc : (Nat → Nat → Int32)) (sf : (Nat → Nat → Int32)) (sh : (Nat → Nat → Int32)) (se : (Nat → Nat → Int32)) (rc : (Nat → Nat → Int32)) (rf : (Nat → Nat → Int32)) (rh : (Nat → Nat → Int32)) (re : (Nat → Nat → Int32))
    (h : lawE (fun _ _ sv => sv q = some gb) il ol o2 bp ba places odd moves token made first kept inp isS outp zero zk ck y_reader_error y_reader_errorAt y_reader_length y_reader_kind y_reader_start y_reader_end y_reader_value y_reader_laid seenAt calling next owned calls fr heard to chosen y_reader_game_places y_reader_game_odd y_reader_game_moves y_reader_game_token y_reader_game_made sp so sm st sd rp ro rm rt rd y_reader_game_calls y_reader_game_from y_reader_game_heard y_reader_game_to sc sf sh se rc rf rh re) : wp_sgC (nI q) (nI n) s6 il ol o2 bp ba places odd moves token made first kept inp isS outp zero zk ck y_reader_error y_reader_errorAt y_reader_length y_reader_kind y_reader_start y_reader_end y_reader_value y_reader_laid seenAt calling next owned calls fr heard to chosen y_reader_game_places y_reader_game_odd y_reader_game_moves y_reader_game_token y_reader_game_made sp so sm st sd rp ro rm rt rd y_reader_game_calls y_reader_game_from y_reader_game_heard y_reader_game_to sc sf sh se rc rf rh re (lawE (fun _ _ _ => True)) := by
  obtain ⟨hil, g, hs, sv, hP, hg, hr, hz, hc, hH, hS⟩ := h
  unfold wp_sgC
  refine next_ok (fun j o hj => ⟨fun _ => ⟨hil, g, hs, sv, trivial, hg, hr, hz, hc, hH, hS⟩, fun _ => ?_⟩)
  have eq : ix (nI q) = q := ix_nI (by omega)
  refine x5_restore hH hg hr hS (fun y => absurd ⟨q, hq, rfl⟩ y) (fun _ y => ?_) (fun g' p' o' m' t' d' c' r' h' e' f' k' qp qo qm qt qd qc qf qh qe _ es hg' hr' hH' => ?_)
  · rw [eq, hP] at y
    cases y
  · rw [eq, hP] at es
    cases es
    refine ⟨by rw [hn], ?_⟩
    refine y_sum hg' hr' (fun y => absurd rfl y) (fun b1 b2 z' k2 c1 n1 o1 hz' => ⟨by rw [h6]; exact lg_self _, hil, gb, _, sv, trivial, hg', hr', hz', fun y => absurd rfl y, hH', hS⟩)
theorem y_sgS {q n : Nat} {pl mv : List (Nat × Nat)} {tok : Nat} (hq : q < 2) (hn : n = pl.length) (hpl : gmPl pl) (h1 : 0 < pl.length) (h9 : pl.length ≤ 9) (hmv : gmMv pl.length pl.length mv) (htok : tok < pl.length) {tn : Nat} {tf : Nat → Int32} (htn : tn = ((gmT pl mv ++ wT 8) ++ [48 + tok]).length)
    (htf : ∀ j, j < tn → tf j = nI (((gmT pl mv ++ wT 8) ++ [48 + tok]).getD j 0)) (il : Int32) (ol : Int32) (o2 : (Nat → Int32)) (bp : Int32) (ba : Int32) (places : Int32) (odd : Int32) (moves : Int32) (token : Int32) (made : Int32) (first : Int32) (kept : Int32) (inp : (Nat → Int32)) (isS : (Nat → Int32)) (outp : (Nat → Int32)) (zero : Int32) (zk : Int32) (ck : Int32) (y_reader_error : Int32) (y_reader_errorAt : Int32) (y_reader_length : Int32) (y_reader_kind : Int32) (y_reader_start : Int32) (y_reader_end : Int32) (y_reader_value : Int32) (y_reader_laid : Int32) (seenAt : (Nat → Int32)) (calling : (Nat → Int32)) (next : (Nat → Int32)) (owned : (Nat → Int32)) (calls : (Nat → Int32)) (fr : (Nat → Int32)) (heard : (Nat → Int32)) (to : (Nat → Int32)) (chosen : (Nat → Int32)) (y_reader_game_places : Int32) (y_reader_game_odd : Int32) (y_reader_game_moves : Int32) (y_reader_game_token : Int32) (y_reader_game_made : Int32) (sp : (Nat → Int32)) (so : (Nat → Int32)) (sm : (Nat → Int32)) (st : (Nat → Int32)) (sd : (Nat → Int32)) (rp : (Nat → Int32)) (ro : (Nat → Int32)) (rm : (Nat → Int32)) (rt : (Nat → Int32)) (rd : (Nat → Int32)) (y_reader_game_calls : (Nat → Int32)) (y_reader_game_from : (Nat → Int32)) (y_reader_game_heard : (Nat → Int32)) (y_reader_game_to : (Nat → Int32)) (sc : (Nat → Nat → Int32)) (sf : (Nat → Nat → Int32)) (sh : (Nat → Nat → Int32)) (se : (Nat → Nat → Int32)) (rc : (Nat → Nat → Int32)) (rf : (Nat → Nat → Int32)) (rh : (Nat → Nat → Int32)) (re : (Nat → Nat → Int32))
    (h : lawE (fun _ _ _ => True) il ol o2 bp ba places odd moves token made first kept inp isS outp zero zk ck y_reader_error y_reader_errorAt y_reader_length y_reader_kind y_reader_start y_reader_end y_reader_value y_reader_laid seenAt calling next owned calls fr heard to chosen y_reader_game_places y_reader_game_odd y_reader_game_moves y_reader_game_token y_reader_game_made sp so sm st sd rp ro rm rt rd y_reader_game_calls y_reader_game_from y_reader_game_heard y_reader_game_to sc sf sh se rc rf rh re) : wp_sgS (nI q) (nI n) tn tf il ol o2 bp ba places odd moves token made first kept inp isS outp zero zk ck y_reader_error y_reader_errorAt y_reader_length y_reader_kind y_reader_start y_reader_end y_reader_value y_reader_laid seenAt calling next owned calls fr heard to chosen y_reader_game_places y_reader_game_odd y_reader_game_moves y_reader_game_token y_reader_game_made sp so sm st sd rp ro rm rt rd y_reader_game_calls y_reader_game_from y_reader_game_heard y_reader_game_to sc sf sh se rc rf rh re (fun r => lawE (fun g hs sv => g.1.length = n ∧ g.2.1.length ≤ 27 + 0 ∧ ∃ gb, sv q = some gb ∧ gb.1.length = n ∧ r = smV gb)) := by
  obtain ⟨hil, g, hs, sv, hP, hg, hr, hz, hc, hH, hS⟩ := h
  subst hil htn hn
  unfold wp_sgS
  refine y_load hpl h1 h9 hmv htok htf (fun p q2 m tk md inp isS rl rk rs re rv ra c fr hd to rp ro rm rt rd rc rf rh rto hg' hr' hs' => ⟨rfl, ?_⟩)
  have eq : ix (nI q) = q := ix_nI (by omega)
  have hm3 := hmv.2.2
  have hS0 : RSc (fun _ => none) isS sp so sm st sd sc sf sh se := fun s hs2 => ⟨fun _ => hs' s hs2, fun g y => by cases y⟩
  refine x5_save hg' hr' hS0 (fun y => absurd ⟨q, hq, rfl⟩ y) (fun i' qp qo qm qt qd qc qf qh qe _ hS' => ?_)
  rw [eq] at hS' ⊢
  refine ⟨?_, ?_⟩
  · rcases (show q = 0 ∨ q = 1 by omega) with rfl | rfl <;> rfl
  refine y_sum hg' hr' (fun y => absurd rfl y) (fun b1 b2 z' k2 c1 n1 o1 hz' => ?_)
  exact ⟨rfl, _, [], _, ⟨rfl, (by show mv.length ≤ 27 + 0; omega), _, (if_pos rfl), rfl, rfl⟩, hg', hr', hz', fun y => absurd rfl y, ⟨⟨0, by decide, rfl, rfl, fun j q y => by cases y⟩, Nat.zero_le _, fun q y => absurd y List.not_mem_nil⟩, hS'⟩
theorem y_sgB {n u : Nat} (hu : u < 7) (hn1 : 0 < n) (hn9 : n ≤ 9) {SV : (Nat → Option gm) → Prop} (il : Int32) (ol : Int32) (o2 : (Nat → Int32)) (bp : Int32) (ba : Int32) (places : Int32) (odd : Int32) (moves : Int32) (token : Int32) (made : Int32) (first : Int32) (kept : Int32) (inp : (Nat → Int32)) (isS : (Nat → Int32)) (outp : (Nat → Int32)) (zero : Int32) (zk : Int32) (ck : Int32) (y_reader_error : Int32) (y_reader_errorAt : Int32) (y_reader_length : Int32) (y_reader_kind : Int32) (y_reader_start : Int32) (y_reader_end : Int32) (y_reader_value : Int32) (y_reader_laid : Int32) (seenAt : (Nat → Int32)) (calling : (Nat → Int32)) (next : (Nat → Int32)) (owned : (Nat → Int32)) (calls : (Nat → Int32)) (fr : (Nat → Int32)) (heard : (Nat → Int32)) (to : (Nat → Int32)) (chosen : (Nat → Int32)) (y_reader_game_places : Int32) (y_reader_game_odd : Int32) (y_reader_game_moves : Int32) (y_reader_game_token : Int32) (y_reader_game_made : Int32) (sp : (Nat → Int32)) (so : (Nat → Int32)) (sm : (Nat → Int32)) (st : (Nat → Int32)) (sd : (Nat → Int32)) (rp : (Nat → Int32)) (ro : (Nat → Int32)) (rm : (Nat → Int32)) (rt : (Nat → Int32)) (rd : (Nat → Int32)) (y_reader_game_calls : (Nat → Int32)) (y_reader_game_from : (Nat → Int32)) (y_reader_game_heard : (Nat → Int32)) (y_reader_game_to : (Nat → Int32)) (sc : (Nat → Nat → Int32)) (sf : (Nat → Nat → Int32)) (sh : (Nat → Nat → Int32)) (se : (Nat → Nat → Int32)) (rc : (Nat → Nat → Int32)) (rf : (Nat → Nat → Int32)) (rh : (Nat → Nat → Int32)) (re : (Nat → Nat → Int32))
    (h : lawE (fun g _ sv => g.1.length = n ∧ g.2.1.length ≤ 27 + u ∧ SV sv) il ol o2 bp ba places odd moves token made first kept inp isS outp zero zk ck y_reader_error y_reader_errorAt y_reader_length y_reader_kind y_reader_start y_reader_end y_reader_value y_reader_laid seenAt calling next owned calls fr heard to chosen y_reader_game_places y_reader_game_odd y_reader_game_moves y_reader_game_token y_reader_game_made sp so sm st sd rp ro rm rt rd y_reader_game_calls y_reader_game_from y_reader_game_heard y_reader_game_to sc sf sh se rc rf rh re) : wp_sgB (nI n) il ol o2 bp ba places odd moves token made first kept inp isS outp zero zk ck y_reader_error y_reader_errorAt y_reader_length y_reader_kind y_reader_start y_reader_end y_reader_value y_reader_laid seenAt calling next owned calls fr heard to chosen y_reader_game_places y_reader_game_odd y_reader_game_moves y_reader_game_token y_reader_game_made sp so sm st sd rp ro rm rt rd y_reader_game_calls y_reader_game_from y_reader_game_heard y_reader_game_to sc sf sh se rc rf rh re (lawE (fun g _ sv => g.1.length = n ∧ g.2.1.length ≤ 27 + (u + 1) ∧ SV sv)) := by
  obtain ⟨hil, g, hs, sv, ⟨hn, hm, hSV⟩, hg, hr, hz, hc, hH, hS⟩ := h
  have hg0 := hg.1
  obtain ⟨hp, hv, ht⟩ := hr
  have hr : RG g places odd moves token made calls fr heard to := ⟨hp, hv, ht⟩
  obtain ⟨e2, e2p, e2l⟩ := two_n n (by omega)
  unfold wp_sgB
  refine y_sum hg hr hz (fun b1 b2 z' k' c1 n1 w1 hz => ?_)
  refine y_refusesSet hg0 hp hv (fun y => ?_) ⟨by decide, ?_⟩
  · obtain ⟨k, hk, e⟩ := y.1
    have := (nI_eq (a := 2) (by omega) (by omega)).mp e
    omega
  refine y_refusesSet hg0 hp hv (fun y => ?_) ⟨by decide, ?_⟩
  · have := y.2 n (by rw [b_one (by omega)]; exact decide_eq_true rfl)
    omega
  refine y_refusesSet hg0 hp hv (fun y => ?_) ⟨by decide, ?_⟩
  · have := y.2 31 (b_m1 31 (by decide))
    omega
  refine y_refusesCall hH hg hr (Or.inl ⟨fun ⟨k, hk, e⟩ => nI_m1 (k := k) (by omega) e.symm, by decide⟩) ⟨by decide, ?_⟩
  refine y_refusesCall hH hg hr (Or.inr ⟨⟨0, by omega, rfl⟩, fun ⟨k, hk, e⟩ => ?_, by decide⟩) ⟨by decide, ?_⟩
  · have := (nI_eq (a := 10) (by omega) (by omega)).mp e
    omega
  refine y_size (w := 1) hg hr (by decide) (fun b1 b2 c1 n1 w1 => ?_)
  rw [sz_1]
  have nN : ∀ {m : Nat}, m < 1000 → ¬ isN m (nI m) := fun {m} hm ⟨k, hk, e⟩ => by
    have := (nI_eq (by omega) (by omega)).mp e
    omega
  refine y_gone hH hg hr (fun _ => ⟨rfl, ?_⟩) (fun y => absurd y (nN (by omega))) (fun _ _ _ _ _ _ _ _ _ _ _ _ _ _ y => absurd y (nN (by omega)))
  refine y_led hH hg hr (fun _ => ⟨rfl, ?_⟩) (fun y => absurd (hn ▸ y.2) (nN (by omega))) (fun y => absurd (hn ▸ y.2) (nN (by omega))) (fun _ _ _ _ _ _ _ _ _ _ _ _ _ _ y => absurd (hn ▸ y.2) (nN (by omega)))
  refine y_sum hg hr hz (fun b1 b2 z' k' c1 n1 w1 hz => ⟨lg_self _, ?_⟩)
  refine y_act hg hr hz hc hH (by omega) (fun o2' b1 b2 o' m' t' d' f' k' z' zk' ck' c1 n1 w1 c' r' h' e' ch' qp qo qm qt qd qc qf qh qe g' hg' hn' hm' hr' hz' hc' hH' => ⟨by decide, ?_⟩)
  refine y_wins hg' hr' hz' hc' (fun b1 b2 z' k' ck' sn c1 n1 w1 ch hz' hc' => ⟨by decide, ?_⟩)
  refine next_ok (fun j o hj => ⟨by rw [e2]; exact nI_ne0 (by omega) (by omega), ?_⟩)
  rw [e2, pk_rem (by omega) e2p (by omega)]
  refine y_sets (by rw [hn', hn]; exact isS_lt (Nat.mod_lt _ e2p)) hg' hr' hz' (fun b1 b2 z' k' c1 n1 w1 hz' => ⟨by decide, ?_⟩)
  refine next_ok (fun j2 o2 hj2 => ⟨fun _ => ⟨hil, g', _, sv, ⟨hn'.trans hn, by omega, hSV⟩, hg', hr', hz', hc', hH', hS⟩, fun _ => ?_⟩)
  refine y_undone hH' (fun hs' g2 p2 o2 m2 t2 d2 k2 c2 r2 h2 e2' eH hr2 hH2 => ⟨nI_pos ?_, ?_⟩) ?_
  · have h10 := hH2.2.1
    omega
  · have eg : g2 = g := by
      have := congrArg List.getLast? eH
      unfold hPush at this
      rw [List.getLast?_append, List.getLast?_append] at this
      exact (Option.some.inj this).symm
    subst eg
    refine y_sum hg hr2 (fun y => absurd rfl y) (fun b1 b2 z' k' c1 n1 w1 hz' => ⟨lg_self _, hil, g2, hs', sv, ⟨hn, by omega, hSV⟩, hg, hr2, hz', fun y => absurd rfl y, hH2, hS⟩)
  · unfold hPush
    exact fun y => by
      have := congrArg List.length y
      rw [List.length_append, List.length_singleton] at this
      exact absurd this (Nat.succ_ne_zero _)
