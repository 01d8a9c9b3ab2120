/-! the reference's changes, call by call -/
def RSm (sv : Nat → Option gm) (set : Int32) (saved : Nat → Int32) : Prop :=
  (∀ s, bt set s = true ↔ s < 2 ∧ ¬ sv s = none) ∧ ∀ s g, s < 2 → sv s = some g → gOk g ∧ RM g (fun k => saved (s * 176 + k))
theorem i_one0 (x : Int32) {i : Nat} (hi : i < 2) : (x >>> (nI i &&& 31)) &&& (1 : Int32) = if bt x i = true then 1 else 0 := b_ext (fun j hj => by
  rw [b_and, b_sshr i (by omega) x hj]
  have h1 : ∀ j, j < 32 → bt 1 j = decide (j = 0) := by decide +kernel
  rw [h1 j hj]
  by_cases z : j = 0
  · subst z
    rw [if_pos (by omega), Nat.add_zero, decide_eq_true rfl, Bool.and_true]
    cases hb : bt x i
    · rfl
    · rfl
  · rw [decide_eq_false z, Bool.and_false]
    cases hb : bt x i
    · rw [if_neg (by decide), b_0]
    · rw [if_pos rfl, h1 j hj, decide_eq_false z])
/-- the two lowest bits of a number without others -/
theorem i_two {x : Int32} (h : ∀ s, bt x s = true → s < 2) : (x &&& 1) + (x >>> ((1 : Int32) &&& 31)) = nI ((if bt x 0 = true then 1 else 0) + (if bt x 1 = true then 1 else 0)) := by
  have h1 : ∀ j, j < 32 → bt 1 j = decide (j = 0) := by decide +kernel
  have e0 : x &&& 1 = if bt x 0 = true then 1 else 0 := b_ext (fun j hj => by
    rw [b_and, h1 j hj]
    by_cases z : j = 0
    · subst z
      rw [decide_eq_true rfl, Bool.and_true]
      cases hb : bt x 0
      · rfl
      · rfl
    · rw [decide_eq_false z, Bool.and_false]
      cases hb : bt x 0
      · rw [if_neg (by decide), b_0]
      · rw [if_pos rfl, h1 j hj, decide_eq_false z])
  have e1 : x >>> ((1 : Int32) &&& 31) = if bt x 1 = true then 1 else 0 := b_ext (fun j hj => by
    have q := b_sshr 1 (by decide) x hj
    have q : bt (x >>> ((1 : Int32) &&& 31)) j = if 1 + j < 32 then bt x (1 + j) else bt x 31 := q
    rw [q]
    by_cases z : j = 0
    · subst z
      rw [if_pos (by decide)]
      cases hb : bt x 1
      · rfl
      · rfl
    · have n1 : bt x (1 + j) = false := by
        cases hb : bt x (1 + j)
        · rfl
        · have := h _ hb; omega
      have n2 : bt x 31 = false := by
        cases hb : bt x 31
        · rfl
        · have := h _ hb; omega
      rw [n1, n2]
      cases hb : bt x 1
      · rw [if_neg (by decide : ¬ false = true), b_0]
        split <;> rfl
      · rw [if_pos rfl, h1 j hj, decide_eq_false z]
        split <;> rfl)
  rw [e0, e1]
  cases bt x 0 <;> cases bt x 1 <;> rfl
section CHG6
variable {hs : List gm} {g : gm} {sv : Nat → Option gm} {a b many set t0 : Int32} {now old saved live measure weight planned : Nat → Int32}
  {post : Int32 → Int32 → Int32 → (Nat → Int32) → (Nat → Int32) → Prop}
theorem x6_addPlace (hH : RHm hs many old) (hg : gOk g) (hr : RM g now)
    (h1 : ¬ (isN 2 a ∧ isN 10 b) → post 0 1 many now old) (h2 : isN 2 a ∧ isN 10 b → ¬ g.1.length < 20 → post 0 2 many now old)
    (h : ∀ m' n' o', isN 2 a ∧ isN 10 b → g.1.length < 20 → RM (gAddPlace g (ix a) (ix b)) n' → RHm (hPush hs g) m' o' → post (nI g.1.length) 0 m' n' o') : wp_X6_addPlace a b many now old post := by
  have hr0 := hr
  have hn := hg.1.1
  have hm := hg.1.2.1
  obtain ⟨hp, hv, ht⟩ := hr
  unfold wp_X6_addPlace wp_X6_refuse wp_X6_told
  refine n6_in (n := 2) (by decide) (fun q => n6_no' (h1 (fun z => q z.1))) (fun ha => n6_ye' (n6_in (n := 10) (by decide) (fun q => n6_no (h1 (fun z => q z.2))) (fun hb => n6_ye ?_)))
  have e20 : now 0 = (20 : Int32) ↔ g.1.length = 20 := by rw [hp.1]; exact nI_eq (b := 20) (by omega) (by decide)
  refine ⟨fun q => ?_, fun q => h2 ⟨ha, hb⟩ (by have := e20.mp q; omega)⟩
  have hlt : g.1.length < 20 := by
    have : ¬ g.1.length = 20 := fun y => q (e20.mpr y)
    omega
  have hpost := fun m' n' o' => h m' n' o' ⟨ha, hb⟩ hlt
  obtain ⟨i, hi, e⟩ := ha
  obtain ⟨j, hj, e2⟩ := hb
  rw [e, e2, ix_nI (by omega), ix_nI (by omega)] at hpost
  rw [e, e2]
  refine x6_remembers hH hg hr0 (fun m' o' hH' => x6_joins hlt hp (fun n' hp' hf => ?_))
  have e3 : n' 0 - 1 = nI g.1.length := by rw [hp'.1, List.length_append, List.length_singleton]; exact i_sub1
  rw [e3]
  have hv' : RMv g.2.1 n' := RMv_of (by omega) hv (hf 1 (by decide) (by omega)) (fun x y z => hf x (by omega) (by omega))
  exact hpost m' n' o' ⟨hp', hv', RMt_of ht (hf 2 (by decide) (by omega)) (hf 3 (by decide) (by omega)) (fun x y z => hf x (by omega) (by omega))⟩ hH'
theorem x6_removePlace (hH : RHm hs many old) (hg : gOk g) (hr : RM g now)
    (h1 : ¬ isN g.1.length a → post 0 1 many now old) (h2 : isN g.1.length a → g.1.length = 1 → post 0 2 many now old)
    (h : ∀ m' n' o', isN g.1.length a → ¬ g.1.length = 1 → RM (gRemPlace g (ix a)) n' → RHm (hPush hs g) m' o' → post (nI g.2.1.length - nI (gRemPlace g (ix a)).2.1.length) 0 m' n' o') : wp_X6_removePlace a many now old post := by
  have hr0 := hr
  have hg0 := hg.1
  have hn := hg.1.1
  have hm := hg.1.2.1
  obtain ⟨hp, hv, ht⟩ := hr
  unfold wp_X6_removePlace wp_X6_refuse wp_X6_told
  refine n6_place hp hn (fun q => n6_no (h1 q)) (fun ha => n6_ye ?_)
  have e1 : now 0 = (1 : Int32) ↔ g.1.length = 1 := by rw [hp.1]; exact nI_eq (b := 1) (by omega) (by decide)
  refine ⟨fun q => ?_, fun q => h2 ha (e1.mp q)⟩
  have hne : ¬ g.1.length = 1 := fun y => q (e1.mpr y)
  have hpost := fun m' n' o' => h m' n' o' ha hne
  obtain ⟨i, hi, e⟩ := ha
  rw [e, ix_nI (by omega)] at hpost
  rw [e]
  have hgR := gOk_remPlace hg hne hi
  have hlF : (g.2.1.filter (keepP i)).length ≤ 60 := Nat.le_trans (List.length_filter_le _ _) hm
  have hs1 : ∀ k, k < (g.2.1.filter (keepP i)).length → lA (g.2.1.filter (keepP i)) k < 1000 ∧ lB (g.2.1.filter (keepP i)) k < 1000 := fun k hk => by
    have h9 := (List.mem_filter.mp (lAt hk)).1
    have := hg0.2.2.2.1 _ h9
    unfold lA lB
    omega
  refine x6_remembers hH hg hr0 (fun m' o' hH' => ?_)
  have e1 : now 1 - 1 = nI g.2.1.length - 1 := by rw [hv.1]
  rw [e1]
  refine rem_moves hv hm (mv_small hg0) (by omega) (fun v n1 hv1 hf1 => ?_)
  refine rem_decr hv1 hlF hs1 (by omega) (fun v2 n2 hv2 hf2 => ?_)
  have hp2 : RMp g.1 n2 := RMp_of hn (RMp_of hn hp (hf1 0 (by decide) (by omega)) (fun x y z => hf1 x (by omega) (by omega))) (hf2 0 (by omega)) (fun x y z => hf2 x (by omega))
  refine rem_places hp2 hn hi (fun v3 n3 hp3 hf3 => ?_)
  have hv3 : RMv ((g.2.1.filter (keepP i)).map (dcP i)) n3 := RMv_of (by rw [List.length_map]; omega) hv2 (hf3 1 (by decide) (by omega)) (fun x y z => hf3 x (by omega) (by omega))
  have hlen0 : 0 < (g.1.eraseIdx i).length := hgR.2.1
  refine x6_lays (p := 0) hgR.1.1 hp3 (gOk0_ow hgR.1 0).2 hlen0 (fun n4 ht4 hf4 => ?_)
  have e3 : now 1 - n4 1 = nI g.2.1.length - nI (gRemPlace g i).2.1.length := by
    rw [hf4 1 (by decide) (by decide) (by decide), hv3.1, hv.1]
    rfl
  rw [e3]
  have hv4 : RMv ((g.2.1.filter (keepP i)).map (dcP i)) n4 := RMv_of (by rw [List.length_map]; omega) hv3 (hf4 1 (by decide) (by decide) (by decide)) (fun x y z => hf4 x (by omega) (by omega) (by omega))
  exact hpost m' n4 o' ⟨RMp_of hgR.1.1 hp3 (hf4 0 (by decide) (by decide) (by decide)) (fun x y z => hf4 x (by omega) (by omega) (by omega)), hv4, ht4⟩ hH'
theorem x6_setOwner (hH : RHm hs many old) (hg : gOk g) (hr : RM g now)
    (h1 : ¬ isN g.1.length a → post 0 1 many now old) (h2 : isN g.1.length a → ¬ isN 2 b → post 0 2 many now old)
    (h : ∀ m' n' o', isN g.1.length a → isN 2 b → RM (gSetOwner g (ix a) (ix b)) n' → RHm (hPush hs g) m' o' → post (nI (lA g.1 (ix a))) 0 m' n' o') : wp_X6_setOwner a b many now old post := by
  have hr0 := hr
  have hn := hg.1.1
  have hm := hg.1.2.1
  obtain ⟨hp, hv, ht⟩ := hr
  unfold wp_X6_setOwner wp_X6_refuse wp_X6_sets wp_X6_told
  refine n6_place hp hn (fun q => n6_no (h1 q)) (fun ha => n6_ye (n6_in (n := 2) (by decide) (fun q => n6_no (h2 ha q)) (fun hb => n6_ye ?_)))
  have hpost := fun m' n' o' => h m' n' o' ha hb
  obtain ⟨i, hi, e⟩ := ha
  obtain ⟨j, hj, e2⟩ := hb
  rw [e, e2, ix_nI (by omega), ix_nI (by omega)] at hpost
  rw [e, e2, ix4, nI_clamp (show 4 + i < 2 ^ 31 by omega), (hp.2 i hi).1]
  exact x6_remembers hH hg hr0 (fun m' o' hH' => ⟨vp_in_nI (by omega) (by decide), vp_in_nI (by omega) (by decide), hpost _ _ _ ⟨rm_owner hp hn hi, RMv_upd (mv := g.2.1) hv (by omega) (by omega) (by omega), RMt_upd ht (by omega) (by omega) (by omega)⟩ hH'⟩)
theorem x6_setCall (hH : RHm hs many old) (hg : gOk g) (hr : RM g now)
    (h1 : ¬ isN g.1.length a → post 0 1 many now old) (h2 : isN g.1.length a → ¬ isN 10 b → post 0 2 many now old)
    (h : ∀ m' n' o', isN g.1.length a → isN 10 b → RM (gSetCall g (ix a) (ix b)) n' → RHm (hPush hs g) m' o' → post (nI (lB g.1 (ix a))) 0 m' n' o') : wp_X6_setCall a b many now old post := by
  have hr0 := hr
  have hn := hg.1.1
  have hm := hg.1.2.1
  obtain ⟨hp, hv, ht⟩ := hr
  unfold wp_X6_setCall wp_X6_refuse wp_X6_sets wp_X6_told
  refine n6_place hp hn (fun q => n6_no (h1 q)) (fun ha => n6_ye (n6_in (n := 10) (by decide) (fun q => n6_no (h2 ha q)) (fun hb => n6_ye ?_)))
  have hpost := fun m' n' o' => h m' n' o' ha hb
  obtain ⟨i, hi, e⟩ := ha
  obtain ⟨j, hj, e2⟩ := hb
  rw [e, e2, ix_nI (by omega), ix_nI (by omega)] at hpost
  rw [e, e2, ix24, nI_clamp (show 24 + i < 2 ^ 31 by omega), (hp.2 i hi).2]
  exact x6_remembers hH hg hr0 (fun m' o' hH' => ⟨vp_in_nI (by omega) (by decide), vp_in_nI (by omega) (by decide), hpost _ _ _ ⟨rm_call hp hn hi, RMv_upd (mv := g.2.1) hv (by omega) (by omega) (by omega), RMt_upd ht (by omega) (by omega) (by omega)⟩ hH'⟩)
theorem x6_addMove (hH : RHm hs many old) (hg : gOk g) (hr : RM g now)
    (h1 : ¬ (isN g.1.length a ∧ isN g.1.length b) → post 0 1 many now old)
    (h2 : isN g.1.length a ∧ isN g.1.length b → gEd g.2.1 (ix a) (ix b) → post 0 2 many now old)
    (h3 : isN g.1.length a ∧ isN g.1.length b → ¬ gEd g.2.1 (ix a) (ix b) → ¬ g.2.1.length < 60 → post 0 3 many now old)
    (h : ∀ m' n' o', isN g.1.length a ∧ isN g.1.length b → ¬ gEd g.2.1 (ix a) (ix b) → g.2.1.length < 60 → RM (gAddMove g (ix a) (ix b)) n' → RHm (hPush hs g) m' o' → post (nI g.2.1.length) 0 m' n' o') : wp_X6_addMove a b many now old post := by
  have hr0 := hr
  have hg0 := hg.1
  have hn := hg.1.1
  have hm := hg.1.2.1
  obtain ⟨hp, hv, ht⟩ := hr
  unfold wp_X6_addMove wp_X6_refuse wp_X6_told
  refine n6_place hp hn (fun q => n6_no' (h1 (fun z => q z.1))) (fun ha => n6_ye' (n6_place hp hn (fun q => n6_no (h1 (fun z => q z.2))) (fun hb => n6_ye ?_)))
  have h2 := h2 ⟨ha, hb⟩
  have h3 := h3 ⟨ha, hb⟩
  have hpost := fun m' n' o' => h m' n' o' ⟨ha, hb⟩
  obtain ⟨i, hi, e⟩ := ha
  obtain ⟨j, hj, e2⟩ := hb
  rw [e, e2, ix_nI (by omega), ix_nI (by omega)] at hpost h2 h3
  rw [e, e2]
  have e60 : now 1 = (60 : Int32) ↔ g.2.1.length = 60 := by rw [hv.1]; exact nI_eq (b := 60) (by omega) (by decide)
  obtain ⟨k1, k2⟩ := fst_ed (mv := g.2.1) (i := i) (j := j) hm
  refine x6_between hv hm (mv_small hg0) (by omega) (by omega) ⟨fun q => ⟨fun q2 => ?_, fun q2 => h3 (k1 q) (by have := e60.mp q2; omega)⟩, fun q => h2 (k2 q)⟩
  have hlt : g.2.1.length < 60 := by
    have : ¬ g.2.1.length = 60 := fun y => q2 (e60.mpr y)
    omega
  refine x6_remembers hH hg hr0 (fun m' o' hH' => x6_leads (a := i) (b := j) hm hv (fun n' hv' hf => ?_))
  have e3 : n' 1 - 1 = nI g.2.1.length := by rw [hv'.1, List.length_append, List.length_singleton]; exact i_sub1
  rw [e3]
  exact hpost m' n' o' (k1 q) hlt ⟨RMp_of hn hp (hf 0 (by decide) (by omega)) (fun x y z => hf x (by omega) (by omega)), hv', RMt_of ht (hf 2 (by decide) (by omega)) (hf 3 (by decide) (by omega)) (fun x y z => hf x (by omega) (by omega))⟩ hH'
theorem x6_removeMove (hH : RHm hs many old) (hg : gOk g) (hr : RM g now)
    (h1 : ¬ isN g.2.1.length a → post 0 1 many now old)
    (h : ∀ m' n' o', isN g.2.1.length a → RM (gRemMove g (ix a)) n' → RHm (hPush hs g) m' o' → post (nI (gRemMove g (ix a)).2.1.length) 0 m' n' o') : wp_X6_removeMove a many now old post := by
  have hr0 := hr
  have hn := hg.1.1
  have hm := hg.1.2.1
  obtain ⟨hp, hv, ht⟩ := hr
  unfold wp_X6_removeMove wp_X6_refuse wp_X6_told
  refine n6_move hv hm (fun q => n6_no (h1 q)) (fun ha => n6_ye ?_)
  have hpost := fun m' n' o' => h m' n' o' ha
  obtain ⟨i, hi, e⟩ := ha
  rw [e, ix_nI (by omega)] at hpost
  rw [e]
  refine x6_remembers hH hg hr0 (fun m' o' hH' => x6_drops hv hm hi (fun n' hv' hf => ?_))
  have := hpost m' n' o' ⟨RMp_of hn hp (hf 0 (by decide) (by omega)) (fun x y z => hf x (by omega) (by omega)), hv', RMt_of ht (hf 2 (by decide) (by omega)) (hf 3 (by decide) (by omega)) (fun x y z => hf x (by omega) (by omega))⟩ hH'
  have e3 : n' 1 = nI (gRemMove g i).2.1.length := hv'.1
  rw [e3]
  exact this
theorem x6_preferMove (hH : RHm hs many old) (hg : gOk g) (hr : RM g now)
    (h1 : ¬ isN g.2.1.length a → post 0 1 many now old)
    (h : ∀ m' n' o', isN g.2.1.length a → RM (gPref g (ix a)) n' → RHm (hPush hs g) m' o' → post (nI (lA g.2.1 (ix a))) 0 m' n' o') : wp_X6_preferMove a many now old post := by
  have hr0 := hr
  have hn := hg.1.1
  have hm := hg.1.2.1
  obtain ⟨hp, hv, ht⟩ := hr
  unfold wp_X6_preferMove wp_X6_refuse wp_X6_told
  refine n6_move hv hm (fun q => n6_no (h1 q)) (fun ha => n6_ye ?_)
  have hpost := fun m' n' o' => h m' n' o' ha
  obtain ⟨i, hi, e⟩ := ha
  rw [e, ix_nI (by omega)] at hpost
  rw [e, ix44, ix105, nI_clamp (show 44 + i < 2 ^ 31 by omega), nI_clamp (show 105 + i < 2 ^ 31 by omega), (hv.2 i hi).1, (hv.2 i hi).2]
  refine x6_remembers hH hg hr0 (fun m' o' hH' => ⟨vp_in_nI (by omega) (by decide), vp_in_nI (by omega) (by decide), pref_ok hv hm hi (fun v n' hv' hf => ?_)⟩)
  have e1 : ∀ x, x < 44 ∨ 166 ≤ x → upd (upd n' 44 (nI (lA g.2.1 i))) 105 (nI (lB g.2.1 i)) x = now x := fun x hx => by
    rw [pk_un (by omega), pk_un (by omega)]
    exact hf x hx
  exact hpost m' _ o' ⟨RMp_of hn hp (e1 0 (by omega)) (fun x y z => e1 x (by omega)), hv', RMt_of ht (e1 2 (by omega)) (e1 3 (by omega)) (fun x y z => e1 x (by omega))⟩ hH'
theorem x6_exchange (hH : RHm hs many old) (hg : gOk g) (hr : RM g now)
    (h1 : ¬ pMax (lB g.1) g.1.length < 9 → post 0 1 many now old)
    (h : ∀ m' n' o', pMax (lB g.1) g.1.length < 9 → RM (gExch g) n' → RHm (hPush hs g) m' o' → post (nI (pMax (lB (gExch g).1) (gExch g).1.length)) 0 m' n' o') : wp_X6_exchange many now old post := by
  have hr0 := hr
  have hn := hg.1.1
  have hm := hg.1.2.1
  obtain ⟨hp, hv, ht⟩ := hr
  unfold wp_X6_exchange wp_X6_refuse wp_X6_told
  refine x6_greatestCall hp hn (fun u => by have := (gOk_pl hg u).2; omega) ?_
  have hmx : pMax (lB g.1) g.1.length ≤ 9 := pMax_le _ (fun j _ => by have := (gOk_pl hg j).2; omega)
  have e9 : nI (pMax (lB g.1) g.1.length) = (9 : Int32) ↔ pMax (lB g.1) g.1.length = 9 := nI_eq (b := 9) (by omega) (by decide)
  refine ⟨fun q => ?_, fun q => h1 (by have := e9.mp q; omega)⟩
  have hlt : pMax (lB g.1) g.1.length < 9 := by
    have : ¬ pMax (lB g.1) g.1.length = 9 := fun y => q (e9.mpr y)
    omega
  have hgE := gOk_exch hg hlt
  refine x6_remembers hH hg hr0 (fun m' o' hH' => exch_ok hp hn (fun u => (gOk_pl hg u).1) (fun v n1 hp1 hf1 => ?_))
  have hlen0 : 0 < (g.1.map exP).length := hgE.2.1
  refine x6_lays (p := 0) hgE.1.1 hp1 (gOk0_ow hgE.1 0).2 hlen0 (fun n2 ht2 hf2 => ?_)
  have hp2 : RMp (g.1.map exP) n2 := RMp_of hgE.1.1 hp1 (hf2 0 (by decide) (by decide) (by decide)) (fun x y z => hf2 x (by omega) (by omega) (by omega))
  have hv2 : RMv g.2.1 n2 := RMv_of (by omega) (RMv_of (by omega) hv (hf1 1 (by omega)) (fun x y z => hf1 x (by omega))) (hf2 1 (by decide) (by decide) (by decide)) (fun x y z => hf2 x (by omega) (by omega) (by omega))
  exact x6_greatestCall hp2 hgE.1.1 (fun u => by have := (gOk0_ow hgE.1 u).2; show lB (gExch g).1 u < 1000; omega) (h m' n2 o' hlt ⟨hp2, hv2, ht2⟩ hH')
theorem x6_lay {postL : Int32 → Int32 → Int32 → Int32 → (Nat → Int32) → (Nat → Int32) → (Nat → Int32) → (Nat → Int32) → (Nat → Int32) → Prop} (hH : RHm hs many old) (hg : gOk g) (hr : RM g now)
    (h1 : ¬ isN g.1.length a → postL 0 1 many t0 live measure now old weight)
    (h : ∀ m' n' o' t li me we, isN g.1.length a → RM (gLay g (ix a)) n' → RHm (hPush hs g) m' o' → postL (wnV g.1 g.2.1 (ix a)) 0 m' t li me n' o' we) : wp_X6_lay a many t0 live measure now old weight postL := by
  have hr0 := hr
  have hg0 := hg.1
  have hn := hg.1.1
  have hm := hg.1.2.1
  obtain ⟨hp, hv, ht⟩ := hr
  unfold wp_X6_lay wp_X6_refuse wp_X6_told
  refine n6_place hp hn (fun q => n6_no (h1 q)) (fun ha => n6_ye ?_)
  have hpost := fun m' n' o' t li me we => h m' n' o' t li me we ha
  obtain ⟨i, hi, e⟩ := ha
  rw [e, ix_nI (by omega)] at hpost
  rw [e]
  refine x6_remembers hH hg hr0 (fun m' o' hH' => x6_lays hn hp (gOk_pl hg i).2 hi (fun n' ht' hf => ?_))
  have hp' : RMp g.1 n' := RMp_of hn hp (hf 0 (by decide) (by decide) (by decide)) (fun x y z => hf x (by omega) (by omega) (by omega))
  have hv' : RMv g.2.1 n' := RMv_of (by omega) hv (hf 1 (by decide) (by decide) (by decide)) (fun x y z => hf x (by omega) (by omega) (by omega))
  refine x6_winner hg0 hp' hv' hi (fun w t li me we hw w1 w2 => ?_)
  rw [wnV_eq hw w1 w2]
  exact hpost m' n' o' t li me we ⟨hp', hv', ht'⟩ hH'
theorem x6_go (hH : RHm hs many old) (hg : gOk g) (hr : RM g now)
    (h1 : ¬ isN g.2.1.length a → post 0 1 many now old) (h2 : isN g.2.1.length a → ¬ lA g.2.1 (ix a) = g.2.2.1 → post 0 2 many now old)
    (h : ∀ m' n' o', isN g.2.1.length a → lA g.2.1 (ix a) = g.2.2.1 → RM (gGo g (ix a)) n' → RHm (hPush hs g) m' o' → post (nI (lB g.1 (lB g.2.1 (ix a)))) 0 m' n' o') : wp_X6_go a many now old post := by
  have hr0 := hr
  have hg0 := hg.1
  have hn := hg.1.1
  have hm := hg.1.2.1
  obtain ⟨hp, hv, ht⟩ := hr
  unfold wp_X6_go wp_X6_refuse wp_X6_told
  refine n6_move hv hm (fun q => n6_no (h1 q)) (fun ha => n6_ye ?_)
  have h2 := h2 ha
  have hpost := fun m' n' o' => h m' n' o' ha
  obtain ⟨i, hi, e⟩ := ha
  rw [e, ix_nI (by omega)] at hpost h2
  obtain ⟨g1, g2⟩ := gOk0_mv hg0 hi
  have htk := hg.2.2
  rw [e, ix44, nI_clamp (show 44 + i < 2 ^ 31 by omega), (hv.2 i hi).1, ht.1]
  have eq : nI (lA g.2.1 i) = nI g.2.2.1 ↔ lA g.2.1 i = g.2.2.1 := nI_eq (by omega) (by omega)
  refine ⟨vp_in_nI (by omega) (by decide), fun q => ?_, fun q => h2 (fun y => q (eq.mpr y))⟩
  refine x6_remembers hH hg hr0 (fun m' o' hH' => x6_goes hg0 hp hv ht hi (fun n' ht' hf => ?_))
  have hp' : RMp g.1 n' := RMp_of hn hp (hf 0 (by decide) (by decide) (by decide)) (fun x y z => hf x (by omega) (by omega) (by omega))
  have hv' : RMv g.2.1 n' := RMv_of (by omega) hv (hf 1 (by decide) (by decide) (by decide)) (fun x y z => hf x (by omega) (by omega) (by omega))
  have e3 : n' ((24 : Int32) + n' 2).toNatClampNeg = nI (lB g.1 (lB g.2.1 i)) := by
    rw [ht'.1, ix24, nI_clamp (by omega)]
    exact (hp'.2 _ g2).2
  rw [e3]
  exact ⟨by rw [ht'.1, ix24]; exact vp_in_nI (by omega) (by decide), hpost m' n' o' (eq.mp q) ⟨hp', hv', ht'⟩ hH'⟩
theorem x6_run {postU : Int32 → Int32 → Int32 → Int32 → (Nat → Int32) → (Nat → Int32) → (Nat → Int32) → (Nat → Int32) → (Nat → Int32) → (Nat → Int32) → Prop} (hH : RHm hs many old) (hg : gOk g) (hr : RM g now)
    (h1 : ¬ (isN 101 a ∧ ¬ a = 0) → postU 0 1 many t0 live measure now old planned weight)
    (h : ∀ m' n' o' t li me pd we, isN 101 a ∧ ¬ a = 0 → RM (gRun g (ix a)) n' → RHm (hPush hs g) m' o' → postU (nI (rnJ g.1 g.2.1 g.2.2.1 (ix a))) 0 m' t li me n' o' pd we) : wp_X6_run a many t0 live measure now old planned weight postU := by
  have hr0 := hr
  have hg0 := hg.1
  have hn := hg.1.1
  have hm := hg.1.2.1
  obtain ⟨hp, hv, ht⟩ := hr
  unfold wp_X6_run wp_X6_refuse wp_X6_told
  refine x6_in (fun q => n6_no (h1 (fun ⟨⟨k, hk, e⟩, ne⟩ => ?_))) (fun q1 q2 => n6_ye ?_)
  · rw [e] at q ne
    rcases q with q | q
    · have q := (nI_ltI (b := 1) (by omega) (by decide)).mp q
      exact ne (by rw [show k = 0 by omega]; rfl)
    · have := (nI_ltI (a := 100) (by decide) (by omega)).mp q
      omega
  · have hok : isN 101 a ∧ ¬ a = 0 := by
      rcases pk_ix a (n := 101) (by decide) with z | z | z
      · exact absurd (Int32.lt_trans z (show (0 : Int32) < 1 by decide)) q1
      · have q2 := Int32.not_lt.mp q2
        rw [Int32.le_iff_toInt_le] at q2 z
        have e1 : (nI 101).toInt = 101 := nI_toInt (by decide)
        have e2 : (100 : Int32).toInt = 100 := nI_toInt (n := 100) (by decide)
        omega
      · exact ⟨z, fun y => q1 (by rw [y]; decide)⟩
    have hpost := fun m' n' o' t li me pd we => h m' n' o' t li me pd we hok
    obtain ⟨⟨m, hm1, e⟩, ne⟩ := hok
    rw [e, ix_nI (by omega)] at hpost
    rw [e]
    refine x6_remembers hH hg hr0 (fun m' o' hH' => x6_plans hg0 hp hv (fun t li me pd we hpd => ?_))
    have hfin : ∀ j n', rnEnd g.1 g.2.1 g.2.2.1 m j → RMp g.1 n' → RMv g.2.1 n' → RMt (plTr g.1 g.2.1 g.2.2.1 j) (g.2.2.2.1 + nI j) (rnD g.1 g.2.1 g.2.2.1 g.2.2.2.2 j) n' → postU (nI j) 0 m' t li me n' o' pd we := fun j n' hj x1 x2 x3 => by
      have := hpost m' n' o' t li me pd we
      unfold gRun at this
      rw [rnJ_eq hj] at this
      exact this ⟨x1, x2, x3⟩ hH'
    refine fx2_go (fun v2 w => ∃ j, j ≤ m ∧ v2 = nI j ∧ foGo g.1 g.2.1 g.2.2.1 j ∧ RMp g.1 w ∧ RMv g.2.1 w ∧ RMt (plTr g.1 g.2.1 g.2.2.1 j) (g.2.2.2.1 + nI j) (rnD g.1 g.2.1 g.2.2.1 g.2.2.2.2 j) w) (fun v2 _ => m - v2.toNatClampNeg) ?_ _ _ ⟨0, Nat.zero_le _, rfl, fun i hi => absurd hi (Nat.not_lt_zero _), hp, hv, by rw [i_add0]; exact ht⟩
    rintro rec v2 w ⟨j, hj, rfl, hgo, wp, wv, wt⟩ hrec
    unfold F_X6_run_26
    have hlt := foGo_lt hg0 hg.2.2 j hgo
    rcases Nat.lt_or_ge j m with z | z
    · refine lpS z (by omega) ?_
      rw [wt.1, nI_clamp (show plTr g.1 g.2.1 g.2.2.1 j < 2 ^ 31 by omega), hpd _ hlt]
      refine ⟨vp_in_nI (by omega) (by decide), fun q3 => hfin j w ⟨hj, hgo, Or.inr q3⟩ wp wv wt, fun q3 => ⟨vp_in_nI (by omega) (by decide), ?_⟩⟩
      rcases plV_cases hg0 (plTr g.1 g.2.1 g.2.2.1 j) with y | ⟨k, hk, _, e3⟩
      · exact absurd y q3
      · rw [e3]
        have e4 := plTr_next (show k < 1000 by omega) e3
        refine x6_goes hg0 wp wv wt hk (fun n' ht' hf => hrec _ _ ⟨j + 1, z, nI_1 j, foGo_one hgo q3, RMp_of hn wp (hf 0 (by decide) (by decide) (by decide)) (fun x y z => hf x (by omega) (by omega) (by omega)), RMv_of (by omega) wv (hf 1 (by decide) (by decide) (by decide)) (fun x y z => hf x (by omega) (by omega) (by omega)), ?_⟩ (by rw [nI_1, nI_clamp (by omega), nI_clamp (by omega)]; omega))
        rw [← i_addS]
        show RMt (plTr g.1 g.2.1 g.2.2.1 (j + 1)) _ (hdStep g.1 (plTr g.1 g.2.1 g.2.2.1 (j + 1)) _) n'
        rw [e4]
        exact ht'
    · have ej : j = m := by omega
      subst ej
      exact lpE (hfin j w ⟨hj, hgo, Or.inl rfl⟩ wp wv wt)
theorem x6_restore (hH : RHm hs many old) (hg : gOk g) (hr : RM g now) (hS : RSm sv set saved)
    (h1 : ¬ isN 2 a → post 0 1 many now old) (h2 : isN 2 a → sv (ix a) = none → post 0 2 many now old)
    (h : ∀ g' m' n' o', isN 2 a → sv (ix a) = some g' → RM g' n' → RHm (hPush hs g) m' o' → post (nI g'.1.length) 0 m' n' o') : wp_X6_restore a many set now old saved post := by
  unfold wp_X6_restore wp_X6_refuse wp_X6_told
  refine n6_in (n := 2) (by decide) (fun q => n6_no (h1 q)) (fun ha => n6_ye ?_)
  have h2 := h2 ha
  have hpost := fun g' m' n' o' => h g' m' n' o' ha
  obtain ⟨i, hi, e⟩ := ha
  rw [e, ix_nI (by omega)] at hpost h2
  rw [e, i_one0 set hi]
  cases hs9 : sv i with
  | none =>
    have hb : ¬ bt set i = true := fun q => ((hS.1 i).mp q).2 hs9
    rw [if_neg hb]
    exact ⟨fun q => absurd rfl q, fun _ => h2 hs9⟩
  | some g' =>
    have hb : bt set i = true := (hS.1 i).mpr ⟨hi, by rw [hs9]; exact fun q => by cases q⟩
    obtain ⟨hg', hr'⟩ := hS.2 i g' hi hs9
    rw [if_pos hb]
    refine ⟨fun _ => x6_remembers hH hg hr (fun m' o' hH' => row_restore hi (fun v n' hn' => ?_)), fun q => absurd q (by decide)⟩
    have hr2 := RM_of (gOk_sz hg') hr' hn'
    have := hpost g' m' n' o' hs9 hr2 hH'
    rw [← hr2.1.1] at this
    exact this
theorem x6_save {postS : Int32 → Int32 → Int32 → (Nat → Int32) → Prop} (hg : gOk g) (hr : RM g now) (hS : RSm sv set saved)
    (h1 : ¬ isN 2 a → postS 0 1 set saved)
    (h : ∀ s' w', isN 2 a → RSm (svPut sv (ix a) g) s' w' → postS (nI (svNum (svPut sv (ix a) g))) 0 s' w') : wp_X6_save a set now saved postS := by
  unfold wp_X6_save wp_X6_refuse wp_X6_told
  refine n6_in (n := 2) (by decide) (fun q => n6_no (h1 q)) (fun ha => n6_ye ?_)
  have hpost := fun s' w' => h s' w' ha
  obtain ⟨i, hi, e⟩ := ha
  rw [e, ix_nI (by omega)] at hpost
  rw [e]
  refine row_save hi (fun v w' hw1 hw2 => ?_)
  have hb : ∀ s, bt (set ||| ((1 : Int32) <<< (nI i &&& 31))) s = true ↔ s < 2 ∧ ¬ svPut sv i g s = none := fun s => by
    rw [b_setbit (by omega), hS.1 s]
    unfold svPut
    by_cases z : s = i
    · rw [if_pos z]
      exact ⟨fun _ => ⟨by omega, fun q => by cases q⟩, fun _ => Or.inr z⟩
    · rw [if_neg z]
      exact ⟨fun q => q.elim id (fun y => absurd y z), Or.inl⟩
  have hS' : RSm (svPut sv i g) (set ||| ((1 : Int32) <<< (nI i &&& 31))) w' := by
    refine ⟨hb, fun s g0 hs q => ?_⟩
    unfold svPut at q
    by_cases z : s = i
    · rw [if_pos z] at q
      cases q
      subst z
      exact ⟨hg, RM_of (gOk_sz hg) hr hw1⟩
    · rw [if_neg z] at q
      obtain ⟨x1, x2⟩ := hS.2 s g0 hs q
      exact ⟨x1, RM_of (gOk_sz x1) x2 (fun k hk => hw2 _ (by omega))⟩
  have := hpost _ _ hS'
  rw [i_two (fun s hs => ((hb s).mp hs).1)]
  have one : ∀ s, s < 2 → (if bt (set ||| ((1 : Int32) <<< (nI i &&& 31))) s = true then 1 else 0) = svOne (svPut sv i g s) := fun s hs => by
    have q := hb s
    cases hq : svPut sv i g s with
    | none => rw [if_neg (fun y => (q.mp y).2 hq)]; rfl
    | some g0 => rw [if_pos (q.mpr ⟨hs, by rw [hq]; exact fun y => by cases y⟩)]; rfl
  rw [one 0 (by decide), one 1 (by decide)]
  exact this
end CHG6
