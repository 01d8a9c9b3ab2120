/-! WHAT IS ASKED: who wins, the plan, following it, the play; sets -/
section ASK5
variable {pl mv : List (Nat × Nat)} {a b c places odd moves bp ba zero zk ck : Int32} {calls fr to calling next owned chosen seenAt : Nat → Int32}
  {post : Int32 → Int32 → Int32 → Int32 → Int32 → (Nat → Int32) → (Nat → Int32) → (Nat → Int32) → Prop} {postX : String → Int32 → Int32 → Int32 → Int32 → (Nat → Int32) → (Nat → Int32) → (Nat → Int32) → Prop}
  {postP : Int32 → Int32 → Int32 → Int32 → Int32 → Int32 → (Nat → Int32) → (Nat → Int32) → (Nat → Int32) → (Nat → Int32) → Prop} {postXP : String → Int32 → Int32 → Int32 → Int32 → Int32 → (Nat → Int32) → (Nat → Int32) → (Nat → Int32) → (Nat → Int32) → Prop}
  {postB : Int32 → Int32 → Int32 → (Nat → Int32) → (Nat → Int32) → (Nat → Int32) → Prop} {postXB : String → Int32 → Int32 → (Nat → Int32) → (Nat → Int32) → (Nat → Int32) → Prop}
theorem x5_won (hg : gOk0 pl mv) (hp : RP pl places odd calls) (hv : RV mv moves fr to) (hz : RZ pl mv zero zk)
    (h1 : ¬ isN 2 a → postX "java/lang/IllegalArgumentException" bp ba zero zk calling next owned)
    (h : ∀ r b1 b2 z' k' c1 n1 o1, isN 2 a → (∀ u, bt r u = true ↔ gW pl mv allL (ix a) u) → RZ pl mv z' k' → post r b1 b2 z' k' c1 n1 o1) : wp_X5_won a bp ba places odd moves zero zk calling next owned calls fr to post postX := by
  unfold wp_X5_won
  refine n5_player h1 (fun ha => ?_)
  obtain ⟨i, hi, e⟩ := ha
  have hpost := fun r b1 b2 z' k' c1 n1 o1 => h r b1 b2 z' k' c1 n1 o1 ⟨i, hi, e⟩
  rw [e, ix_nI (by omega)] at hpost
  rw [e]
  exact x3_wonBy hi hg hp hv hz (fun r z' k' p' a' c' n' o' hr hz' _ => hpost _ _ _ _ _ _ _ _ hr hz')
theorem x5_winnerOf {s : Nat} (hg : gOk0 pl mv) (hp : RP pl places odd calls) (hv : RV mv moves fr to) (hz : RZ pl mv zero zk) (hs : s < pl.length)
    (h : ∀ i b1 b2 z' k' c1 n1 o1, i < 2 → gW pl mv allL i s → ¬ gW pl mv allL (1 - i) s → RZ pl mv z' k' → post (nI i) b1 b2 z' k' c1 n1 o1) : wp_X5_winnerOf (nI s) bp ba places odd moves zero zk calling next owned calls fr to post := by
  have hn := hg.1
  unfold wp_X5_winnerOf
  refine x3_wonBy (i := 0) (by decide) hg hp hv hz (fun r z' k' p' a' c' n' o' hr hz' _ => has_ok (by omega) (fun q => ⟨fun z => absurd z (by decide), fun _ => ?_⟩) (fun q => ⟨fun _ => ?_, fun z => absurd rfl z⟩))
  · exact h 0 _ _ _ _ _ _ _ (by decide) ((hr s).mp q) (fun y => (gW_det hg hs).mpr y ((hr s).mp q)) hz'
  · have q2 : ¬ gW pl mv allL 0 s := fun y => q ((hr s).mpr y)
    exact h 1 _ _ _ _ _ _ _ (by decide) ((gW_det hg hs).mp q2) q2 hz'
theorem x5_plan (hg : gOk0 pl mv) (hp : RP pl places odd calls) (hv : RV mv moves fr to) (hz : RZ pl mv zero zk) (hc : RC pl mv chosen ck)
    (h1 : ¬ isN pl.length a → postXP "java/util/NoSuchElementException" bp ba zero zk ck calling next owned chosen)
    (h : ∀ b1 b2 z' k' c1 n1 o1 ch, isN pl.length a → RZ pl mv z' k' → RC pl mv ch 1 → postP (plV pl mv (ix a)) b1 b2 z' k' 1 c1 n1 o1 ch) : wp_X5_plan a bp ba places odd moves zero zk ck calling next owned calls fr to chosen postP postXP := by
  have hn := hg.1
  unfold wp_X5_plan
  rw [hp.1]
  refine n5_place hn h1 (fun ha => ?_)
  obtain ⟨i, hi, e⟩ := ha
  have hpost := fun b1 b2 z' k' c1 n1 o1 ch => h b1 b2 z' k' c1 n1 o1 ch ⟨i, hi, e⟩
  rw [e, ix_nI (by omega)] at hpost
  rw [← hp.1, e]
  refine x3_choose hg hp hv hz hc (fun z' k' p' a' ch c' n' o' hz' hch => ⟨vp_in_nI (by omega) (by decide), ?_⟩)
  rw [nI_clamp (show i < 2 ^ 31 by omega), hch i hi]
  exact hpost _ _ _ _ _ _ _ _ hz' (fun _ => hch)
end ASK5
/-- following the plan -/
def foGo (pl mv : List (Nat × Nat)) (s m : Nat) : Prop := ∀ i, i < m → plV pl mv (plTr pl mv s i) ≠ -1
noncomputable def foV (pl mv : List (Nat × Nat)) (s m : Nat) : Int32 := if pD (foGo pl mv s m) = true then nI (plTr pl mv s m) else -1
theorem foV_go {pl mv : List (Nat × Nat)} {s m : Nat} (h : foGo pl mv s m) : foV pl mv s m = nI (plTr pl mv s m) := if_pos (pD_t.mpr h)
theorem foV_no {pl mv : List (Nat × Nat)} {s m : Nat} (h : ¬ foGo pl mv s m) : foV pl mv s m = -1 := if_neg (fun q => h (pD_t.mp q))
theorem foGo_lt {pl mv : List (Nat × Nat)} (hg : gOk0 pl mv) {s : Nat} (hs : s < pl.length) : ∀ m, foGo pl mv s m → plTr pl mv s m < pl.length
  | 0, _ => hs
  | m + 1, h => by
    have a := h m (Nat.lt_succ_self m)
    rcases plV_cases hg (plTr pl mv s m) with q | ⟨k, hk, _, e⟩
    · exact absurd q a
    · show plNx pl mv (plTr pl mv s m) < pl.length
      unfold plNx
      rw [e, nI_clamp (by have := hg.2.1; omega)]
      exact (gOk0_mv hg hk).2
theorem foGo_one {pl mv : List (Nat × Nat)} {s m : Nat} (h : foGo pl mv s m) (h1 : plV pl mv (plTr pl mv s m) ≠ -1) : foGo pl mv s (m + 1) := fun i hi => by
  rcases Nat.lt_or_ge i m with z | z
  · exact h i z
  · rw [show i = m by omega]; exact h1
section ASK5F
variable {pl mv : List (Nat × Nat)} {a b c places odd moves bp ba zero zk ck : Int32} {calls fr to calling next owned chosen seenAt : Nat → Int32}
  {postP : Int32 → Int32 → Int32 → Int32 → Int32 → Int32 → (Nat → Int32) → (Nat → Int32) → (Nat → Int32) → (Nat → Int32) → Prop} {postXP : String → Int32 → Int32 → Int32 → Int32 → Int32 → (Nat → Int32) → (Nat → Int32) → (Nat → Int32) → (Nat → Int32) → Prop}
  {postS : Int32 → Int32 → Int32 → Int32 → Int32 → Int32 → (Nat → Int32) → (Nat → Int32) → (Nat → Int32) → (Nat → Int32) → (Nat → Int32) → Prop} {postXS : String → Int32 → Int32 → Int32 → Int32 → Int32 → (Nat → Int32) → (Nat → Int32) → (Nat → Int32) → (Nat → Int32) → (Nat → Int32) → Prop}
theorem x5_follow (hg : gOk0 pl mv) (hp : RP pl places odd calls) (hv : RV mv moves fr to) (hz : RZ pl mv zero zk) (hc : RC pl mv chosen ck)
    (h1 : ¬ isN pl.length a → postXP "java/util/NoSuchElementException" bp ba zero zk ck calling next owned chosen)
    (h2 : isN pl.length a → ¬ isN 1001 b → postXP "java/lang/IllegalArgumentException" bp ba zero zk ck calling next owned chosen)
    (h : ∀ b1 b2 z' k' c1 n1 o1 ch, isN pl.length a → isN 1001 b → RZ pl mv z' k' → RC pl mv ch 1 → postP (foV pl mv (ix a) (ix b)) b1 b2 z' k' 1 c1 n1 o1 ch) : wp_X5_follow a b bp ba places odd moves zero zk ck calling next owned calls fr to chosen postP postXP := by
  have hn := hg.1
  have hm := hg.2.1
  unfold wp_X5_follow
  rw [hp.1]
  refine n5_place hn h1 (fun ha => arg_hi (n := 1001) (by decide) (h2 ha) (fun hb => ?_))
  obtain ⟨s, hs, e⟩ := ha
  obtain ⟨m, hm2, e2⟩ := hb
  have hpost := fun b1 b2 z' k' c1 n1 o1 ch => h b1 b2 z' k' c1 n1 o1 ch ⟨s, hs, e⟩ ⟨m, hm2, e2⟩
  rw [e, e2, ix_nI (by omega), ix_nI (by omega)] at hpost
  rw [← hp.1, e, e2]
  refine x3_choose hg hp hv hz hc (fun z' k' p' a' ch c' n' o' hz' hch => ?_)
  have hfin := hpost p' a' z' k' c' n' o' ch hz' (fun _ => hch)
  refine up2 m (by omega) (fun i v => foGo pl mv s i ∧ v = nI (plTr pl mv s i)) 0 _ (Nat.zero_le _) ⟨fun i hi => absurd hi (Nat.not_lt_zero _), rfl⟩ (fun rec v hI => ?_) (fun rec i v hi hI go => ?_)
  · unfold F_X5_follow_42
    refine lpE ?_
    rw [hI.2, ← foV_go hI.1]
    exact hfin
  · unfold F_X5_follow_42
    obtain ⟨hI, rfl⟩ := hI
    have hlt := foGo_lt hg hs i hI
    rw [nI_clamp (show plTr pl mv s i < 2 ^ 31 by omega), hch _ hlt]
    refine lpS hi (by omega) ⟨vp_in_nI (by omega) (by decide), fun q => ?_, fun q => ?_⟩
    · rcases plV_cases hg (plTr pl mv s i) with z | ⟨k, hk, _, e3⟩
      · exact absurd z q
      · have e4 : plTr pl mv s (i + 1) = lB mv k := by
          show plNx pl mv (plTr pl mv s i) = _
          unfold plNx
          rw [e3, nI_clamp (by omega)]
        rw [e3, nI_clamp (show k < 2 ^ 31 by omega), (hv.2 k hk).2]
        exact ⟨vp_in_nI (by omega) (by decide), go _ ⟨foGo_one hI q, by rw [e4]⟩⟩
    · rw [foV_no (fun y => y i hi q)] at hfin
      exact hfin
/-- what play tells -/
noncomputable def pyEnd (pl mv : List (Nat × Nat)) (s : Nat) : Nat := Classical.epsilon (plEnd pl mv s)
theorem pyEnd_eq {pl mv : List (Nat × Nat)} {s j : Nat} (h : plEnd pl mv s j) : pyEnd pl mv s = j := plEnd_one (Classical.epsilon_spec ⟨j, h⟩) h
noncomputable def pySeen (pl mv : List (Nat × Nat)) (s : Nat) : Nat → Int32 := Classical.epsilon (plSeen pl mv s (pyEnd pl mv s))
theorem pySeen_eq {pl mv : List (Nat × Nat)} {s j : Nat} {sn : Nat → Int32} (h : plEnd pl mv s j) (hs : plSeen pl mv s j sn) (u : Nat) (hu : u < pl.length) : sn u = pySeen pl mv s u := by
  have e := pyEnd_eq h
  have : plSeen pl mv s (pyEnd pl mv s) (pySeen pl mv s) := Classical.epsilon_spec ⟨sn, by rw [e]; exact hs⟩
  rw [e] at this
  exact plSeen_eq hs this u hu
noncomputable def pyA (pl mv : List (Nat × Nat)) (s : Nat) : Int32 := if plV pl mv (plTr pl mv s (pyEnd pl mv s)) = -1 then nI (pyEnd pl mv s) else pySeen pl mv s (plTr pl mv s (pyEnd pl mv s))
noncomputable def pyR (pl mv : List (Nat × Nat)) (s : Nat) : Int32 := if plV pl mv (plTr pl mv s (pyEnd pl mv s)) = -1 then 0 else nI (pyEnd pl mv s) - pySeen pl mv s (plTr pl mv s (pyEnd pl mv s))
noncomputable def pyL (pl mv : List (Nat × Nat)) (s : Nat) : Int32 := if plV pl mv (plTr pl mv s (pyEnd pl mv s)) = -1 then -1 else ldMax pl (pySeen pl mv s) (pySeen pl mv s (plTr pl mv s (pyEnd pl mv s))) pl.length
noncomputable def pyV (pl mv : List (Nat × Nat)) (s w : Nat) : Int32 := if w = 0 then pyA pl mv s else if w = 1 then pyR pl mv s else pyL pl mv s
theorem x5_play (hg : gOk0 pl mv) (hp : RP pl places odd calls) (hv : RV mv moves fr to) (hz : RZ pl mv zero zk) (hc : RC pl mv chosen ck)
    (h1 : ¬ isN pl.length a → postXS "java/util/NoSuchElementException" bp ba zero zk ck seenAt calling next owned chosen)
    (h2 : isN pl.length a → ¬ isN 3 b → postXS "java/lang/IllegalArgumentException" bp ba zero zk ck seenAt calling next owned chosen)
    (h : ∀ b1 b2 z' k' sn c1 n1 o1 ch, isN pl.length a → isN 3 b → RZ pl mv z' k' → RC pl mv ch 1 → postS (pyV pl mv (ix a) (ix b)) b1 b2 z' k' 1 sn c1 n1 o1 ch) : wp_X5_play a b bp ba places odd moves zero zk ck seenAt calling next owned calls fr to chosen postS postXS := by
  have hn := hg.1
  have hm := hg.2.1
  unfold wp_X5_play
  rw [hp.1]
  refine n5_place hn h1 (fun ha => arg_hi (n := 3) (by decide) (h2 ha) (fun hb => ?_))
  obtain ⟨s, hs, e⟩ := ha
  obtain ⟨w, hw, e2⟩ := hb
  have hpost := fun b1 b2 z' k' sn c1 n1 o1 ch => h b1 b2 z' k' sn c1 n1 o1 ch ⟨s, hs, e⟩ ⟨w, hw, e2⟩
  rw [e, e2, ix_nI (by omega), ix_nI (by omega)] at hpost
  rw [e, e2]
  rw [← hp.1]
  refine x3_choose hg hp hv hz hc (fun z' k' p' a' ch c' n' o' hz' hch => ?_)
  have hfin := fun sn => hpost p' a' z' k' sn c' n' o' ch hz' (fun _ => hch)
  refine lastOfPlay_ok hg hv hch hs (fun j sn hj hjn hsn => ?_)
  have ej := pyEnd_eq hj
  have hlt := plTr_lt hg hs j hj.1
  have hsn2 : ∀ u, u < pl.length → sn u = pySeen pl mv s u := fun u hu => pySeen_eq hj hsn u hu
  have hcnt := seen_count hg hs hj.1 hsn
  rw [nI_clamp (show plTr pl mv s j < 2 ^ 31 by omega), hch _ hlt, hp.1]
  have hin : vp_in (nI (plTr pl mv s j)) 20 := vp_in_nI (by omega) (by decide)
  have w2 : nI w = (2 : Int32) ↔ w = 2 := nI_eq (b := 2) (by omega) (by decide)
  have w0 : nI w = (0 : Int32) ↔ w = 0 := nI_eq (b := 0) (by omega) (by decide)
  have hfin := hfin sn
  unfold pyV pyA pyR pyL at hfin
  rw [ej, ← hsn2 _ hlt] at hfin
  refine ⟨hin, fun q => ⟨fun q2 => placesSeen_ok hn ?_, fun q2 => ⟨hin, ?_⟩⟩, fun q => ⟨fun q2 => placesSeen_ok hn ?_, fun q2 => ?_⟩⟩
  · rw [hcnt]
    rw [if_neg q, if_neg q] at hfin
    refine ⟨fun q3 => ⟨hin, ?_⟩, fun q3 => ⟨hin, ?_⟩⟩
    · have n0 : ¬ w = 0 := fun y => q3 (w0.mpr y)
      have n1 : w = 1 := by
        have : ¬ w = 2 := fun y => q2 (w2.mpr y)
        omega
      rw [if_neg n0, if_pos n1] at hfin
      exact hfin
    · rw [if_pos (w0.mp q3)] at hfin
      exact hfin
  · rw [w2.mp q2, if_neg (by decide), if_neg (by decide), if_neg q, ← ldMax_congr pl.length hsn2] at hfin
    rw [← hp.1]
    exact greatestCallSince_ok hp hn hfin
  · rw [hcnt]
    rw [if_pos q, if_pos q] at hfin
    refine ⟨fun q3 => ?_, fun q3 => ?_⟩
    · have n0 : ¬ w = 0 := fun y => q3 (w0.mpr y)
      have n1 : w = 1 := by
        have : ¬ w = 2 := fun y => q2 (w2.mpr y)
        omega
      rw [if_neg n0, if_pos n1] at hfin
      exact hfin
    · rw [if_pos (w0.mp q3)] at hfin
      exact hfin
  · rw [w2.mp q2, if_neg (by decide), if_neg (by decide), if_pos q] at hfin
    exact hfin
end ASK5F
section ASK5B
variable {pl mv : List (Nat × Nat)} {a b c places odd moves bp ba : Int32} {calls fr to calling next owned : Nat → Int32}
  {postB : Int32 → Int32 → Int32 → (Nat → Int32) → (Nat → Int32) → (Nat → Int32) → Prop} {postXB : String → Int32 → Int32 → (Nat → Int32) → (Nat → Int32) → (Nat → Int32) → Prop}
/-- the places of a set -/
abbrev sB (x : Int32) (u : Nat) : Prop := bt x u = true
theorem x5_pull (hg : gOk0 pl mv) (hp : RP pl places odd calls) (hv : RV mv moves fr to)
    (h1 : ¬ (isN 2 a ∧ isS pl.length b) → postXB "java/lang/IllegalArgumentException" bp ba calling next owned)
    (h : ∀ r b1 b2 c1 n1 o1, isN 2 a ∧ isS pl.length b → (∀ u, bt r u = true ↔ ∃ k, pIter (lA pl) (gEd mv) (ix a) (sB b) k u) → postB r b1 b2 c1 n1 o1) : wp_X5_pull a b bp ba places odd moves calling next owned calls fr to postB postXB := by
  unfold wp_X5_pull
  rw [hp.1]
  refine n5_player (fun q => h1 (fun z => q z.1)) (fun ha => n5_set hg.1 (fun q => h1 (fun z => q z.2)) (fun hb => ?_))
  obtain ⟨i, hi, e⟩ := ha
  have hpost := fun r b1 b2 c1 n1 o1 => h r b1 b2 c1 n1 o1 ⟨⟨i, hi, e⟩, hb⟩
  rw [e, ix_nI (by omega)] at hpost
  rw [← hp.1, e]
  exact take_ok hg hp hv (fun al c' n' o' hal hB => attract_all hi hB hal (fun u => Iff.rfl) hb (fun r hr => hpost _ _ _ _ _ _ hr))
/-- after how many rounds of pulling the place p is in -/
noncomputable def pDist (pl mv : List (Nat × Nat)) (i : Nat) (x : Int32) (p : Nat) : Int32 := if pD (∃ k, pIter (lA pl) (gEd mv) i (sB x) k p) = true then nI (Classical.epsilon fun k => pIter (lA pl) (gEd mv) i (sB x) k p ∧ ∀ j, j < k → ¬ pIter (lA pl) (gEd mv) i (sB x) j p) else -1
theorem pDist_no {i p : Nat} {x : Int32} (h : ∀ k, ¬ pIter (lA pl) (gEd mv) i (sB x) k p) : pDist pl mv i x p = -1 := if_neg (fun q => (pD_t.mp q).elim h)
theorem pDist_ye {i p k : Nat} {x : Int32} (h : pIter (lA pl) (gEd mv) i (sB x) k p) (h2 : ∀ j, j < k → ¬ pIter (lA pl) (gEd mv) i (sB x) j p) : pDist pl mv i x p = nI k := by
  unfold pDist
  rw [if_pos (pD_t.mpr ⟨k, h⟩)]
  have e := Classical.epsilon_spec (p := fun k => pIter (lA pl) (gEd mv) i (sB x) k p ∧ ∀ j, j < k → ¬ pIter (lA pl) (gEd mv) i (sB x) j p) ⟨k, h, h2⟩
  rcases Nat.lt_trichotomy (Classical.epsilon fun k => pIter (lA pl) (gEd mv) i (sB x) k p ∧ ∀ j, j < k → ¬ pIter (lA pl) (gEd mv) i (sB x) j p) k with z | z | z
  · exact absurd e.1 (h2 _ z)
  · rw [z]
  · exact absurd h (e.2 _ z)
theorem x5_pullIn (hg : gOk0 pl mv) (hp : RP pl places odd calls) (hv : RV mv moves fr to)
    (h1 : ¬ isN pl.length a → postXB "java/util/NoSuchElementException" bp ba calling next owned)
    (h2 : isN pl.length a → ¬ (isN 2 b ∧ isS pl.length c) → postXB "java/lang/IllegalArgumentException" bp ba calling next owned)
    (h : ∀ b1 b2 c1 n1 o1, isN pl.length a → isN 2 b ∧ isS pl.length c → postB (pDist pl mv (ix b) c (ix a)) b1 b2 c1 n1 o1) : wp_X5_pullIn a b c bp ba places odd moves calling next owned calls fr to postB postXB := by
  have hn := hg.1
  unfold wp_X5_pullIn
  rw [hp.1]
  refine n5_place hn h1 (fun hq => n5_player (fun q => h2 hq (fun z => q z.1)) (fun ha => n5_set hn (fun q => h2 hq (fun z => q z.2)) (fun hb => ?_)))
  obtain ⟨p, hpn, e0⟩ := hq
  obtain ⟨i, hi, e⟩ := ha
  have hpost := fun b1 b2 c1 n1 o1 => h b1 b2 c1 n1 o1 ⟨p, hpn, e0⟩ ⟨⟨i, hi, e⟩, hb⟩
  rw [e, e0, ix_nI (by omega), ix_nI (by omega)] at hpost
  rw [← hp.1, e, e0]
  exact take_ok hg hp hv (fun al c' n' o' hal hB => distance_ok hi hB hal (fun u => Iff.rfl) hb hpn (fun q => by rw [← pDist_no (i := i) (x := c) q]; exact hpost _ _ _ _ _) (fun k q q2 => by rw [← pDist_ye (i := i) (x := c) q q2]; exact hpost _ _ _ _ _))
theorem x5_stay (hg : gOk0 pl mv) (hp : RP pl places odd calls) (hv : RV mv moves fr to)
    (h1 : ¬ (isN 2 a ∧ isS pl.length b) → postXB "java/lang/IllegalArgumentException" bp ba calling next owned)
    (h : ∀ r b1 b2 c1 n1 o1, isN 2 a ∧ isS pl.length b → (∀ u, bt r u = true ↔ ∀ k, sIter (lA pl) (gEd mv) (ix a) (sB b) k u) → postB r b1 b2 c1 n1 o1) : wp_X5_stay a b bp ba places odd moves calling next owned calls fr to postB postXB := by
  unfold wp_X5_stay
  rw [hp.1]
  refine n5_player (fun q => h1 (fun z => q z.1)) (fun ha => n5_set hg.1 (fun q => h1 (fun z => q z.2)) (fun hb => ?_))
  obtain ⟨i, hi, e⟩ := ha
  have hpost := fun r b1 b2 c1 n1 o1 => h r b1 b2 c1 n1 o1 ⟨⟨i, hi, e⟩, hb⟩
  rw [e, ix_nI (by omega)] at hpost
  rw [← hp.1, e]
  exact take_ok hg hp hv (fun al c' n' o' hal hB => stayingIn_ok hi hB hal (fun u => Iff.rfl) hb (fun r hr => hpost _ _ _ _ _ _ hr))
theorem x5_comeBack (hg : gOk0 pl mv) (hp : RP pl places odd calls) (hv : RV mv moves fr to)
    (h1 : ¬ (isN 2 a ∧ isS pl.length b) → postXB "java/lang/IllegalArgumentException" bp ba calling next owned)
    (h : ∀ r b1 b2 c1 n1 o1, isN 2 a ∧ isS pl.length b → (∀ u, bt r u = true ↔ ∀ k, cIter (lA pl) (gEd mv) (ix a) pl.length (sB b) k u) → postB r b1 b2 c1 n1 o1) : wp_X5_comeBack a b bp ba places odd moves calling next owned calls fr to postB postXB := by
  unfold wp_X5_comeBack
  rw [hp.1]
  refine n5_player (fun q => h1 (fun z => q z.1)) (fun ha => n5_set hg.1 (fun q => h1 (fun z => q z.2)) (fun hb => ?_))
  obtain ⟨i, hi, e⟩ := ha
  have hpost := fun r b1 b2 c1 n1 o1 => h r b1 b2 c1 n1 o1 ⟨⟨i, hi, e⟩, hb⟩
  rw [e, ix_nI (by omega)] at hpost
  rw [← hp.1, e]
  exact take_ok hg hp hv (fun al c' n' o' hal hB => comingBackTo_ok hi hB hal (fun u => Iff.rfl) hb (fun r hr => hpost _ _ _ _ _ _ hr))
noncomputable def tV (pl mv : List (Nat × Nat)) (i : Nat) (x : Int32) : Int32 := if pD (trap (lA pl) (gEd mv) i (sB x)) = true then 1 else 0
theorem x5_isTrap (hg : gOk0 pl mv) (hp : RP pl places odd calls) (hv : RV mv moves fr to)
    (h1 : ¬ (isN 2 a ∧ isS pl.length b) → postXB "java/lang/IllegalArgumentException" bp ba calling next owned)
    (h : ∀ b1 b2 c1 n1 o1, isN 2 a ∧ isS pl.length b → postB (tV pl mv (ix a) b) b1 b2 c1 n1 o1) : wp_X5_isTrap a b bp ba places odd moves calling next owned calls fr to postB postXB := by
  unfold wp_X5_isTrap
  rw [hp.1]
  refine n5_player (fun q => h1 (fun z => q z.1)) (fun ha => n5_set hg.1 (fun q => h1 (fun z => q z.2)) (fun hb => ?_))
  obtain ⟨i, hi, e⟩ := ha
  have hpost := fun b1 b2 c1 n1 o1 => h b1 b2 c1 n1 o1 ⟨⟨i, hi, e⟩, hb⟩
  rw [e, ix_nI (by omega)] at hpost
  rw [← hp.1, e]
  unfold tV at hpost
  refine take_ok hg hp hv (fun al c' n' o' hal hB => isClosedFor_ok hi hB hal (fun u => Iff.rfl) hb (fun q => ?_) (fun q => ?_))
  · rw [if_pos (pD_t.mpr q)] at hpost
    exact hpost _ _ _ _ _
  · rw [if_neg (fun y => q (pD_t.mp y))] at hpost
    exact hpost _ _ _ _ _
end ASK5B
