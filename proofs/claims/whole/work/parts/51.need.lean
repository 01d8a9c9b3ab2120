/-! neededMoves, keyPlace: both sides -/
noncomputable def ndF (pl mv : List (Nat × Nat)) (k : Nat) : Bool := pD (¬ ∀ u, (gW pl mv (lvBut k) 0 u ↔ gW pl mv allL 0 u))
noncomputable def ndV (pl mv : List (Nat × Nat)) : Int32 := nI (pCnt (ndF pl mv) mv.length)
theorem nd_eq {pl mv : List (Nat × Nat)} {k : Nat} {r z : Int32} (hr : ∀ u, bt r u = true ↔ gW pl mv (lvBut k) 0 u) (hz : ∀ u, bt z u = true ↔ gW pl mv allL 0 u) : (r = z → ndF pl mv k = false) ∧ (¬ r = z → ndF pl mv k = true) := by
  refine ⟨fun e => pD_f.mpr (fun q => q (fun u => by rw [← hr u, ← hz u, e])), fun e => pD_t.mpr (fun q => e (b_same hr (fun u => by rw [hz u, q u])))⟩
theorem gW_gWin {pl mv : List (Nat × Nat)} {i u : Nat} : gW pl mv allL i u ↔ u < pl.length ∧ gWin pl mv i u := by
  unfold gW gWin
  rw [gL_all]
theorem nd_loser {pl mv : List (Nat × Nat)} {k : Nat} (hg : gOk0 pl mv) (hk : k < mv.length) (h : gW pl mv allL (1 - lA pl (lA mv k)) (lA mv k)) : ndF pl mv k = false := by
  refine pD_f.mpr (fun q => q (fun u => ?_))
  by_cases hu : u < pl.length
  · have e : gL mv (lvBut k) = fun v w => gEd mv v w ∧ ¬ (v = lA mv k ∧ w = lB mv k) := funext fun v => funext fun w => propext (gL_but hg.2.2.2.2 hk)
    have := p_loser (n := pl.length) (C := 10) (p := lA mv k) (ow := lA pl) (ca := lB pl) (E := gEd mv) (E' := fun v w => gEd mv v w ∧ ¬ (v = lA mv k ∧ w = lB mv k)) (fun v => (gOk0_ow hg v).1) (fun v => (gOk0_ow hg v).2) (fun v w y => gEd_lt hg y) (fun v w y => y.1) (fun v w n y => ⟨y, fun z => n z.1⟩) ((gW_gWin.mp h).2) u hu
    unfold gW
    rw [e, gL_all]
    exact ⟨fun y => ⟨hu, this.mp y.2⟩, fun y => ⟨hu, this.mpr y.2⟩⟩
  · exact ⟨fun y => absurd y.1 hu, fun y => absurd y.1 hu⟩
section NEED5
variable {pl mv : List (Nat × Nat)} {places odd moves bp ba zero zk : Int32} {calls fr to calling next owned : Nat → Int32}
  {post : Int32 → Int32 → Int32 → Int32 → Int32 → (Nat → Int32) → (Nat → Int32) → (Nat → Int32) → Prop}
theorem x5_neededMoves (hg : gOk0 pl mv) (hp : RP pl places odd calls) (hv : RV mv moves fr to) (hz : RZ pl mv zero zk)
    (h : ∀ b1 b2 z' k' c1 n1 o1, RZ pl mv z' k' → post (ndV pl mv) b1 b2 z' k' c1 n1 o1) : wp_X5_neededMoves bp ba places odd moves zero zk calling next owned calls fr to post := by
  have hn := hg.1
  have hm := hg.2.1
  unfold wp_X5_neededMoves
  refine x3_wonBy (i := 0) (by decide) hg hp hv hz (fun r z' k' p' a' c' n' o' hr hz' hk' => take_ok hg hp hv (fun al c1 n1 o1 hal hB => ?_))
  refine fx9_go (fun v2 v3 p9 a9 z9 k9 c9 n9 o9 => ∃ k, k ≤ mv.length ∧ v3 = nI k ∧ v2 = nI (pCnt (ndF pl mv) k) ∧ p9 = nI pl.length ∧ (∀ u, bt a9 u = true ↔ u < pl.length) ∧ RZ pl mv z9 k9 ∧ ¬ k9 = 0 ∧ bdOk pl.length (lA pl) (lB pl) (gEd mv) o9 c9 n9) (fun _ v3 _ _ _ _ _ _ _ => mv.length - v3.toNatClampNeg) ?_ _ _ _ _ _ _ _ _ _ ⟨0, Nat.zero_le _, rfl, rfl, rfl, hal, hz', hk', hB⟩
  rintro rec v2 v3 p9 a9 z9 k9 c9 n9 o9 ⟨k, hk, rfl, rfl, rfl, ha9, hz9, hk9, hB9⟩ hrec
  unfold F_X5_neededMoves_28
  rw [hv.1]
  rcases Nat.lt_or_ge k mv.length with hkm | hkm
  · obtain ⟨g1, g2⟩ := gOk0_mv hg hkm
    have hin : vp_in (nI k) 60 := vp_in_nI (by omega) (by decide)
    have go : ∀ n8, bdOk pl.length (lA pl) (lB pl) (gEd mv) o9 c9 n8 → rec (nI (pCnt (ndF pl mv) (k + 1))) (nI k + 1) (nI pl.length) a9 z9 k9 c9 n8 o9 := fun n8 hB8 =>
      hrec _ _ _ _ _ _ _ _ _ ⟨k + 1, hkm, nI_1 k, rfl, rfl, ha9, hz9, hk9, hB8⟩ (by rw [nI_1, nI_clamp (by omega), nI_clamp (by omega)]; omega)
    rw [nI_clamp (show k < 2 ^ 31 by omega), (hv.2 k hkm).1, (hv.2 k hkm).2]
    have hzb : ∀ u, bt z9 u = true ↔ gW pl mv allL 0 u := fun u => by rw [gW_gWin]; exact hz9 hk9 u
    refine lpS hkm (by omega) ⟨hin, ?_⟩
    unfold wp_X5_winnerOf wp_X3_wonBy
    have key : ∀ (w : Nat), w < 2 → gW pl mv allL w (lA mv k) → wp_X1_ownerOf (nI (lA mv k)) odd (fun r_26 => (¬ nI w = r_26 → rec (nI (pCnt (ndF pl mv) k)) (nI k + 1) (nI pl.length) a9 z9 k9 c9 n9 o9) ∧ (nI w = r_26 → vp_in (nI k) 60 ∧ wp_X0_cut (nI (lA mv k)) (nI (lB mv k)) n9 (fun b_next_27 => wp_X0_wonBy 0 (nI pl.length) a9 c9 b_next_27 o9 (fun r_28 =>
        (r_28 = r → vp_in (nI k) 60 ∧ wp_X0_join (nI (lA mv k)) (nI (lB mv k)) b_next_27 (fun b_next_29 => rec (nI (pCnt (ndF pl mv) k)) (nI k + 1) (nI pl.length) a9 z9 k9 c9 b_next_29 o9)) ∧
        (¬ r_28 = r → vp_in (nI k) 60 ∧ wp_X0_join (nI (lA mv k)) (nI (lB mv k)) b_next_27 (fun b_next_30 => rec (nI (pCnt (ndF pl mv) k) + 1) (nI k + 1) (nI pl.length) a9 z9 k9 c9 b_next_30 o9)))))) := by
      intro w hw hwin
      refine x1_ownerOf hp g1 hn (gOk0_ow hg _).1 ⟨fun q => ?_, fun q => ⟨hin, ?_⟩⟩
      · have ho := (gOk0_ow hg (lA mv k)).1
        have ne : w = 1 - lA pl (lA mv k) := by
          have : w ≠ lA pl (lA mv k) := fun y => q (by rw [y])
          omega
        rw [ne] at hwin
        rw [pCnt_no (nd_loser hg hkm hwin)]
        exact go _ hB9
      · refine cut_ok hB9 g1 g2 (fun n2 hB2 => wonBy_ok (i := 0) (by decide) hB2 ha9 (fun r2 hr2 => ?_))
        have hr3 : ∀ u, bt r2 u = true ↔ gW pl mv (lvBut k) 0 u := fun u => by
          rw [hr2 u]
          unfold gW
          have : gL mv (lvBut k) = fun v w => gEd mv v w ∧ ¬ (v = lA mv k ∧ w = lB mv k) := funext fun v => funext fun w => propext (gL_but hg.2.2.2.2 hkm)
          rw [this]
        have hnd := nd_eq hr3 hr
        have hback : ∀ n3, bdOk pl.length (lA pl) (lB pl) (fun v w => (gEd mv v w ∧ ¬ (v = lA mv k ∧ w = lB mv k)) ∨ (v = lA mv k ∧ w = lB mv k)) o9 c9 n3 → bdOk pl.length (lA pl) (lB pl) (gEd mv) o9 c9 n3 := fun n3 hB3 => bd_E hB3 (fun v w => by
          constructor
          · rintro (y | y)
            · exact y.1
            · rw [y.1, y.2]; exact ⟨k, hkm, rfl, rfl⟩
          · intro y
            by_cases z : v = lA mv k ∧ w = lB mv k
            · exact Or.inr z
            · exact Or.inl ⟨y, z⟩)
        refine ⟨fun q2 => ⟨hin, join_ok hB2 g1 g2 (fun n3 hB3 => ?_)⟩, fun q2 => ⟨hin, join_ok hB2 g1 g2 (fun n3 hB3 => ?_)⟩⟩
        · rw [pCnt_no (hnd.1 q2)]
          exact go _ (hback n3 hB3)
        · rw [pCnt_yes (hnd.2 q2)]
          exact go _ (hback n3 hB3)
    refine ⟨fun _ => ⟨fun q => absurd rfl q, fun _ => has_ok (by omega) (fun q => ⟨fun y => absurd y (by decide), fun _ => ?_⟩) (fun q => ⟨fun _ => ?_, fun y => absurd rfl y⟩)⟩, fun q => absurd q hk9⟩
    · exact key 0 (by decide) ((hzb _).mp q)
    · exact key 1 (by decide) ((gW_det hg g1).mp (fun y => q ((hzb _).mpr y)))
  · have e : k = mv.length := by omega
    subst e
    exact lpE (h _ _ _ _ _ _ _ hz9)
end NEED5
section NEED6
variable {pl mv : List (Nat × Nat)} {live measure now weight : Nat → Int32}
  {post3 : Int32 → Int32 → Int32 → (Nat → Int32) → (Nat → Int32) → (Nat → Int32) → Prop}
theorem x6_neededMoves (hg : gOk0 pl mv) (hp : RMp pl now) (hv : RMv mv now)
    (h : ∀ t li me we, post3 (ndV pl mv) 0 t li me we) : wp_X6_neededMoves live measure now weight post3 := by
  have hm := hg.2.1
  unfold wp_X6_neededMoves wp_X6_told
  refine x6_wonByEven hg hp hv (fun z t li me we hz => ?_)
  refine fx6_go (fun v2 v3 _ _ _ _ => ∃ k, k ≤ mv.length ∧ v3 = nI k ∧ v2 = nI (pCnt (ndF pl mv) k)) (fun _ v3 _ _ _ _ => mv.length - v3.toNatClampNeg) ?_ _ _ _ _ _ _ ⟨0, Nat.zero_le _, rfl, rfl⟩
  rintro rec v2 v3 t9 l9 m9 w9 ⟨k, hk, rfl, rfl⟩ hrec
  unfold F_X6_neededMoves_9
  rw [hv.1]
  rcases Nat.lt_or_ge k mv.length with hkm | hkm
  · refine lpS hkm (by omega) (x6_wonBut hg hp hv hkm (fun r t2 l2 m2 w2 hr => ⟨fun q => ?_, fun q => ?_⟩))
    · refine hrec _ _ _ _ _ _ ⟨k + 1, hkm, nI_1 k, ?_⟩ (by rw [nI_1, nI_clamp (by omega), nI_clamp (by omega)]; omega)
      rw [add0]
      exact pCnt_no ((nd_eq hr hz).1 q)
    · exact hrec _ _ _ _ _ _ ⟨k + 1, hkm, nI_1 k, pCnt_yes ((nd_eq hr hz).2 q)⟩ (by rw [nI_1, nI_clamp (by omega), nI_clamp (by omega)]; omega)
  · have e : k = mv.length := by omega
    subst e
    exact lpE (h _ _ _ _)
end NEED6
/-! keyPlace -/
noncomputable def kpF (pl mv : List (Nat × Nat)) (p : Nat) : Nat := pCnt (fun u => pD (¬ (gW (aOther pl p) mv allL 0 u ↔ gW pl mv allL 0 u))) pl.length
def kpM (f : Nat → Nat) : Nat → Nat
  | 0 => 0
  | k + 1 => if kpM f k < f k then f k else kpM f k
def kpK (f : Nat → Nat) : Nat → Int32
  | 0 => -1
  | k + 1 => if kpM f k < f k then nI k else kpK f k
theorem kpM_le {f : Nat → Nat} {b : Nat} (h : ∀ k, f k ≤ b) : ∀ k, kpM f k ≤ b
  | 0 => Nat.zero_le _
  | k + 1 => by
    show (if kpM f k < f k then f k else kpM f k) ≤ b
    split
    · exact h k
    · exact kpM_le h k
theorem kp_cnt {pl mv : List (Nat × Nat)} {p : Nat} {r z : Int32} (hn : pl.length ≤ 20) (hr : ∀ u, bt r u = true ↔ gW (aOther pl p) mv allL 0 u) (hz : ∀ u, bt z u = true ↔ gW pl mv allL 0 u) : (∀ u, bt (r ^^^ z) u = true → u < 20) ∧ sCnt (r ^^^ z) = kpF pl mv p := by
  have hl : (aOther pl p).length = pl.length := by unfold aOther; rw [List.length_set]
  have hx : ∀ u, bt (r ^^^ z) u = true ↔ u < pl.length ∧ pD (¬ (gW (aOther pl p) mv allL 0 u ↔ gW pl mv allL 0 u)) = true := fun u => by
    rw [pD_t, ← hr u, ← hz u, b_xor]
    have a := hr u
    have b := hz u
    cases h1 : bt r u
    · cases h2 : bt z u
      · exact ⟨fun y => absurd y (by decide), fun y => absurd Iff.rfl y.2⟩
      · rw [h2] at b
        exact ⟨fun _ => ⟨(b.mp rfl).1, fun y => absurd (y.mpr rfl) (by decide)⟩, fun _ => rfl⟩
    · cases h2 : bt z u
      · rw [h1] at a
        have := (a.mp rfl).1
        rw [hl] at this
        exact ⟨fun _ => ⟨this, fun y => absurd (y.mp rfl) (by decide)⟩, fun _ => rfl⟩
      · exact ⟨fun y => absurd y (by decide), fun y => absurd Iff.rfl y.2⟩
  exact ⟨fun u hu => by have := ((hx u).mp hu).1; omega, sCnt_of hn hx⟩
theorem i_xorc (x y : Int32) : x ^^^ y = y ^^^ x := b_ext (fun i _ => by rw [b_xor, b_xor, Bool.xor_comm])
section KEY5
variable {pl mv : List (Nat × Nat)} {places odd moves bp ba zero zk : Int32} {calls fr to calling next owned : Nat → Int32}
  {post : Int32 → Int32 → Int32 → Int32 → Int32 → (Nat → Int32) → (Nat → Int32) → (Nat → Int32) → Prop}
theorem x5_keyPlace (hg : gOk0 pl mv) (hp : RP pl places odd calls) (hv : RV mv moves fr to) (hz : RZ pl mv zero zk)
    (h : ∀ b1 b2 z' k' c1 n1 o1, RZ pl mv z' k' → post (kpK (kpF pl mv) pl.length) b1 b2 z' k' c1 n1 o1) : wp_X5_keyPlace bp ba places odd moves zero zk calling next owned calls fr to post := by
  have hn := hg.1
  have hb20 : ∀ k, kpF pl mv k ≤ 20 := fun k => Nat.le_trans (pCnt_top _ _) hn
  unfold wp_X5_keyPlace
  refine x3_wonBy (i := 0) (by decide) hg hp hv hz (fun r z' k' p' a' c' n' o' hr hz' hk' => take_ok hg hp hv (fun al c1 n1 o1 hal hB => ?_))
  refine fx4_go (fun v2 v3 v4 o9 => ∃ k, k ≤ pl.length ∧ v4 = nI k ∧ v2 = kpK (kpF pl mv) k ∧ v3 = nI (kpM (kpF pl mv) k) ∧ bdOk pl.length (lA pl) (lB pl) (gEd mv) o9 c1 n1) (fun _ _ v4 _ => pl.length - v4.toNatClampNeg) ?_ _ _ _ _ ⟨0, Nat.zero_le _, rfl, rfl, rfl, hB⟩
  rintro rec v2 v3 v4 o9 ⟨k, hk, rfl, rfl, rfl, hB9⟩ hrec
  unfold F_X5_keyPlace_31
  rw [hp.1]
  rcases Nat.lt_or_ge k pl.length with hkm | hkm
  · refine lpS hkm (by omega) (what_other hB9 hal hkm (by decide) (fun o2 r2 hB2 hr2 => ?_))
    obtain ⟨x1, x2⟩ := kp_cnt hn hr2 hr
    refine bitCount_ok x1 (changeOwner_ok hB2 hkm (fun o3 hB3 => ?_))
    have eo : (fun v => if v = k then 1 - lA (aOther pl k) v else lA (aOther pl k) v) = lA pl := by
      rw [(lA_other hkm).1]
      funext v
      have := (gOk0_ow hg v).1
      show (if v = k then 1 - (if v = k then 1 - lA pl v else lA pl v) else (if v = k then 1 - lA pl v else lA pl v)) = lA pl v
      by_cases z : v = k
      · rw [if_pos z, if_pos z]; omega
      · rw [if_neg z, if_neg z]
    rw [eo] at hB3
    rw [x2]
    have hm20 := kpM_le hb20 k
    have hf20 := hb20 k
    refine ⟨fun q => ?_, fun q => ?_⟩
    · have q := (nI_leI (by omega) (by omega)).mp q
      refine hrec _ _ _ _ ⟨k + 1, hkm, nI_1 k, ?_, ?_, hB3⟩ (by rw [nI_1, nI_clamp (by omega), nI_clamp (by omega)]; omega)
      · simp only [kpK]; rw [if_neg (by omega)]
      · simp only [kpM]; rw [if_neg (by omega)]
    · have q : ¬ kpF pl mv k ≤ kpM (kpF pl mv) k := fun y => q ((nI_leI (by omega) (by omega)).mpr y)
      refine hrec _ _ _ _ ⟨k + 1, hkm, nI_1 k, ?_, ?_, hB3⟩ (by rw [nI_1, nI_clamp (by omega), nI_clamp (by omega)]; omega)
      · simp only [kpK]; rw [if_pos (by omega)]
      · simp only [kpM]; rw [if_pos (by omega)]
  · have e : k = pl.length := by omega
    subst e
    exact lpE (h _ _ _ _ _ _ _ hz')
end KEY5
section KEY6
variable {pl mv : List (Nat × Nat)} {live measure now weight : Nat → Int32}
  {post4 : Int32 → Int32 → Int32 → (Nat → Int32) → (Nat → Int32) → (Nat → Int32) → (Nat → Int32) → Prop}
theorem x6_keyPlace (hg : gOk0 pl mv) (hp : RMp pl now) (hv : RMv mv now)
    (h : ∀ t li me we, post4 (kpK (kpF pl mv) pl.length) 0 t li me now we) : wp_X6_keyPlace live measure now weight post4 := by
  have hn := hg.1
  have hb20 : ∀ k, kpF pl mv k ≤ 20 := fun k => Nat.le_trans (pCnt_top _ _) hn
  unfold wp_X6_keyPlace wp_X6_told
  refine x6_wonByEven hg hp hv (fun z t li me we hz => ?_)
  refine fx8_go (fun v2 v3 v4 _ _ _ w9 _ => ∃ k, k ≤ pl.length ∧ v4 = nI k ∧ v2 = kpK (kpF pl mv) k ∧ v3 = nI (kpM (kpF pl mv) k) ∧ w9 = now) (fun _ _ v4 _ _ _ _ _ => pl.length - v4.toNatClampNeg) ?_ _ _ _ _ _ _ _ _ ⟨0, Nat.zero_le _, rfl, rfl, rfl, rfl⟩
  rintro rec v2 v3 v4 t9 l9 m9 w9 e9 ⟨k, hk, rfl, rfl, rfl, rfl⟩ hrec
  unfold F_X6_keyPlace_12
  rw [hp.1]
  rcases Nat.lt_or_ge k pl.length with hkm | hkm
  · refine lpS hkm (by omega) (x6_wonOther hg hp hv hkm (fun r t2 l2 m2 w2 hr => ?_))
    obtain ⟨x1, x2⟩ := kp_cnt hn hr hz
    rw [i_xorc z r]
    refine many_ok x1 ?_
    rw [x2]
    have hm20 := kpM_le hb20 k
    have hf20 := hb20 k
    refine ⟨fun q => ?_, fun q => ?_⟩
    · have q := (nI_leI (by omega) (by omega)).mp q
      refine hrec _ _ _ _ _ _ _ _ ⟨k + 1, hkm, nI_1 k, ?_, ?_, rfl⟩ (by rw [nI_1, nI_clamp (by omega), nI_clamp (by omega)]; omega)
      · simp only [kpK]; rw [if_neg (by omega)]
      · simp only [kpM]; rw [if_neg (by omega)]
    · have q : ¬ kpF pl mv k ≤ kpM (kpF pl mv) k := fun y => q ((nI_leI (by omega) (by omega)).mpr y)
      refine hrec _ _ _ _ _ _ _ _ ⟨k + 1, hkm, nI_1 k, ?_, ?_, rfl⟩ (by rw [nI_1, nI_clamp (by omega), nI_clamp (by omega)]; omega)
      · simp only [kpK]; rw [if_pos (by omega)]
      · simp only [kpM]; rw [if_pos (by omega)]
  · have e : k = pl.length := by omega
    subst e
    exact lpE (h _ _ _ _)
end KEY6
