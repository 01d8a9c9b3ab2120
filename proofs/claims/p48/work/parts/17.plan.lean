/-! PLANS -/
def allL : Nat → Bool := fun _ => true
def gL (mv : List (Nat × Nat)) (lv : Nat → Bool) (v w : Nat) : Prop := mE mv.length (lA mv) (lB mv) lv v w
theorem gL_all (mv : List (Nat × Nat)) : gL mv allL = gEd mv := funext fun v => funext fun w => propext ⟨fun ⟨k, a, _, b, c⟩ => ⟨k, a, b, c⟩, fun ⟨k, a, b, c⟩ => ⟨k, a, rfl, b, c⟩⟩
theorem gL_lt {pl mv : List (Nat × Nat)} {lv : Nat → Bool} (hg : gOk0 pl mv) (v w : Nat) (h : gL mv lv v w) : v < pl.length ∧ w < pl.length := by
  obtain ⟨k, a, _, b, c⟩ := h
  have := gOk0_mv hg a
  rw [← b, ← c]
  exact this
def gW (pl mv : List (Nat × Nat)) (lv : Nat → Bool) (i u : Nat) : Prop := u < pl.length ∧ pWin (lA pl) (lB pl) (gL mv lv) i u
theorem gW_det {pl mv : List (Nat × Nat)} {lv : Nat → Bool} (hg : gOk0 pl mv) {u : Nat} (hu : u < pl.length) : ¬ gW pl mv lv 0 u ↔ gW pl mv lv 1 u := by
  have h := p_det (ow := lA pl) (ca := lB pl) (E := gL mv lv) (C := 10) (fun v => (gOk0_ow hg v).1) (fun v => (gOk0_ow hg v).2) (fun v w => gL_lt hg v w) u hu
  exact ⟨fun q => ⟨hu, h.mp fun z => q ⟨hu, z⟩⟩, fun q z => h.mpr q.2 z.2⟩
/-- of the moves of p only k is left -/
def lvO (mv : List (Nat × Nat)) (lv : Nat → Bool) (p k : Nat) : Nat → Bool := fun j => if lA mv j = p then decide (j = k) else lv j
def plOk (pl mv : List (Nat × Nat)) (i : Nat) (lv : Nat → Bool) (p k : Nat) : Prop := ∀ u, gW pl mv allL i u → gW pl mv (lvO mv lv p k) i u
def plIs (pl mv : List (Nat × Nat)) (i : Nat) (lv : Nat → Bool) (p k : Nat) : Prop := k < mv.length ∧ lA mv k = p ∧ plOk pl mv i lv p k ∧ ∀ j, j < k → lA mv j = p → ¬ plOk pl mv i lv p j
noncomputable def plK (pl mv : List (Nat × Nat)) (i : Nat) (lv : Nat → Bool) (p : Nat) : Nat := Classical.epsilon (plIs pl mv i lv p)
noncomputable def plLv (pl mv : List (Nat × Nat)) (i : Nat) : Nat → Nat → Bool
  | 0 => allL
  | p + 1 => @ite _ (lA pl p = i ∧ gW pl mv allL i p) (Classical.propDecidable _) (lvO mv (plLv pl mv i p) p (plK pl mv i (plLv pl mv i p) p)) (plLv pl mv i p)
/-- the number of the move that is planned at u -/
noncomputable def plV (pl mv : List (Nat × Nat)) (u : Nat) : Int32 := @ite _ (gW pl mv allL (lA pl u) u) (Classical.propDecidable _) (nI (plK pl mv (lA pl u) (plLv pl mv (lA pl u) u) u)) (rFst (fun k => decide (lA mv k = u)) mv.length)
theorem plIs_one {pl mv : List (Nat × Nat)} {i : Nat} {lv : Nat → Bool} {p k j : Nat} (h1 : plIs pl mv i lv p k) (h2 : plIs pl mv i lv p j) : k = j := by
  rcases Nat.lt_trichotomy k j with q | q | q
  · exact absurd h1.2.2.1 (h2.2.2.2 k q h1.2.1)
  · exact q
  · exact absurd h2.2.2.1 (h1.2.2.2 j q h2.2.1)
theorem plK_eq {pl mv : List (Nat × Nat)} {i : Nat} {lv : Nat → Bool} {p k : Nat} (h : plIs pl mv i lv p k) : plK pl mv i lv p = k := plIs_one (Classical.epsilon_spec ⟨k, h⟩) h
def plInv (pl mv : List (Nat × Nat)) (i : Nat) (lv : Nat → Bool) : Prop := (∀ v w, lA pl v ≠ i → gL mv allL v w → gL mv lv v w) ∧ ∀ u, gW pl mv allL i u → gW pl mv lv i u
theorem lvO_ne {mv : List (Nat × Nat)} {lv : Nat → Bool} {p k v w : Nat} (h : v ≠ p) : gL mv (lvO mv lv p k) v w ↔ gL mv lv v w := by
  constructor
  · rintro ⟨j, a, b, c, d⟩
    refine ⟨j, a, ?_, c, d⟩
    unfold lvO at b
    rw [if_neg (by rw [c]; exact h)] at b
    exact b
  · rintro ⟨j, a, b, c, d⟩
    refine ⟨j, a, ?_, c, d⟩
    unfold lvO
    rw [if_neg (by rw [c]; exact h)]
    exact b
theorem lvO_eq {mv : List (Nat × Nat)} {lv : Nat → Bool} {p k w : Nat} (hk : k < mv.length) (hf : lA mv k = p) : gL mv (lvO mv lv p k) p w ↔ w = lB mv k := by
  constructor
  · rintro ⟨j, a, b, c, d⟩
    unfold lvO at b
    rw [if_pos c, decide_eq_true_eq] at b
    rw [← d, b]
  · rintro rfl
    refine ⟨k, hk, ?_, hf, rfl⟩
    unfold lvO
    rw [if_pos hf, decide_eq_true_eq]
theorem lvO_twice {mv : List (Nat × Nat)} {lv : Nat → Bool} {p k j : Nat} : lvO mv (lvO mv lv p k) p j = lvO mv lv p j := by
  funext q
  unfold lvO
  by_cases h : lA mv q = p
  · rw [if_pos h, if_pos h]
  · rw [if_neg h, if_neg h, if_neg h]
theorem pl_ex {pl mv : List (Nat × Nat)} {i : Nat} {lv : Nat → Bool} {p : Nat} (hg : gOk0 pl mv) (hI : plInv pl mv i lv) (hp : gW pl mv allL i p) (ho : lA pl p = i) : ∃ k, plIs pl mv i lv p k := by
  obtain ⟨S, r, hc, hn, hall⟩ := p_allwin (ow := lA pl) (ca := lB pl) (E := gL mv lv) (n := pl.length) (fun v w => gL_lt hg v w) i pl.length
  have hS : ∀ u, gW pl mv allL i u → S u := fun u hu => hall u hu.1 hu.1 (hI.2 u hu).2
  obtain ⟨w, ⟨j, a, b, c, d⟩, e, f⟩ := (hc p (hS p hp)).1 ho
  have ok : plOk pl mv i lv p j := by
    intro u hu
    refine ⟨hu.1, S, r, fun v hv => ?_, hS u hu⟩
    obtain ⟨c1, c2⟩ := hc v hv
    by_cases z : v = p
    · subst z
      exact ⟨fun _ => ⟨w, (lvO_eq a c).mpr d.symm, e, f⟩, fun q => absurd ho q⟩
    · exact ⟨fun q => (c1 q).elim fun w' g => ⟨w', (lvO_ne z).mpr g.1, g.2⟩, fun q w' hw => c2 q w' ((lvO_ne z).mp hw)⟩
  obtain ⟨k, ⟨k1, k2, k3⟩, hmin⟩ := pk_least (fun k => k < mv.length ∧ lA mv k = p ∧ plOk pl mv i lv p k) ⟨j, a, c, ok⟩
  exact ⟨k, k1, k2, k3, fun j hj hf ho2 => hmin j hj ⟨by omega, hf, ho2⟩⟩
theorem pl_step {pl mv : List (Nat × Nat)} {i : Nat} {lv : Nat → Bool} {p k : Nat} (hI : plInv pl mv i lv) (ho : lA pl p = i) (h : plOk pl mv i lv p k) : plInv pl mv i (lvO mv lv p k) :=
  ⟨fun v w hv he => (lvO_ne (fun z => hv (by rw [z]; exact ho))).mpr (hI.1 v w hv he), h⟩
theorem plInv_lv {pl mv : List (Nat × Nat)} (hg : gOk0 pl mv) (i : Nat) : ∀ p, plInv pl mv i (plLv pl mv i p)
  | 0 => ⟨fun _ _ _ h => h, fun _ h => h⟩
  | p + 1 => by
    have ih := plInv_lv hg i p
    unfold plLv
    by_cases q : lA pl p = i ∧ gW pl mv allL i p
    · rw [if_pos q]
      obtain ⟨k, hk⟩ := pl_ex hg ih q.2 q.1
      rw [plK_eq hk]
      exact pl_step ih q.1 hk.2.2.1
    · rw [if_neg q]
      exact ih
theorem pl_out {pl mv : List (Nat × Nat)} {i : Nat} {lv : Nat → Bool} {p k : Nat} (hg : gOk0 pl mv) (hI : plInv pl mv i lv) (ho : lA pl p = i) (hp : gW pl mv allL i p) (hk : k < mv.length) (hf : lA mv k = p) (hw : ¬ gW pl mv allL i (lB mv k)) : ¬ plOk pl mv i lv p k := by
  intro h
  obtain ⟨_, S, r, hc, hs⟩ := h p hp
  obtain ⟨w, h1, h2, _⟩ := (hc p hs).1 ho
  have e := (lvO_eq hk hf).mp h1
  subst e
  refine hw ⟨(gOk0_mv hg hk).2, S, r, p_up hc (fun v w ⟨j, a, _, c, d⟩ => ⟨j, a, rfl, c, d⟩) (fun v w q he => ?_), h2⟩
  exact (lvO_ne (fun z => q (by rw [z]; exact ho))).mpr (hI.1 v w q he)
theorem plLv_at {pl mv : List (Nat × Nat)} (hg : gOk0 pl mv) {i p : Nat} (ho : lA pl p = i) (hp : gW pl mv allL i p) : plIs pl mv i (plLv pl mv i p) p (plK pl mv i (plLv pl mv i p) p) ∧ plLv pl mv i (p + 1) = lvO mv (plLv pl mv i p) p (plK pl mv i (plLv pl mv i p) p) ∧ plV pl mv p = nI (plK pl mv i (plLv pl mv i p) p) := by
  obtain ⟨k, hk⟩ := pl_ex hg (plInv_lv hg i p) hp ho
  refine ⟨by rw [plK_eq hk]; exact hk, ?_, ?_⟩
  · exact if_pos ⟨ho, hp⟩
  · unfold plV
    rw [ho]
    exact if_pos hp
theorem plLv_no {pl mv : List (Nat × Nat)} {i p : Nat} (h : ¬ (lA pl p = i ∧ gW pl mv allL i p)) : plLv pl mv i (p + 1) = plLv pl mv i p := if_neg h
theorem plV_no {pl mv : List (Nat × Nat)} {p : Nat} (h : ¬ gW pl mv allL (lA pl p) p) : plV pl mv p = rFst (fun k => decide (lA mv k = p)) mv.length := if_neg h
/-! the class's plan -/
theorem bd_lv {pl mv : List (Nat × Nat)} {lv lv' : Nat → Bool} {owned calling next next' : Nat → Int32} (hg : gOk0 pl mv) (hB : bdOk pl.length (lA pl) (lB pl) (gL mv lv) owned calling next) (h : ∀ v w, v < pl.length → (bt (next' v) w = true ↔ gL mv lv' v w)) : bdOk pl.length (lA pl) (lB pl) (gL mv lv') owned calling next' :=
  ⟨hB.1, hB.2.1, hB.2.2.1, fun v w => gL_lt hg v w, hB.2.2.2.2.1, hB.2.2.2.2.2.1, h⟩
theorem winningMove_ok {pl mv : List (Nat × Nat)} {i p : Nat} {lv : Nat → Bool} {places odd moves won all : Int32} {calls fr to owned calling next : Nat → Int32} {post : Int32 → (Nat → Int32) → Prop} (hg : gOk0 pl mv) (hr : RP pl places odd calls) (hv : RV mv moves fr to)
    (ho : lA pl p = i) (hp : gW pl mv allL i p) (hI : plInv pl mv i lv) (hwon : ∀ u, bt won u = true ↔ gW pl mv allL i u) (hall : ∀ u, bt all u = true ↔ u < pl.length) (hB : bdOk pl.length (lA pl) (lB pl) (gL mv lv) owned calling next)
    (h : ∀ n', bdOk pl.length (lA pl) (lB pl) (gL mv (lvO mv lv p (plK pl mv i lv p))) owned calling n' → post (nI (plK pl mv i lv p)) n') : wp_X3_winningMove (nI p) won odd moves fr to (nI pl.length) all calling next owned post := by
  obtain ⟨K, hK⟩ := pl_ex hg hI hp ho
  rw [plK_eq hK] at h
  have hn := hg.1
  have hm := hg.2.1
  have hi : i < 2 := by rw [← ho]; exact (gOk0_ow hg p).1
  have hpl := hp.1
  obtain ⟨rfl, hv⟩ := hv
  unfold wp_X3_winningMove
  refine x1_ownerOf hr hp.1 hg.1 (gOk0_ow hg p).1 ?_
  rw [ho]
  refine up2i mv.length (by omega) (fun k nx => k ≤ K ∧ ∀ v w, v < pl.length → v ≠ p → (bt (nx v) w = true ↔ gL mv lv v w)) 0 _ (Nat.zero_le _) ⟨Nat.zero_le _, fun v w hv' _ => hB.2.2.2.2.2.2 v w hv'⟩ (fun rec nx hJ => absurd hJ.1 (by have := hK.1; omega)) (fun rec k nx hk hJ go => ?_)
  unfold F_X3_winningMove_10
  obtain ⟨r1, r2⟩ := hv k hk
  obtain ⟨g1, g2⟩ := gOk0_mv hg hk
  rw [nI_clamp (show k < 2 ^ 31 by omega), r1, r2, nI_clamp (show p < 2 ^ 31 by omega)]
  have next : ¬ (lA mv k = p ∧ plOk pl mv i lv p k) → k + 1 ≤ K := fun q => by
    rcases Nat.lt_or_ge k K with z | z
    · exact z
    · have : k = K := by have := hJ.1; omega
      subst this
      exact absurd ⟨hK.2.1, hK.2.2.1⟩ q
  refine lpS hk (by omega) ⟨vp_in_nI (by omega) (by omega), fun q => go _ ⟨next (fun z => q (by rw [z.1])), hJ.2⟩, fun q => ⟨vp_in_nI (by omega) (by omega), ?_⟩⟩
  have e : lA mv k = p := (nI_eq (by omega) (by omega)).mp q
  refine has_ok (by omega) (fun hb => ⟨fun z => absurd z (by decide), fun _ => ⟨vp_in_nI (by omega) (by omega), vp_in_nI (by omega) (by omega), ?_⟩⟩) (fun hb => ⟨fun _ => go _ ⟨next (fun z => ?_), hJ.2⟩, fun z => absurd rfl z⟩)
  · have hB2 : bdOk pl.length (lA pl) (lB pl) (gL mv (lvO mv lv p k)) owned calling (upd nx p ((1 : Int32) <<< (nI (lB mv k) &&& 31))) := bd_lv hg hB (fun v w hv' => by
      rw [upd_get]
      by_cases z : v = p
      · subst z
        rw [if_pos rfl, b_one (by omega), decide_eq_true_eq, lvO_eq hk e]
      · rw [if_neg z, hJ.2 v w hv' z, lvO_ne z])
    refine wonBy_ok hi hB2 hall (fun r hr' => ⟨fun z => go _ ⟨next (fun y => z (b_sub0.mpr fun u hu => ?_)), fun v w a b => ?_⟩, fun z => ?_⟩)
    · exact (hr' u).mpr (y.2 u ((hwon u).mp hu))
    · rw [upd_get, if_neg b]
      exact hJ.2 v w a b
    · have ok : plOk pl mv i lv p k := fun u hu => (hr' u).mp (b_sub0.mp z u ((hwon u).mpr hu))
      have : k = K := by
        rcases Nat.lt_or_ge k K with y | y
        · exact absurd ok (hK.2.2.2 k y e)
        · have := hJ.1; omega
      subst this
      exact h _ hB2
  · exact pl_out hg hI ho hp hk e (fun y => hb ((hwon _).mpr y)) z.2
theorem x3_wonBy {pl mv : List (Nat × Nat)} {i : Nat} {places odd moves zero zk bp ba : Int32} {calls fr to calling next owned : Nat → Int32} {post : Int32 → Int32 → Int32 → Int32 → Int32 → (Nat → Int32) → (Nat → Int32) → (Nat → Int32) → Prop} (hi : i < 2) (hg : gOk0 pl mv) (hp : RP pl places odd calls) (hv : RV mv moves fr to) (hz : RZ pl mv zero zk)
    (h : ∀ r z' k' p' a' c' n' o', (∀ u, bt r u = true ↔ gW pl mv allL i u) → RZ pl mv z' k' → ¬ k' = 0 → post r z' k' p' a' c' n' o') : wp_X3_wonBy (nI i) places odd moves zero zk calls fr to bp ba calling next owned post := by
  have hz' : ¬ zk = 0 → ∀ u, bt zero u = true ↔ gW pl mv allL 0 u := fun q u => by
    rw [hz q u]
    unfold gW gWin
    rw [gL_all]
  have hcomp : ∀ z : Int32, (∀ u, bt z u = true ↔ gW pl mv allL 0 u) → ∀ u, bt ((((1 : Int32) <<< (places &&& 31)) - (1 : Int32)) &&& (z ^^^ (-1 : Int32))) u = true ↔ gW pl mv allL 1 u := fun z hz u => by
    rw [b_diff, hp.1, b_all hg.1, decide_eq_true_eq, hz]
    exact ⟨fun q => (gW_det hg q.1).mp q.2, fun q => ⟨q.1, (gW_det hg q.1).mpr q⟩⟩
  have hx : ∀ (z : Int32), (∀ u, bt z u = true ↔ gW pl mv allL 0 u) → RZ pl mv z 1 := fun z hz _ u => by
    rw [hz u]
    unfold gW gWin
    rw [gL_all]
  unfold wp_X3_wonBy
  refine ⟨fun q => ⟨fun q2 => h _ _ _ _ _ _ _ _ ?_ hz q, fun q2 => h _ _ _ _ _ _ _ _ ?_ hz q⟩, fun q => take_ok hg hp hv (fun al c' n' o' hal hB => wonBy_ok (i := 0) (by decide) hB hal (fun r hr => ?_))⟩
  · have e : i = 1 := by
      rcases (show i = 0 ∨ i = 1 by omega) with e | e
      · subst e; exact absurd rfl q2
      · exact e
    subst e
    exact hcomp _ (hz' q)
  · have e : i = 0 := by
      rcases (show i = 0 ∨ i = 1 by omega) with e | e
      · exact e
      · subst e; exact absurd q2 (by decide)
    subst e
    exact hz' q
  · have hr' : ∀ u, bt r u = true ↔ gW pl mv allL 0 u := fun u => by
      rw [hr u]
      unfold gW
      rw [gL_all]
    refine ⟨fun q2 => h _ _ _ _ _ _ _ _ ?_ (hx _ hr') (by decide), fun q2 => h _ _ _ _ _ _ _ _ ?_ (hx _ hr') (by decide)⟩
    · have e : i = 1 := by
        rcases (show i = 0 ∨ i = 1 by omega) with e | e
        · subst e; exact absurd rfl q2
        · exact e
      subst e
      exact hcomp _ hr'
    · have e : i = 0 := by
        rcases (show i = 0 ∨ i = 1 by omega) with e | e
        · exact e
        · subst e; exact absurd q2 (by decide)
      subst e
      exact hr'
/-- the plan that is kept, if it is known -/
def RC (pl mv : List (Nat × Nat)) (chosen : Nat → Int32) (ck : Int32) : Prop := ¬ ck = 0 → ∀ u, u < pl.length → chosen u = plV pl mv u
theorem x3_choose {pl mv : List (Nat × Nat)} {places odd moves zero zk ck bp ba : Int32} {calls fr to chosen calling next owned : Nat → Int32} {post : Int32 → Int32 → Int32 → Int32 → Int32 → (Nat → Int32) → (Nat → Int32) → (Nat → Int32) → (Nat → Int32) → Prop} (hg : gOk0 pl mv) (hp : RP pl places odd calls) (hv : RV mv moves fr to) (hz : RZ pl mv zero zk) (hc : RC pl mv chosen ck)
    (h : ∀ z' k' p' a' ch c' n' o', RZ pl mv z' k' → (∀ u, u < pl.length → ch u = plV pl mv u) → post z' k' 1 p' a' ch c' n' o') : wp_X3_choose places odd moves zero zk ck calls fr to bp ba chosen calling next owned post := by
  have hn := hg.1
  have hm := hg.2.1
  unfold wp_X3_choose
  refine fx9_go (fun v2 z zk _ _ ch _ _ _ => ∃ i, i ≤ 2 ∧ v2 = nI i ∧ RZ pl mv z zk ∧ RC pl mv ch ck ∧ ∀ u, u < pl.length → lA pl u < i → ch u = plV pl mv u) (fun v2 _ _ _ _ _ _ _ _ => 2 - v2.toNatClampNeg) ?_ _ _ _ _ _ _ _ _ _ ⟨0, Nat.zero_le _, rfl, hz, hc, fun u _ q => absurd q (Nat.not_lt_zero _)⟩
  rintro rec v2 z zk p1 a1 ch c1 n1 o1 ⟨i, hi, rfl, hz, hc, hI⟩ hrec
  unfold F_X3_choose_2
  rcases Nat.lt_or_ge i 2 with q | q
  rotate_left
  · have e : i = 2 := by omega
    subst e
    exact lpE (e := 2) (h _ _ _ _ _ _ _ _ hz (fun u hu => hI u hu (gOk0_ow hg u).1))
  refine lpS (e := 2) q (by decide) ⟨fun hk => h _ _ _ _ _ _ _ _ hz (hc hk), fun hk => ?_⟩
  refine x3_wonBy q hg hp hv hz (fun r z' k' p' a' c' n' o' hr hz2 hk2 => take_ok hg hp hv (fun al c2 n2 o2 hal hB => ?_))
  obtain ⟨rfl, hp1, hp2⟩ := hp
  have hp : RP pl (nI pl.length) odd calls := ⟨rfl, hp1, hp2⟩
  rw [← gL_all] at hB
  refine up3i pl.length (by omega) (fun p ch nx => bdOk pl.length (lA pl) (lB pl) (gL mv (plLv pl mv i p)) o2 c2 nx ∧ ∀ u, u < pl.length → (lA pl u < i ∨ (u < p ∧ lA pl u = i)) → ch u = plV pl mv u) 0 _ _ (Nat.zero_le _) ⟨hB, fun u hu y => y.elim (hI u hu) (fun y => absurd y.1 (Nat.not_lt_zero _))⟩ (fun rec2 ch nx hJ => ?_) (fun rec2 p ch nx hpn hJ go => ?_)
  · unfold F_X3_choose_32
    refine lpE (hrec _ _ _ _ _ _ _ _ _ ⟨i + 1, by omega, nI_1 i, hz2, fun y => absurd hk y, fun u hu y => hJ.2 u hu ?_⟩ ?_)
    · rcases Nat.lt_or_ge (lA pl u) i with y2 | y2
      · exact Or.inl y2
      · exact Or.inr ⟨hu, by omega⟩
    · rw [nI_1, nI_clamp (by omega), nI_clamp (by omega)]; omega
  · unfold F_X3_choose_32
    refine lpS hpn (by omega) (x1_ownerOf hp hpn hn (gOk0_ow hg p).1 ⟨fun y => ?_, fun y => ?_⟩)
    · have hne : lA pl p ≠ i := fun e => y (by rw [e])
      refine go _ _ ⟨by rw [plLv_no (fun e => hne e.1)]; exact hJ.1, fun u hu e => hJ.2 u hu (e.elim Or.inl (fun e => ?_))⟩
      refine Or.inr ⟨?_, e.2⟩
      rcases Nat.lt_or_ge u p with t | t
      · exact t
      · have : u = p := by omega
        subst this
        exact absurd e.2 hne
    · have ho : lA pl p = i := (nI_eq (by have := (gOk0_ow hg p).1; omega) (by omega)).mp y
      have fin : ∀ (x : Int32) (ch : Nat → Int32), (∀ u, u < pl.length → (lA pl u < i ∨ (u < p ∧ lA pl u = i)) → ch u = plV pl mv u) → x = plV pl mv p → ∀ u, u < pl.length → (lA pl u < i ∨ (u < p + 1 ∧ lA pl u = i)) → upd ch p x u = plV pl mv u := fun x ch hch hx u hu e => by
        rw [upd_get]
        by_cases t : u = p
        · rw [if_pos t, hx, t]
        · rw [if_neg t]
          exact hch u hu (e.elim Or.inl (fun e => Or.inr ⟨by omega, e.2⟩))
      refine has_ok (by omega) (fun hb => ⟨fun t => absurd t (by decide), fun _ => ?_⟩) (fun hb => ⟨fun _ => ?_, fun t => absurd rfl t⟩)
      · have hw := (hr p).mp hb
        obtain ⟨f1, f2, f3⟩ := plLv_at hg ho hw
        refine winningMove_ok hg hp hv ho hw (plInv_lv hg i p) hr hal hJ.1 (fun n' hB' => ⟨vp_in_nI (by omega) (by omega), ?_⟩)
        rw [nI_clamp (show p < 2 ^ 31 by omega)]
        exact go _ _ ⟨by rw [f2]; exact hB', fin _ _ hJ.2 f3.symm⟩
      · have hw : ¬ gW pl mv allL i p := fun t => hb ((hr p).mpr t)
        refine x1_firstMove hv hm (fun k hk => by have := gOk0_mv hg hk; omega) (by omega) ⟨vp_in_nI (by omega) (by omega), ?_⟩
        rw [nI_clamp (show p < 2 ^ 31 by omega)]
        exact go _ _ ⟨by rw [plLv_no (fun e => hw e.2)]; exact hJ.1, fin _ _ hJ.2 (plV_no (by rw [ho]; exact hw)).symm⟩
