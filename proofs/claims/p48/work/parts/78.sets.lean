/-! the law's sets -/
section SETSL
variable {pl mv : List (Nat × Nat)} {g : gm} {hs : List gm} {a b c bp ba places odd moves token made first kept zero zk ck : Int32} {calls fr heard to calling next owned chosen seenAt : Nat → Int32} {rp ro rm rt rd : Nat → Int32} {rc rf rh re : Nat → Nat → Int32}
  {post : Int32 → Int32 → Int32 → (Nat → Int32) → (Nat → Int32) → (Nat → Int32) → Prop} {postX : String → Int32 → Int32 → (Nat → Int32) → (Nat → Int32) → (Nat → Int32) → Prop}
theorem y_pull {i : Nat} {x : Int32} (hi : i < 2) (hx : isS pl.length x) (hg : gOk0 pl mv) (hp : RP pl places odd calls) (hv : RV mv moves fr to)
    (h : ∀ r b1 b2 c1 n1 o1, (∀ u, bt r u = true ↔ ∃ k, pIter (lA pl) (gEd mv) i (sB x) k u) → post r b1 b2 c1 n1 o1) : wp_X5_pull (nI i) x bp ba places odd moves calling next owned calls fr to post postX :=
  x5_pull hg hp hv (fun q => absurd ⟨⟨i, hi, rfl⟩, hx⟩ q) (fun r b1 b2 c1 n1 o1 _ hr => h r b1 b2 c1 n1 o1 (by rwa [ix_nI (by omega)] at hr))
theorem y_stay {i : Nat} {x : Int32} (hi : i < 2) (hx : isS pl.length x) (hg : gOk0 pl mv) (hp : RP pl places odd calls) (hv : RV mv moves fr to)
    (h : ∀ r b1 b2 c1 n1 o1, (∀ u, bt r u = true ↔ ∀ k, sIter (lA pl) (gEd mv) i (sB x) k u) → post r b1 b2 c1 n1 o1) : wp_X5_stay (nI i) x bp ba places odd moves calling next owned calls fr to post postX :=
  x5_stay hg hp hv (fun q => absurd ⟨⟨i, hi, rfl⟩, hx⟩ q) (fun r b1 b2 c1 n1 o1 _ hr => h r b1 b2 c1 n1 o1 (by rwa [ix_nI (by omega)] at hr))
theorem y_comeBack {i : Nat} {x : Int32} (hi : i < 2) (hx : isS pl.length x) (hg : gOk0 pl mv) (hp : RP pl places odd calls) (hv : RV mv moves fr to)
    (h : ∀ r b1 b2 c1 n1 o1, (∀ u, bt r u = true ↔ ∀ k, cIter (lA pl) (gEd mv) i pl.length (sB x) k u) → post r b1 b2 c1 n1 o1) : wp_X5_comeBack (nI i) x bp ba places odd moves calling next owned calls fr to post postX :=
  x5_comeBack hg hp hv (fun q => absurd ⟨⟨i, hi, rfl⟩, hx⟩ q) (fun r b1 b2 c1 n1 o1 _ hr => h r b1 b2 c1 n1 o1 (by rwa [ix_nI (by omega)] at hr))
theorem y_isTrap {i : Nat} {x : Int32} (hi : i < 2) (hx : isS pl.length x) (hg : gOk0 pl mv) (hp : RP pl places odd calls) (hv : RV mv moves fr to)
    (h : ∀ b1 b2 c1 n1 o1, post (tV pl mv i x) b1 b2 c1 n1 o1) : wp_X5_isTrap (nI i) x bp ba places odd moves calling next owned calls fr to post postX :=
  x5_isTrap hg hp hv (fun q => absurd ⟨⟨i, hi, rfl⟩, hx⟩ q) (fun b1 b2 c1 n1 o1 _ => by rw [ix_nI (by omega)]; exact h b1 b2 c1 n1 o1)
theorem y_pullIn {i u : Nat} {x : Int32} (hi : i < 2) (hu : u < pl.length) (hx : isS pl.length x) (hg : gOk0 pl mv) (hp : RP pl places odd calls) (hv : RV mv moves fr to)
    (h : ∀ b1 b2 c1 n1 o1, post (pDist pl mv i x u) b1 b2 c1 n1 o1) : wp_X5_pullIn (nI u) (nI i) x bp ba places odd moves calling next owned calls fr to post postX :=
  x5_pullIn hg hp hv (fun q => absurd ⟨u, hu, rfl⟩ q) (fun _ q => absurd ⟨⟨i, hi, rfl⟩, hx⟩ q) (fun b1 b2 c1 n1 o1 _ _ => by rw [ix_nI (by omega), ix_nI (by have := hg.1; omega)]; exact h b1 b2 c1 n1 o1)
theorem tV_eq {i : Nat} {x v : Int32} (h1 : v = 0 ∨ v = 1) (h : v = 1 ↔ trap (lA pl) (gEd mv) i (sB x)) : tV pl mv i x = v := by
  unfold tV
  by_cases q : trap (lA pl) (gEd mv) i (sB x)
  · rw [if_pos (pD_t.mpr q), h.mpr q]
  · rw [if_neg (fun z => q (pD_t.mp z))]
    exact (h1.resolve_right (fun z => q (h.mp z))).symm
theorem y_bit1 {x : Int32} {k : Nat} (hk : k < 32) : ((x >>> (nI k &&& 31)) &&& (1 : Int32)) = 1 ↔ bt x k = true := by
  rw [y_bit hk]
  by_cases z : bt x k = true
  · rw [if_pos z]; exact ⟨fun _ => z, fun _ => rfl⟩
  · rw [if_neg z]; exact ⟨fun q => absurd q (by decide), fun q => absurd q z⟩
theorem y_all {n : Nat} (hn : n ≤ 20) {x : Int32} (h : ∀ u, bt x u = true ↔ u < n) : x = ((1 : Int32) <<< (nI n &&& 31)) - 1 :=
  b_same h (fun u => by rw [b_all hn]; exact decide_eq_true_iff)
theorem y_but {n : Nat} (hn : n ≤ 20) (x : Int32) (u : Nat) : bt ((((1 : Int32) <<< (nI n &&& 31)) - 1) &&& (x ^^^ (-1 : Int32))) u = true ↔ u < n ∧ ¬ bt x u = true := by
  rw [b_diff, b_all hn, decide_eq_true_eq]
theorem y_sets {post : Int32 → Int32 → Int32 → Int32 → Int32 → (Nat → Int32) → (Nat → Int32) → (Nat → Int32) → Prop} {set : Int32} (hs : isS g.1.length set) (hg : gOk g) (hr : RG g places odd moves token made calls fr heard to) (hz : RZ g.1 g.2.1 zero zk)
    (h : ∀ b1 b2 z' k' c1 n1 o1, RZ g.1 g.2.1 z' k' → post 1 b1 b2 z' k' c1 n1 o1) :
    wp_L_sets set bp ba places odd moves token made zero zk calling next owned calls fr to post := by
  have hg0 := hg.1
  have hn := hg0.1
  have hm := hg0.2.1
  obtain ⟨hp, hv, ht⟩ := hr
  have hr : RG g places odd moves token made calls fr heard to := ⟨hp, hv, ht⟩
  have hE : ∀ v w, gEd g.2.1 v w → v < g.1.length ∧ w < g.1.length := fun v w e => gEd_lt hg0 e
  have ho : ∀ v, lA g.1 v < 2 := fun v => (gOk0_ow hg0 v).1
  unfold wp_L_sets
  refine y_size (w := 0) hg hr (by decide) (fun b1 b2 c1 n1 o1 => ?_)
  rw [sz_0]
  refine fx9_go (fun v4 v5 _ _ z k _ _ _ => v4 = 1 ∧ ∃ q, q ≤ 2 ∧ v5 = nI q ∧ RZ g.1 g.2.1 z k) (fun _ v5 _ _ _ _ _ _ _ => 2 - v5.toNatClampNeg) ?_ _ _ _ _ _ _ _ _ _
    ⟨rfl, 0, Nat.zero_le _, rfl, hz⟩
  rintro rec v4 v5 b1 b2 z k c1 n1 o1 ⟨rfl, q, hq, rfl, hz⟩ hrec
  unfold F_L_sets_18
  refine ⟨fun _ => ⟨rfl, h _ _ _ _ _ _ _ hz⟩, fun hlt => ⟨fun y => absurd y (by decide), fun _ => ?_⟩⟩
  have hi : q < 2 := by
    rcases Nat.lt_or_ge q 2 with y | y
    · exact y
    · exact absurd (nI_le (a := 2) y (by omega)) hlt
  have hall : isS g.1.length (((1 : Int32) <<< (nI g.1.length &&& 31)) - 1) := fun u hu => by rw [b_all hn] at hu; exact of_decide_eq_true hu
  refine y_pull hi hs hg0 hp hv (fun pull b1 b2 c1 n1 o1 hpull => ?_)
  have spull : isS g.1.length pull := fun u hu => by
    obtain ⟨k, hk⟩ := (hpull u).mp hu
    exact pIter_n hE hs k u hk
  refine y_stay hi hs hg0 hp hv (fun st b1 b2 c1 n1 o1 hst => ?_)
  have sst : isS g.1.length st := fun u hu => hs u ((hst u).mp hu 0)
  refine y_comeBack hi hs hg0 hp hv (fun back b1 b2 c1 n1 o1 hback => ?_)
  refine ⟨b_same (b_andI) (fun u => ⟨fun y => ⟨(hpull u).mpr ⟨0, y⟩, y⟩, fun y => y.2⟩), ?_⟩
  refine y_pull hi spull hg0 hp hv (fun r b1 b2 c1 n1 o1 hr2 => ⟨b_same hr2 (fun u => ⟨fun y => ⟨0, y⟩, fun ⟨k, y⟩ => ?_⟩), ?_⟩)
  · exact (hpull u).mpr (p_idem hE hs k u (pIter_mono (fun v hv => (hpull v).mp hv) k u y))
  refine ⟨b_sub0.mpr (fun u y => (hst u).mp y 0), ?_⟩
  refine y_stay hi sst hg0 hp hv (fun r b1 b2 c1 n1 o1 hr2 => ⟨b_same hr2 (fun u => ⟨fun y k => ?_, fun y => y 0⟩), ?_⟩)
  · have e : sB st = fun u => ∀ k, sIter (lA g.1) (gEd g.2.1) q (sB set) k u := funext fun u => propext (hst u)
    rw [e]
    exact s_idem hE hs k u ((hst u).mp y)
  refine ⟨b_sub0.mpr (fun u y => (hpull u).mpr (c_in_p ((hback u).mp y))), ?_⟩
  have hbut : ∀ x : Int32, isS g.1.length ((((1 : Int32) <<< (nI g.1.length &&& 31)) - 1) &&& (x ^^^ (-1 : Int32))) := fun x u hu => ((y_but hn x u).mp hu).1
  refine y_isTrap hi (hbut pull) hg0 hp hv (fun b1 b2 c1 n1 o1 => ?_)
  refine y_allMoves hi hg hr hz (fun v b1 b2 z k c1 n1 o1 h01 hv1 hz => ⟨tV_eq h01 (hv1.trans ?_), ?_⟩)
  · have e := p_trapc (i := q) (ow := lA g.1) (C := sB ((((1 : Int32) <<< (nI g.1.length &&& 31)) - 1) &&& (pull ^^^ (-1 : Int32)))) hE hs (fun v => (y_but hn pull v).trans ⟨fun y => ⟨y.1, fun z => y.2 ((hpull v).mpr z)⟩, fun y => ⟨y.1, fun z => y.2 ((hpull v).mp z)⟩⟩)
    exact ⟨fun y => e.mpr (fun v hv => y v (((y_but hn pull v).mp hv).1) hv), fun y u _ hu => e.mp y u hu⟩
  have edual : sB ((((1 : Int32) <<< (nI g.1.length &&& 31)) - 1) &&& (set ^^^ (-1 : Int32))) = fun u => u < g.1.length ∧ ¬ sB set u := funext fun u => propext (y_but hn set u)
  have dual : ∀ r : Int32, (∀ u, bt r u = true ↔ ∀ k, sIter (lA g.1) (gEd g.2.1) (1 - q) (sB ((((1 : Int32) <<< (nI g.1.length &&& 31)) - 1) &&& (set ^^^ (-1 : Int32)))) k u) → ∀ u, bt r u = true ↔ u < g.1.length ∧ ¬ bt pull u = true := by
    intro r hr2 u
    rw [hr2, edual]
    constructor
    · intro y
      have hu : u < g.1.length := (y 0).1
      refine ⟨hu, fun z => ?_⟩
      obtain ⟨k, hk⟩ := (hpull u).mp z
      exact (s_dual hi ho hE k u hu).mp (y k) hk
    · rintro ⟨hu, y⟩ k
      exact (s_dual hi ho hE k u hu).mpr (fun z => y ((hpull u).mpr ⟨k, z⟩))
  rw [i_1sub hi]
  refine y_stay (by omega) (hbut set) hg0 hp hv (fun r b1 b2 c1 n1 o1 hr2 => ⟨y_all hn (fun u => ?_), ?_⟩)
  · rw [b_orI, dual r hr2]
    constructor
    · rintro (y | y)
      · exact y.1
      · exact spull u y
    · intro y
      by_cases z : bt pull u = true
      · exact Or.inr z
      · exact Or.inl ⟨y, z⟩
  refine y_stay (by omega) (hbut set) hg0 hp hv (fun r b1 b2 c1 n1 o1 hr2 => ⟨b_and0.mpr (fun u y => ((dual r hr2 u).mp y).2), ?_⟩)
  unfold J_L_sets_182
  refine y_comeBack hi hall hg0 hp hv (fun r b1 b2 c1 n1 o1 hr2 => ?_)
  refine y_dead hi hg hr hz (fun v x b1 b2 z k c1 n1 o1 hx hvx hz => ⟨y_all hn (fun u => ?_), ?_⟩)
  · rw [b_orI, hr2, hvx]
    constructor
    · rintro (y | ⟨k, y⟩)
      · exact y 0
      · exact pIter_n hE (fun v hv => ((hx v).mp hv).1) k u y
    · intro hu
      by_cases y : ∃ k, pIter (lA g.1) (gEd g.2.1) (1 - q) (sB x) k u
      · exact Or.inr y
      · exact Or.inl (c_all hi ho hE (fun v => by show bt _ v = true ↔ _; rw [b_all hn]; exact decide_eq_true_iff) hx hu y)
  unfold J_L_sets_212
  refine fx7_go (fun v4 v9 _ _ _ _ _ => v4 = 1 ∧ ∃ p, p ≤ g.1.length ∧ v9 = nI p) (fun _ v9 _ _ _ _ _ => g.1.length - v9.toNatClampNeg) ?_ _ _ _ _ _ _ _
    ⟨rfl, 0, Nat.zero_le _, rfl⟩
  rintro rec2 v4 v9 b1 b2 c1 n1 o1 ⟨rfl, p, hp2, rfl⟩ hrec2
  unfold F_L_sets_215
  refine ⟨fun _ => hrec _ _ _ _ _ _ _ _ _ ⟨rfl, q + 1, hi, nI_1 q, hz⟩ (by rw [nI_1, nI_clamp (by omega), nI_clamp (by omega)]; omega), fun hlt => ⟨fun y => absurd y (by decide), fun _ => ?_⟩⟩
  have hpl : p < g.1.length := by
    rcases Nat.lt_or_ge p g.1.length with y | y
    · exact y
    · exact absurd (nI_le y (by omega)) hlt
  have go : ∀ b1 b2 c1 n1 o1, rec2 1 (nI p + 1) b1 b2 c1 n1 o1 := fun b1 b2 c1 n1 o1 => hrec2 _ _ _ _ _ _ _ ⟨rfl, p + 1, hpl, nI_1 p⟩ (by rw [nI_1, nI_clamp (by omega), nI_clamp (by omega)]; omega)
  refine y_pullIn hi hpl hs hg0 hp hv (fun b1 b2 c1 n1 o1 => ?_)
  by_cases y : ∃ k, pIter (lA g.1) (gEd g.2.1) q (sB set) k p
  · obtain ⟨k, hk⟩ := y
    obtain ⟨j, hj, hj1, hj2⟩ := p_least hE hs hk
    rw [pDist_ye hj1 hj2]
    have bp1 : bt pull p = true := (hpull p).mpr ⟨k, hk⟩
    refine ⟨fun w => absurd w (nI_pos (by omega)), fun _ => ⟨fun w => w ((y_bit1 (by omega)).mpr bp1), fun _ => ⟨fun w => ?_, fun w => ⟨fun x => go _ _ _ _ _, fun x => ?_⟩, fun w => ⟨fun x => ?_, fun _ => go _ _ _ _ _⟩⟩⟩⟩
    · have := (nI_leI (by omega) (by omega)).mp w
      omega
    · have hj0 : 0 < j := by
        rcases Nat.eq_zero_or_pos j with e | e
        · rw [e] at w; exact absurd rfl w
        · exact e
      exact hj2 0 hj0 ((y_bit1 (by omega)).mp x)
    · have e : j = 0 := (nI_eq (b := 0) (by omega) (by omega)).mp w
      rw [e] at hj1
      exact x ((y_bit1 (by omega)).mpr hj1)
  · rw [pDist_no (fun k hk => y ⟨k, hk⟩)]
    have bp1 : ¬ bt pull p = true := fun z => y ((hpull p).mp z)
    refine ⟨fun _ => ⟨fun _ => ⟨fun w => ?_, fun _ => ⟨fun _ => go _ _ _ _ _, fun x => y ⟨0, (y_bit1 (by omega)).mp x⟩⟩, fun w => absurd w (by decide)⟩, fun w => bp1 ((y_bit1 (by omega)).mp w)⟩, fun w => absurd (by decide) w⟩
    exact absurd (Int32.le_trans (nI_pos' (n := g.1.length) (by omega)) w) (by decide)
end SETSL
