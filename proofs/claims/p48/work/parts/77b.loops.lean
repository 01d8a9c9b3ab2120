/-! the law's loops over places and moves: allMoves, dead, sum -/
section LOOPS8
variable {pl mv : List (Nat × Nat)} {g : gm} {hs : List gm} {a b c bp ba places odd moves token made first kept zero zk ck : Int32} {calls fr heard to calling next owned chosen seenAt : Nat → Int32} {rp ro rm rt rd : Nat → Int32} {rc rf rh re : Nat → Nat → Int32}
theorem pa_0 (u : Nat) : paV pl mv u 0 = nI (lA pl u) := if_pos rfl
theorem pa_1 (u : Nat) : paV pl mv u 1 = nI (lB pl u) := (if_neg (by decide)).trans (if_pos rfl)
theorem pa_2 (u : Nat) : paV pl mv u 2 = nI (pCnt (cAt mv u) mv.length) := (if_neg (by decide)).trans ((if_neg (by decide)).trans (if_pos rfl))
theorem pa_4 (u : Nat) : paV pl mv u 4 = wnV pl mv u := (if_neg (by decide)).trans ((if_neg (by decide)).trans ((if_neg (by decide)).trans (if_neg (by decide))))
theorem y_place {u w : Nat} {post : Int32 → Int32 → Int32 → Int32 → Int32 → (Nat → Int32) → (Nat → Int32) → (Nat → Int32) → Prop} {postX : String → Int32 → Int32 → Int32 → Int32 → (Nat → Int32) → (Nat → Int32) → (Nat → Int32) → Prop}
    (hg : gOk0 pl mv) (hp : RP pl places odd calls) (hv : RV mv moves fr to) (hz : RZ pl mv zero zk) (hu : u < pl.length) (hw : w < 5)
    (h : ∀ b1 b2 z' k' c1 n1 o1, RZ pl mv z' k' → post (paV pl mv u w) b1 b2 z' k' c1 n1 o1) : wp_X5_place (nI u) (nI w) bp ba places odd moves zero zk calling next owned calls fr to post postX := by
  have hn := hg.1
  have e1 : ix (nI u) = u := ix_nI (by omega)
  have e2 : ix (nI w) = w := ix_nI (by omega)
  exact x5_place hg hp hv hz (fun q => absurd ⟨u, hu, rfl⟩ q) (fun _ q => absurd ⟨w, hw, rfl⟩ q) (fun b1 b2 z' k' c1 n1 o1 _ _ hz' => by rw [e1, e2]; exact h b1 b2 z' k' c1 n1 o1 hz')
theorem y_size {w : Nat} {post : Int32 → Int32 → Int32 → (Nat → Int32) → (Nat → Int32) → (Nat → Int32) → Prop} {postX : String → Int32 → Int32 → (Nat → Int32) → (Nat → Int32) → (Nat → Int32) → Prop}
    (hg : gOk g) (hr : RG g places odd moves token made calls fr heard to) (hw : w < 8)
    (h : ∀ b1 b2 c1 n1 o1, post (szV g w) b1 b2 c1 n1 o1) : wp_X5_size (nI w) bp ba places odd moves token made calling next owned calls fr to post postX := by
  have e2 : ix (nI w) = w := ix_nI (by omega)
  exact x5_size hg hr (fun q => absurd ⟨w, hw, rfl⟩ q) (fun b1 b2 c1 n1 o1 _ => by rw [e2]; exact h b1 b2 c1 n1 o1)
theorem y_move {u w : Nat} {post : Int32 → Prop} {postX : String → Prop} (hg : gOk0 pl mv) (hv : RV mv moves fr to) (hu : u < mv.length) (hw : w < 2)
    (h : post (nI (if w = 0 then lA mv u else lB mv u))) : wp_X5_move (nI u) (nI w) moves fr to post postX := by
  have hm := hg.2.1
  have e1 : ix (nI u) = u := ix_nI (by omega)
  have e2 : ix (nI w) = w := ix_nI (by omega)
  exact x5_move hg hv (fun q => absurd ⟨u, hu, rfl⟩ q) (fun _ q => absurd ⟨w, hw, rfl⟩ q) (fun _ _ => by rw [e1, e2]; exact h)
theorem sz_0 : szV g 0 = nI g.1.length := if_pos rfl
theorem sz_1 : szV g 1 = nI g.2.1.length := (if_neg (by decide)).trans (if_pos rfl)
/-- is the bit set, as the law asks it -/
theorem y_bit {x : Int32} {k : Nat} (hk : k < 32) : ((x >>> (nI k &&& 31)) &&& (1 : Int32)) = if bt x k = true then 1 else 0 := b_ext (fun j hj => by
  rw [b_and, b_sshr k hk x hj]
  rcases Nat.eq_zero_or_pos j with rfl | q
  · rw [if_pos (show k + 0 < 32 by omega), Nat.add_zero]
    by_cases z : bt x k = true
    · rw [if_pos z, z]; decide
    · rw [if_neg z, b_0]
      cases y : bt x k
      · rfl
      · exact absurd y z
  · have e1 : bt (1 : Int32) j = false := by
      rw [show (1 : Int32) = nI 1 from rfl, bt_nI]
      rw [show Nat.testBit 1 j = false by
        rw [Nat.testBit_eq_decide_div_mod_eq]
        have : 1 / 2 ^ j = 0 := Nat.div_eq_of_lt (Nat.one_lt_two_pow (by omega))
        rw [this]
        rfl]
      rw [Bool.and_false]
    rw [e1, Bool.and_false]
    by_cases z : bt x k = true
    · rw [if_pos z, e1]
    · rw [if_neg z, b_0])
theorem y_bit0 {x : Int32} {k : Nat} (hk : k < 32) : ((x >>> (nI k &&& 31)) &&& (1 : Int32)) = 0 ↔ ¬ bt x k = true := by
  rw [y_bit hk]
  by_cases z : bt x k = true
  · rw [if_pos z]; exact ⟨fun q => absurd q (by decide), fun q => absurd z q⟩
  · rw [if_neg z]; exact ⟨fun _ => z, fun _ => rfl⟩
theorem y_allMoves {post : Int32 → Int32 → Int32 → Int32 → Int32 → (Nat → Int32) → (Nat → Int32) → (Nat → Int32) → Prop} {i : Nat} {set : Int32} (hi : i < 2) (hg : gOk g) (hr : RG g places odd moves token made calls fr heard to) (hz : RZ g.1 g.2.1 zero zk)
    (h : ∀ v b1 b2 z' k' c1 n1 o1, (v = 0 ∨ v = 1) → (v = 1 ↔ ∀ u, u < g.1.length → bt set u = true → lA g.1 u ≠ i → ∃ w, gEd g.2.1 u w) → RZ g.1 g.2.1 z' k' → post v b1 b2 z' k' c1 n1 o1) :
    wp_L_allMoves (nI i) set bp ba places odd moves token made zero zk calling next owned calls fr to post := by
  have hg0 := hg.1
  have hn := hg0.1
  have hm := hg0.2.1
  obtain ⟨hp, hv, ht⟩ := hr
  have hr : RG g places odd moves token made calls fr heard to := ⟨hp, hv, ht⟩
  unfold wp_L_allMoves
  refine fx9_go (fun v3 v4 _ _ z k _ _ _ => ∃ q, q ≤ g.1.length ∧ v4 = nI q ∧ RZ g.1 g.2.1 z k ∧ (v3 = 0 ∨ v3 = 1) ∧ (v3 = 1 ↔ ∀ u, u < q → bt set u = true → lA g.1 u ≠ i → ∃ w, gEd g.2.1 u w)) (fun _ v4 _ _ _ _ _ _ _ => g.1.length - v4.toNatClampNeg) ?_ _ _ _ _ _ _ _ _ _
    ⟨0, Nat.zero_le _, rfl, hz, Or.inr rfl, fun _ u hu => absurd hu (Nat.not_lt_zero _), fun _ => rfl⟩
  rintro rec v3 v4 b1 b2 z k c1 n1 o1 ⟨q, hq, rfl, hz, h01, hP⟩ hrec
  unfold F_L_allMoves_5
  refine y_size (w := 0) hg hr (by decide) (fun b1 b2 c1 n1 o1 => ?_)
  rw [sz_0]
  refine ⟨fun hle => ?_, fun hlt => ?_⟩
  · have e : q = g.1.length := by
      have := (nI_leI (by omega) (by omega)).mp hle
      omega
    subst e
    refine ⟨?_, h _ _ _ _ _ _ _ _ h01 hP hz⟩
    rcases h01 with rfl | rfl <;> decide
  · have hql : q < g.1.length := by
      rcases Nat.lt_or_ge q g.1.length with y | y
      · exact y
      · exact absurd (nI_le y (by omega)) hlt
    have go : ∀ v b1 b2 z k c1 n1 o1, RZ g.1 g.2.1 z k → (v = 0 ∨ v = 1) → (v = 1 ↔ v3 = 1 ∧ (bt set q = true → lA g.1 q ≠ i → ∃ w, gEd g.2.1 q w)) → rec v (nI q + 1) b1 b2 z k c1 n1 o1 := by
      intro v b1 b2 z k c1 n1 o1 hz h01 hv'
      refine hrec _ _ _ _ _ _ _ _ _ ⟨q + 1, hql, nI_1 q, hz, h01, ?_⟩ ?_
      · rw [hv', hP]
        constructor
        · rintro ⟨h1, h2⟩ u hu
          rcases Nat.lt_or_ge u q with y | y
          · exact h1 u y
          · rw [show u = q by omega]; exact h2
        · exact fun h1 => ⟨fun u hu => h1 u (by omega), h1 q (Nat.lt_succ_self q)⟩
      · rw [nI_1, nI_clamp (by omega), nI_clamp (by omega)]
        omega
    refine ⟨fun e => go _ _ _ _ _ _ _ _ hz (Or.inl rfl) ⟨fun z => absurd z (by decide), fun z => absurd (e.symm.trans z.1) (by decide)⟩, fun e => ?_⟩
    have e1 : v3 = 1 := h01.resolve_left e
    refine ⟨fun s => ?_, fun s => ?_⟩
    · have s2 := (y_bit0 (by omega)).mp s
      exact go _ _ _ _ _ _ _ _ hz (Or.inr rfl) ⟨fun _ => ⟨e1, fun y => absurd y s2⟩, fun _ => rfl⟩
    · refine y_place (w := 0) hg0 hp hv hz hql (by decide) (fun b1 b2 z' k' c1 n1 o1 hz => ?_)
      rw [pa_0]
      have hoq := (gOk0_ow hg0 q).1
      refine ⟨fun y => ?_, fun y => ?_⟩
      · have y2 := (nI_eq (by omega) (by omega)).mp y
        exact go _ _ _ _ _ _ _ _ hz (Or.inr rfl) ⟨fun _ => ⟨e1, fun _ x => absurd y2 x⟩, fun _ => rfl⟩
      · refine y_place (w := 2) hg0 hp hv hz hql (by decide) (fun b1 b2 z' k' c1 n1 o1 hz => ?_)
        rw [pa_2]
        have hc := cAt_pos (mv := g.2.1) (p := q)
        have hct := pCnt_top (cAt g.2.1 q) g.2.1.length
        refine ⟨fun x => ?_, fun x => ?_⟩
        · have x0 : pCnt (cAt g.2.1 q) g.2.1.length ≤ 0 := (nI_leI (b := 0) (by omega) (by omega)).mp x
          refine go _ _ _ _ _ _ _ _ hz (Or.inl rfl) ⟨fun z => absurd z (by decide), fun z => ?_⟩
          have bq : bt set q = true := by
            by_cases w : bt set q = true
            · exact w
            · exact absurd ((y_bit0 (by omega)).mpr w) s
          have := hc.mpr (z.2 bq (fun w => y (by rw [w])))
          omega
        · have x0 : 0 < pCnt (cAt g.2.1 q) g.2.1.length := by
            rcases Nat.eq_zero_or_pos (pCnt (cAt g.2.1 q) g.2.1.length) with w | w
            · rw [w] at x; exact absurd (by decide) x
            · exact w
          exact go _ _ _ _ _ _ _ _ hz (Or.inr rfl) ⟨fun _ => ⟨e1, fun _ _ => hc.mp x0⟩, fun _ => rfl⟩
/-- the places without a move -/
theorem y_dead {post : Int32 → Int32 → Int32 → Int32 → Int32 → (Nat → Int32) → (Nat → Int32) → (Nat → Int32) → Prop} {i : Nat} (hi : i < 2) (hg : gOk g) (hr : RG g places odd moves token made calls fr heard to) (hz : RZ g.1 g.2.1 zero zk)
    (h : ∀ v x b1 b2 z' k' c1 n1 o1, (∀ u, bt x u = true ↔ u < g.1.length ∧ ¬ ∃ w, gEd g.2.1 u w) → (∀ u, bt v u = true ↔ ∃ k, pIter (lA g.1) (gEd g.2.1) (1 - i) (sB x) k u) → RZ g.1 g.2.1 z' k' → post v b1 b2 z' k' c1 n1 o1) :
    wp_L_dead (nI i) bp ba places odd moves token made zero zk calling next owned calls fr to post := by
  have hg0 := hg.1
  have hn := hg0.1
  have hm := hg0.2.1
  obtain ⟨hp, hv, ht⟩ := hr
  have hr : RG g places odd moves token made calls fr heard to := ⟨hp, hv, ht⟩
  unfold wp_L_dead
  refine fx9_go (fun x v3 _ _ z k _ _ _ => ∃ q, q ≤ g.1.length ∧ v3 = nI q ∧ RZ g.1 g.2.1 z k ∧ ∀ u, bt x u = true ↔ u < q ∧ ¬ ∃ w, gEd g.2.1 u w) (fun _ v3 _ _ _ _ _ _ _ => g.1.length - v3.toNatClampNeg) ?_ _ _ _ _ _ _ _ _ _
    ⟨0, Nat.zero_le _, rfl, hz, fun u => ⟨fun q => absurd q (b_n0 u), fun q => absurd q.1 (Nat.not_lt_zero _)⟩⟩
  rintro rec x v3 b1 b2 z k c1 n1 o1 ⟨q, hq, rfl, hz, hx⟩ hrec
  unfold F_L_dead_4
  refine y_size (w := 0) hg hr (by decide) (fun b1 b2 c1 n1 o1 => ?_)
  rw [sz_0]
  refine ⟨fun hle => ?_, fun hlt => ?_⟩
  · have e : q = g.1.length := by
      have := (nI_leI (by omega) (by omega)).mp hle
      omega
    subst e
    rw [i_1sub hi]
    refine x5_pull hg0 hp hv (fun q => absurd ⟨⟨1 - i, by omega, rfl⟩, fun u hu => ((hx u).mp hu).1⟩ q) (fun r b1 b2 c1 n1 o1 _ hr' => ?_)
    rw [ix_nI (by omega)] at hr'
    exact h _ _ _ _ _ _ _ _ _ hx hr' hz
  · have hql : q < g.1.length := by
      rcases Nat.lt_or_ge q g.1.length with y | y
      · exact y
      · exact absurd (nI_le y (by omega)) hlt
    refine y_place (w := 2) hg0 hp hv hz hql (by decide) (fun b1 b2 z' k' c1 n1 o1 hz => ?_)
    rw [pa_2]
    have hc := cAt_pos (mv := g.2.1) (p := q)
    have hct := pCnt_top (cAt g.2.1 q) g.2.1.length
    have hms : g.1.length - (nI q + 1).toNatClampNeg < g.1.length - (nI q).toNatClampNeg := by
      rw [nI_1, nI_clamp (by omega), nI_clamp (by omega)]
      omega
    refine ⟨fun y => hrec _ _ _ _ _ _ _ _ _ ⟨q + 1, hql, nI_1 q, hz, fun u => ?_⟩ hms, fun y => hrec _ _ _ _ _ _ _ _ _ ⟨q + 1, hql, nI_1 q, hz, fun u => ?_⟩ hms⟩
    · have y0 : 0 < pCnt (cAt g.2.1 q) g.2.1.length := by
        rcases Nat.eq_zero_or_pos (pCnt (cAt g.2.1 q) g.2.1.length) with w | w
        · rw [w] at y; exact absurd rfl y
        · exact w
      rw [or0, hx]
      constructor
      · exact fun a => ⟨by omega, a.2⟩
      · rintro ⟨a, b⟩
        rcases Nat.lt_or_ge u q with w | w
        · exact ⟨w, b⟩
        · rw [show u = q by omega] at b; exact absurd (hc.mp y0) b
    · have y0 : pCnt (cAt g.2.1 q) g.2.1.length = 0 := (nI_eq (b := 0) (by omega) (by omega)).mp y
      rw [b_setbit (by omega), hx]
      constructor
      · rintro (a | a)
        · exact ⟨by omega, a.2⟩
        · refine ⟨by omega, fun w => ?_⟩
          rw [a] at w
          have := hc.mpr w
          omega
      · rintro ⟨a, b⟩
        rcases Nat.lt_or_ge u q with w | w
        · exact Or.inl ⟨w, b⟩
        · exact Or.inr (by omega)
noncomputable def sm1 (pl mv : List (Nat × Nat)) (v : Int64) : Nat → Int64
  | 0 => v
  | k + 1 => (31 : Int64) * ((31 : Int64) * sm1 pl mv v k + (paV pl mv k 0).toInt64) + (paV pl mv k 1).toInt64
def sm2 (mv : List (Nat × Nat)) (v : Int64) : Nat → Int64
  | 0 => v
  | k + 1 => (31 : Int64) * ((31 : Int64) * sm2 mv v k + (nI (lA mv k)).toInt64) + (nI (lB mv k)).toInt64
def sm3 (hd : Nat → Int32) (v : Int64) : Nat → Int64
  | 0 => v
  | k + 1 => (31 : Int64) * sm3 hd v k + (hd k).toInt64
noncomputable def smV (g : gm) : Int64 := (31 : Int64) * sm3 g.2.2.2.2 (sm2 g.2.1 (sm1 g.1 g.2.1 ((31 : Int64) * (szV g 6).toInt64 + (szV g 7).toInt64) g.1.length) g.2.1.length) 10 + (szV g 0).toInt64
theorem y_sum {post : Int64 → Int32 → Int32 → Int32 → Int32 → (Nat → Int32) → (Nat → Int32) → (Nat → Int32) → Prop} (hg : gOk g) (hr : RG g places odd moves token made calls fr heard to) (hz : RZ g.1 g.2.1 zero zk)
    (h : ∀ b1 b2 z' k' c1 n1 o1, RZ g.1 g.2.1 z' k' → post (smV g) b1 b2 z' k' c1 n1 o1) :
    wp_L_sum bp ba places odd moves token made zero zk calling next owned calls fr heard to post := by
  have hg0 := hg.1
  have hn := hg0.1
  have hm := hg0.2.1
  obtain ⟨hp, hv, ht⟩ := hr
  have hr : RG g places odd moves token made calls fr heard to := ⟨hp, hv, ht⟩
  have lt_of : ∀ {q n : Nat}, q ≤ n → n ≤ 60 → ¬ nI n ≤ nI q → q < n := fun {q n} _ hn hlt => by
    rcases Nat.lt_or_ge q n with y | y
    · exact y
    · exact absurd (nI_le y (by omega)) hlt
  have eq_of : ∀ {q n : Nat}, q ≤ n → n ≤ 60 → nI n ≤ nI q → q = n := fun {q n} hq hn hle => by
    have := (nI_leI (by omega) (by omega)).mp hle
    omega
  have step : ∀ {q n : Nat}, q < n → n ≤ 60 → n - (nI q + 1).toNatClampNeg < n - (nI q).toNatClampNeg := fun {q n} hq hn => by
    rw [nI_1, nI_clamp (by omega), nI_clamp (by omega)]
    omega
  unfold wp_L_sum
  refine y_size (w := 6) hg hr (by decide) (fun b1 b2 c1 n1 o1 => ?_)
  refine y_size (w := 7) hg hr (by decide) (fun b1 b2 c1 n1 o1 => ?_)
  refine fx9_go (fun v1 v3 _ _ z k _ _ _ => ∃ q, q ≤ g.1.length ∧ v3 = nI q ∧ RZ g.1 g.2.1 z k ∧ v1 = sm1 g.1 g.2.1 ((31 : Int64) * (szV g 6).toInt64 + (szV g 7).toInt64) q) (fun _ v3 _ _ _ _ _ _ _ => g.1.length - v3.toNatClampNeg) ?_ _ _ _ _ _ _ _ _ _
    ⟨0, Nat.zero_le _, rfl, hz, rfl⟩
  rintro rec v1 v3 b1 b2 z k c1 n1 o1 ⟨q, hq, rfl, hz, rfl⟩ hrec
  unfold F_L_sum_22
  refine y_size (w := 0) hg hr (by decide) (fun b1 b2 c1 n1 o1 => ?_)
  rw [sz_0]
  refine ⟨fun hle => ?_, fun hlt => ?_⟩
  · have e := eq_of hq (by omega) hle
    subst e
    refine fx7_go (fun v1 v3 _ _ _ _ _ => ∃ q, q ≤ g.2.1.length ∧ v3 = nI q ∧ v1 = sm2 g.2.1 (sm1 g.1 g.2.1 ((31 : Int64) * (szV g 6).toInt64 + (szV g 7).toInt64) g.1.length) q) (fun _ v3 _ _ _ _ _ => g.2.1.length - v3.toNatClampNeg) ?_ _ _ _ _ _ _ _
      ⟨0, Nat.zero_le _, rfl, rfl⟩
    rintro rec v1 v3 b1 b2 c1 n1 o1 ⟨q, hq, rfl, rfl⟩ hrec
    unfold F_L_sum_65
    refine y_size (w := 1) hg hr (by decide) (fun b1 b2 c1 n1 o1 => ?_)
    rw [sz_1]
    refine ⟨fun hle => ?_, fun hlt => ?_⟩
    · have e := eq_of hq hm hle
      subst e
      refine fx2_go (fun v1 v3 => ∃ q, q ≤ 10 ∧ v3 = nI q ∧ v1 = sm3 g.2.2.2.2 (sm2 g.2.1 (sm1 g.1 g.2.1 ((31 : Int64) * (szV g 6).toInt64 + (szV g 7).toInt64) g.1.length) g.2.1.length) q) (fun _ v3 => 10 - v3.toNatClampNeg) ?_ _ _
        ⟨0, Nat.zero_le _, rfl, rfl⟩
      rintro rec v1 v3 ⟨q, hq, rfl, rfl⟩ hrec
      unfold F_L_sum_108
      refine ⟨fun hle => ?_, fun hlt => ?_⟩
      · have e := eq_of (n := 10) hq (by decide) hle
        subst e
        refine y_size (w := 0) hg hr (by decide) (fun b1 b2 c1 n1 o1 => ?_)
        exact h _ _ _ _ _ _ _ hz
      · have hql := lt_of (n := 10) hq (by decide) hlt
        refine x5_heard ht (fun y => absurd ⟨q, hql, rfl⟩ y) (fun _ => ?_)
        rw [ix_nI (by omega)]
        exact hrec _ _ ⟨q + 1, hql, nI_1 q, rfl⟩ (step hql (by decide))
    · have hql := lt_of hq hm hlt
      refine y_move (w := 0) hg0 hv hql (by decide) ?_
      refine y_move (w := 1) hg0 hv hql (by decide) ?_
      exact hrec _ _ _ _ _ _ _ ⟨q + 1, hql, nI_1 q, rfl⟩ (step hql hm)
  · have hql := lt_of hq (by omega) hlt
    refine y_place (w := 0) hg0 hp hv hz hql (by decide) (fun b1 b2 z' k' c1 n1 o1 hz => ?_)
    refine y_place (w := 1) hg0 hp hv hz hql (by decide) (fun b1 b2 z' k' c1 n1 o1 hz => ?_)
    exact hrec _ _ _ _ _ _ _ _ _ ⟨q + 1, hql, nI_1 q, hz, rfl⟩ (step hql (by omega))
end LOOPS8
