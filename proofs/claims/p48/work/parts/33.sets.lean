/-! PULLING, STAYING, COMING BACK: rounds -/
section SETS
variable {ow : Nat → Nat} {E : Nat → Nat → Prop}
/-- places from which player i brings the token into X by one move -/
def pre (ow : Nat → Nat) (E : Nat → Nat → Prop) (i : Nat) (X : Nat → Prop) (v : Nat) : Prop := (ow v = i ∧ ∃ w, E v w ∧ X w) ∨ (ow v ≠ i ∧ (∃ w, E v w) ∧ ∀ w, E v w → X w)
def pIter (ow : Nat → Nat) (E : Nat → Nat → Prop) (i : Nat) (T : Nat → Prop) : Nat → Nat → Prop
  | 0, v => T v
  | k + 1, v => pIter ow E i T k v ∨ pre ow E i (pIter ow E i T k) v
/-- places of X that player i may keep in X for one move more -/
def stay (ow : Nat → Nat) (E : Nat → Nat → Prop) (i : Nat) (X : Nat → Prop) (v : Nat) : Prop := (ow v = i → (∃ w, E v w ∧ X w) ∨ ¬ ∃ w, E v w) ∧ (ow v ≠ i → ∀ w, E v w → X w)
def sIter (ow : Nat → Nat) (E : Nat → Nat → Prop) (i : Nat) (S : Nat → Prop) : Nat → Nat → Prop
  | 0, v => S v
  | k + 1, v => sIter ow E i S k v ∧ stay ow E i (sIter ow E i S k) v
def cIter (ow : Nat → Nat) (E : Nat → Nat → Prop) (i n : Nat) (S : Nat → Prop) : Nat → Nat → Prop
  | 0, v => v < n
  | k + 1, v => ∃ j, pIter ow E i (fun u => S u ∧ pre ow E i (cIter ow E i n S k) u) j v
theorem pre_mono {i : Nat} {X Y : Nat → Prop} (h : ∀ v, X v → Y v) {v : Nat} (a : pre ow E i X v) : pre ow E i Y v := by
  rcases a with ⟨a, w, b, c⟩ | ⟨a, b, c⟩
  · exact Or.inl ⟨a, w, b, h w c⟩
  · exact Or.inr ⟨a, b, fun w hw => h w (c w hw)⟩
theorem pre_congr {i : Nat} {X Y : Nat → Prop} (h : ∀ v, X v ↔ Y v) (v : Nat) : pre ow E i X v ↔ pre ow E i Y v := ⟨pre_mono (fun v => (h v).mp), pre_mono (fun v => (h v).mpr)⟩
theorem pre_E {i : Nat} {X : Nat → Prop} {v : Nat} (a : pre ow E i X v) : ∃ w, E v w := a.elim (fun q => q.2.elim fun w h => ⟨w, h.1⟩) (fun q => q.2.1)
theorem pIter_mono {i : Nat} {T T' : Nat → Prop} (h : ∀ v, T v → T' v) : ∀ (k v : Nat), pIter ow E i T k v → pIter ow E i T' k v
  | 0, v, a => h v a
  | k + 1, v, a => a.elim (fun q => Or.inl (pIter_mono h k v q)) (fun q => Or.inr (pre_mono (pIter_mono h k) q))
theorem pIter_le {i : Nat} {T : Nat → Prop} {j v : Nat} (a : pIter ow E i T j v) : ∀ k, j ≤ k → pIter ow E i T k v
  | 0, h => by
    have : j = 0 := by omega
    subst this
    exact a
  | k + 1, h => by
    rcases Nat.lt_or_ge k j with q | q
    · have : j = k + 1 := by omega
      subst this
      exact a
    · exact Or.inl (pIter_le a k q)
theorem pIter_n {i n : Nat} {T : Nat → Prop} (hE : ∀ v w, E v w → v < n ∧ w < n) (hT : ∀ v, T v → v < n) : ∀ (k v : Nat), pIter ow E i T k v → v < n
  | 0, v, a => hT v a
  | k + 1, v, a => a.elim (pIter_n hE hT k v) (fun q => (pre_E q).elim fun w h => (hE v w h).1)
/-- a stable round stays so -/
theorem pIter_stab {i : Nat} {T : Nat → Prop} {j : Nat} (h : ∀ v, pIter ow E i T (j + 1) v → pIter ow E i T j v) : ∀ (k v : Nat), pIter ow E i T k v → pIter ow E i T j v
  | 0, v, a => pIter_le a j (Nat.zero_le _)
  | k + 1, v, a => a.elim (pIter_stab h k v) (fun q => h v (Or.inr (pre_mono (pIter_stab h k) q)))
theorem chain_up {n : Nat} (A : Nat → Nat → Prop) (hn : ∀ k v, A k v → v < n) (hi : ∀ k v, A k v → A (k + 1) v) : ∀ k, (∃ j, j < k ∧ ∀ v, A (j + 1) v → A j v) ∨ k ≤ pNum (A k) n
  | 0 => Or.inr (Nat.zero_le _)
  | k + 1 => by
    rcases chain_up A hn hi k with ⟨j, a, b⟩ | h
    · exact Or.inl ⟨j, by omega, b⟩
    · by_cases q : ∀ v, A (k + 1) v → A k v
      · exact Or.inl ⟨k, Nat.lt_succ_self _, q⟩
      · refine Or.inr ?_
        obtain ⟨v, hv⟩ := Classical.not_forall.mp q
        have a : A (k + 1) v := Classical.byContradiction fun z => hv fun y => absurd y z
        have b : ¬ A k v := fun z => hv fun _ => z
        have := pNum_lt (hi k) ⟨v, hn _ v a, a, b⟩
        omega
theorem chain_down {n : Nat} (A : Nat → Nat → Prop) (hn : ∀ k v, A k v → v < n) (hd : ∀ k v, A (k + 1) v → A k v) : ∀ k, (∃ j, j < k ∧ ∀ v, A j v → A (j + 1) v) ∨ pNum (A k) n + k ≤ n
  | 0 => Or.inr (by
    have : pNum (A 0) n ≤ n := pCnt_top _ n
    omega)
  | k + 1 => by
    rcases chain_down A hn hd k with ⟨j, a, b⟩ | h
    · exact Or.inl ⟨j, by omega, b⟩
    · by_cases q : ∀ v, A k v → A (k + 1) v
      · exact Or.inl ⟨k, Nat.lt_succ_self _, q⟩
      · refine Or.inr ?_
        obtain ⟨v, hv⟩ := Classical.not_forall.mp q
        have a : A k v := Classical.byContradiction fun z => hv fun y => absurd y z
        have b : ¬ A (k + 1) v := fun z => hv fun _ => z
        have := pNum_lt (hd k) ⟨v, hn _ v a, a, b⟩
        omega
theorem pNum_0 {n : Nat} {R : Nat → Prop} (h : pNum R n = 0) (v : Nat) (hv : v < n) : ¬ R v := fun q => by
  have := pNum_lt (R := R) (R' := fun _ => False) (n := n) (fun _ z => z.elim) ⟨v, hv, q, id⟩
  omega
/-- the rounds are over after n -/
theorem pIter_end {i n : Nat} {T : Nat → Prop} (hE : ∀ v w, E v w → v < n ∧ w < n) (hT : ∀ v, T v → v < n) {k v : Nat} (h : pIter ow E i T k v) : pIter ow E i T n v := by
  rcases chain_up (pIter ow E i T) (pIter_n hE hT) (fun k v a => Or.inl a) (n + 1) with ⟨j, a, b⟩ | h2
  · exact pIter_le (pIter_stab b k v h) n (by omega)
  · have : pNum (pIter ow E i T (n + 1)) n ≤ n := pCnt_top _ n
    omega
theorem pAttr_iter {i n : Nat} {T A : Nat → Prop} (hE : ∀ v w, E v w → v < n ∧ w < n) (hT : ∀ v, T v → v < n) (hA : pAttr ow E i T (fun v => v < n) A) (v : Nat) : A v ↔ ∃ k, pIter ow E i T k v := by
  obtain ⟨a1, a2, ⟨ρ, -, a3⟩, a4⟩ := hA
  constructor
  · have key : ∀ (m v : Nat), ρ v < m → A v → ∃ k, pIter ow E i T k v := by
      intro m
      induction m with
      | zero => intro v h; exact absurd h (Nat.not_lt_zero _)
      | succ m ih =>
        intro v hm hv
        by_cases ht : T v
        · exact ⟨0, ht⟩
        · obtain ⟨b1, b2⟩ := a3 v hv ht
          by_cases q : ow v = i
          · obtain ⟨w, c, d, e⟩ := b1 q
            obtain ⟨k, hk⟩ := ih w (by omega) d
            exact ⟨k + 1, Or.inr (Or.inl ⟨q, w, c, hk⟩)⟩
          · obtain ⟨⟨w, c, _⟩, d⟩ := b2 q
            refine ⟨n + 1, Or.inr (Or.inr ⟨q, ⟨w, c⟩, fun w' hw' => ?_⟩)⟩
            obtain ⟨e, f⟩ := d w' hw' (hE v w' hw').2
            obtain ⟨k, hk⟩ := ih w' (by omega) e
            exact pIter_end hE hT hk
    exact key (ρ v + 1) v (Nat.lt_succ_self _)
  · rintro ⟨k, hk⟩
    have key : ∀ (k v : Nat), pIter ow E i T k v → A v := by
      intro k
      induction k with
      | zero => intro v h; exact a1 v h (hT v h)
      | succ k ih =>
        intro v h
        rcases h with h | h
        · exact ih v h
        · refine Classical.byContradiction fun z => ?_
          obtain ⟨w0, hw0⟩ := pre_E h
          obtain ⟨b1, b2⟩ := a4 v (hE v w0 hw0).1 z
          rcases h with ⟨q, w, c, d⟩ | ⟨q, _, d⟩
          · exact b1 q w c (ih w d)
          · obtain ⟨w, c, _, e⟩ := b2 q ⟨w0, hw0, (hE v w0 hw0).2⟩
            exact e (ih w (d w c))
    exact key k v hk
theorem cIter_n {i n : Nat} {S : Nat → Prop} (hE : ∀ v w, E v w → v < n ∧ w < n) (hS : ∀ v, S v → v < n) : ∀ (k v : Nat), cIter ow E i n S k v → v < n
  | 0, v, a => a
  | k + 1, v, ⟨j, a⟩ => pIter_n hE (fun v h => hS v h.1) j v a
theorem cIter_down {i n : Nat} {S : Nat → Prop} (hE : ∀ v w, E v w → v < n ∧ w < n) (hS : ∀ v, S v → v < n) : ∀ (k v : Nat), cIter ow E i n S (k + 1) v → cIter ow E i n S k v
  | 0, v, a => cIter_n hE hS 1 v a
  | k + 1, v, ⟨j, a⟩ => ⟨j, pIter_mono (fun u h => ⟨h.1, pre_mono (cIter_down hE hS k) h.2⟩) j v a⟩
theorem cIter_stab {i n : Nat} {S : Nat → Prop} (hE : ∀ v w, E v w → v < n ∧ w < n) (hS : ∀ v, S v → v < n) {j : Nat} (h : ∀ v, cIter ow E i n S j v → cIter ow E i n S (j + 1) v) : ∀ (k v : Nat), cIter ow E i n S j v → cIter ow E i n S (j + k) v
  | 0, _, a => a
  | k + 1, v, a => by
    obtain ⟨m, hm⟩ := h v a
    exact ⟨m, pIter_mono (fun u q => ⟨q.1, pre_mono (cIter_stab hE hS h k) q.2⟩) m v hm⟩
theorem sIter_stab {i : Nat} {S : Nat → Prop} {j : Nat} (h : ∀ v, sIter ow E i S j v → sIter ow E i S (j + 1) v) : ∀ (k v : Nat), sIter ow E i S j v → sIter ow E i S (j + k) v
  | 0, _, a => a
  | k + 1, v, a => by
    refine ⟨sIter_stab h k v a, ?_⟩
    obtain ⟨b, c, d⟩ := h v a
    exact ⟨fun q => (c q).elim (fun z => z.elim fun w y => Or.inl ⟨w, y.1, sIter_stab h k w y.2⟩) Or.inr, fun q w hw => sIter_stab h k w (d q w hw)⟩
theorem down_le {A : Nat → Nat → Prop} (hd : ∀ k v, A (k + 1) v → A k v) {j v : Nat} : ∀ k, A (j + k) v → A j v
  | 0, a => a
  | k + 1, a => down_le hd k (hd _ v a)
/-- what is left in the end -/
theorem down_lim {A : Nat → Nat → Prop} (hd : ∀ k v, A (k + 1) v → A k v) {j : Nat} (h : ∀ k v, A j v → A (j + k) v) (v : Nat) : A j v ↔ ∀ k, A k v := by
  refine ⟨fun a k => ?_, fun a => a j⟩
  rcases Nat.lt_or_ge k j with q | q
  · have := down_le hd (j := k) (v := v) (j - k)
    rw [Nat.add_sub_cancel' (Nat.le_of_lt q)] at this
    exact this a
  · have := h (k - j) v a
    rw [Nat.add_sub_cancel' q] at this
    exact this
end SETS
/-! the class's board -/
theorem bf_pre {i n : Nat} {ow ca : Nat → Nat} {E : Nat → Nat → Prop} {owned calling next : Nat → Int32} {set all : Int32} {X : Nat → Prop} (hi : i < 2) (hB : bdOk n ow ca E owned calling next) (hall : ∀ u, bt all u = true ↔ u < n) (hX : ∀ u, bt set u = true ↔ X u) {v : Nat} (hv : v < n) : bfP (owned i) next set all v ↔ pre ow E i X v := by
  obtain ⟨hn, ho, hca, hEn, hown, hcal, hE⟩ := hB
  constructor
  · rintro ⟨⟨w, a, b, c⟩, d⟩
    by_cases q : ow v = i
    · exact Or.inl ⟨q, w, (hE v w hv).mp a, (hX w).mp c⟩
    · have e := d.resolve_left (fun z => q ((hown i v hi).mp z).2)
      exact Or.inr ⟨q, ⟨w, (hE v w hv).mp a⟩, fun w' h => (hX w').mp (e w' ((hE v w' hv).mpr h) ((hall w').mpr (hEn v w' h).2))⟩
  · rintro (⟨q, w, a, b⟩ | ⟨q, ⟨w, a⟩, b⟩)
    · exact ⟨⟨w, (hE v w hv).mpr a, (hall w).mpr (hEn v w a).2, (hX w).mpr b⟩, Or.inl ((hown i v hi).mpr ⟨hv, q⟩)⟩
    · exact ⟨⟨w, (hE v w hv).mpr a, (hall w).mpr (hEn v w a).2, (hX w).mpr (b w a)⟩, Or.inr fun w' h _ => (hX w').mpr (b w' ((hE v w' hv).mp h))⟩
theorem before_all {i n : Nat} {ow ca : Nat → Nat} {E : Nat → Nat → Prop} {owned calling next : Nat → Int32} {set all asked : Int32} {X : Nat → Prop} {post : Int32 → Prop} (hi : i < 2) (hB : bdOk n ow ca E owned calling next) (hall : ∀ u, bt all u = true ↔ u < n) (hX : ∀ u, bt set u = true ↔ X u)
    (h : ∀ r, (∀ u, bt r u = true ↔ u < n ∧ bt asked u = true ∧ pre ow E i X u) → post r) : wp_X0_before (nI i) set all asked (nI n) next owned post :=
  before_ok hi hB.1 (fun r hr => h r (fun u => by
    rw [hr u]
    exact ⟨fun q => ⟨q.1, q.2.1, (bf_pre hi hB hall hX q.1).mp q.2.2⟩, fun q => ⟨q.1, q.2.1, (bf_pre hi hB hall hX q.1).mpr q.2.2⟩⟩))
theorem attract_all {i n : Nat} {ow ca : Nat → Nat} {E : Nat → Nat → Prop} {owned calling next : Nat → Int32} {set all : Int32} {T : Nat → Prop} {post : Int32 → Prop} (hi : i < 2) (hB : bdOk n ow ca E owned calling next) (hall : ∀ u, bt all u = true ↔ u < n) (hT : ∀ u, bt set u = true ↔ T u) (hTn : ∀ u, T u → u < n)
    (h : ∀ r, (∀ u, bt r u = true ↔ ∃ k, pIter ow E i T k u) → post r) : wp_X0_attract (nI i) set all (nI n) next owned post := by
  refine attract_ok hi hB (fun u hu => (hall u).mp hu) (fun r hr => h r (pAttr_iter hB.2.2.2.1 hTn ?_))
  have e1 : (fun v => bt all v = true) = fun v => v < n := funext fun v => propext (hall v)
  have e2 : (fun v => bt set v = true) = T := funext fun v => propext (hT v)
  rw [e1, e2] at hr
  exact hr
theorem distance_ok {i n p : Nat} {ow ca : Nat → Nat} {E : Nat → Nat → Prop} {owned calling next : Nat → Int32} {set all : Int32} {T : Nat → Prop} {post : Int32 → Prop} (hi : i < 2) (hB : bdOk n ow ca E owned calling next) (hall : ∀ u, bt all u = true ↔ u < n) (hT : ∀ u, bt set u = true ↔ T u) (hTn : ∀ u, T u → u < n) (hp : p < n)
    (h0 : (∀ k, ¬ pIter ow E i T k p) → post (-1)) (h1 : ∀ k, pIter ow E i T k p → (∀ j, j < k → ¬ pIter ow E i T j p) → post (nI k)) : wp_X0_distance (nI p) (nI i) set (nI n) all next owned post := by
  have hn := hB.1
  have hEn := hB.2.2.2.1
  unfold wp_X0_distance
  refine fx2_go (fun v r => ∃ k, k ≤ 21 ∧ r = nI k ∧ (∀ u, bt v u = true ↔ pIter ow E i T k u) ∧ ∀ j, j < k → ¬ pIter ow E i T j p) (fun _ r => 21 - r.toNatClampNeg) ?_ _ _ ⟨0, Nat.zero_le _, rfl, hT, fun j hj => absurd hj (Nat.not_lt_zero _)⟩
  rintro rec v r ⟨k, hk, rfl, hb, hno⟩ hrec
  unfold F_X0_distance_6
  refine ⟨fun q => ?_, fun q => ?_⟩
  · have : 20 < k := (nI_ltI (a := 20) (by decide) (by omega)).mp q
    exact h0 (fun j hj => hno n (by omega) (pIter_end hEn hTn hj))
  · have hk20 : k ≤ 20 := Nat.le_of_not_lt fun z => q (nI_lt (a := 20) z (by omega))
    refine has_ok (by omega) (fun hbt => ⟨fun z => absurd z (by decide), fun _ => h1 k ((hb p).mp hbt) hno⟩) (fun hbt => ⟨fun _ => ?_, fun z => absurd rfl z⟩)
    refine before_all hi hB hall hb (fun r hr => hrec _ _ ⟨k + 1, by omega, nI_1 k, fun u => ?_, fun j hj => ?_⟩ (by rw [nI_1, nI_clamp (by omega), nI_clamp (by omega)]; omega))
    · rw [b_orI, hb u, hr u, b_diff, hall, hb u]
      constructor
      · rintro (z | z)
        · exact Or.inl z
        · exact Or.inr z.2.2
      · rintro (z | z)
        · exact Or.inl z
        · by_cases y : pIter ow E i T k u
          · exact Or.inl y
          · have hu : u < n := (pre_E z).elim fun w hw => (hEn u w hw).1
            exact Or.inr ⟨hu, ⟨hu, y⟩, z⟩
    · rcases Nat.lt_or_ge j k with z | z
      · exact hno j z
      · have : j = k := by omega
        subst this
        exact fun y => hbt ((hb p).mpr y)
theorem stayingIn_ok {i n : Nat} {ow ca : Nat → Nat} {E : Nat → Nat → Prop} {owned calling next : Nat → Int32} {set all : Int32} {S : Nat → Prop} {post : Int32 → Prop} (hi : i < 2) (hB : bdOk n ow ca E owned calling next) (hall : ∀ u, bt all u = true ↔ u < n) (hS : ∀ u, bt set u = true ↔ S u) (hSn : ∀ u, S u → u < n)
    (h : ∀ r, (∀ u, bt r u = true ↔ ∀ k, sIter ow E i S k u) → post r) : wp_X0_stayingIn (nI i) set (nI n) all next owned post := by
  have hn := hB.1
  have hEn := hB.2.2.2.1
  have hd : ∀ k v, sIter ow E i S (k + 1) v → sIter ow E i S k v := fun k v a => a.1
  have hsn : ∀ k v, sIter ow E i S k v → v < n := fun k => by
    induction k with
    | zero => exact hSn
    | succ k ih => exact fun v a => ih v a.1
  unfold wp_X0_stayingIn
  refine deadEnds_ok hB (fun ended hended => ?_)
  refine fx2_go (fun v r => ∃ k, k ≤ 20 ∧ r = nI k ∧ (∀ u, bt v u = true ↔ sIter ow E i S k u) ∧ ∀ j, j < k → ¬ ∀ v, sIter ow E i S j v → sIter ow E i S (j + 1) v) (fun _ r => 20 - r.toNatClampNeg) ?_ _ _ ⟨0, Nat.zero_le _, rfl, hS, fun j hj => absurd hj (Nat.not_lt_zero _)⟩
  rintro rec v r ⟨k, hk, rfl, hb, hno⟩ hrec
  unfold F_X0_stayingIn_11
  rcases Nat.lt_or_ge k 20 with q | q
  rotate_left
  · have e : k = 20 := by omega
    subst e
    refine lpE (e := 20) (h _ (fun u => ?_))
    rw [hb u]
    rcases chain_down (sIter ow E i S) hsn hd 20 with ⟨j, a, b⟩ | h2
    · exact absurd b (hno j a)
    · have h0 : pNum (sIter ow E i S 20) n = 0 := by omega
      have em : ∀ v, ¬ sIter ow E i S 20 v := fun v hv => pNum_0 h0 v (hsn 20 v hv) hv
      exact ⟨fun z => absurd z (em u), fun z => z 20⟩
  refine lpS (e := 20) q (by decide) (before_all hi hB hall hb (fun r4 hr4 => ?_))
  have hstep : ∀ u, bt (r4 ||| (v &&& ended)) u = true ↔ sIter ow E i S (k + 1) u := fun u => by
    rw [b_orI, hr4 u, b_andI, hended, hb u]
    constructor
    · rintro (⟨a, b, c⟩ | ⟨a, b, c⟩)
      · refine ⟨b, fun o => ?_, fun o w hw => ?_⟩
        · rcases c with ⟨_, w, x, y⟩ | ⟨z, _⟩
          · exact Or.inl ⟨w, x, y⟩
          · exact absurd o z
        · rcases c with ⟨z, _⟩ | ⟨_, _, y⟩
          · exact absurd z o
          · exact y w hw
      · exact ⟨a, fun _ => Or.inr c, fun _ w hw => absurd ⟨w, hw⟩ c⟩
    · rintro ⟨a, b, c⟩
      have hu := hsn k u a
      by_cases z : ∃ w, E u w
      · refine Or.inl ⟨hu, a, ?_⟩
        by_cases o : ow u = i
        · exact Or.inl ⟨o, (b o).resolve_right (fun y => y z)⟩
        · exact Or.inr ⟨o, z, c o⟩
      · exact Or.inr ⟨a, hu, z⟩
  refine ⟨fun z => hrec _ _ ⟨k + 1, by omega, nI_1 k, hstep, fun j hj => ?_⟩ (by rw [nI_1, nI_clamp (by omega), nI_clamp (by omega)]; omega), fun z => h _ (fun u => ?_)⟩
  · rcases Nat.lt_or_ge j k with y | y
    · exact hno j y
    · have : j = k := by omega
      subst this
      intro st
      refine z (b_ext (fun u _ => Bool.eq_iff_iff.mpr ?_))
      rw [hstep u, hb u]
      exact ⟨fun x => x.1, st u⟩
  · rw [hb u]
    have st : ∀ v, sIter ow E i S k v → sIter ow E i S (k + 1) v := fun v a => (hstep v).mp (by rw [z]; exact (hb v).mpr a)
    exact down_lim hd (sIter_stab st) u
theorem comingBackTo_ok {i n : Nat} {ow ca : Nat → Nat} {E : Nat → Nat → Prop} {owned calling next : Nat → Int32} {set all : Int32} {S : Nat → Prop} {post : Int32 → Prop} (hi : i < 2) (hB : bdOk n ow ca E owned calling next) (hall : ∀ u, bt all u = true ↔ u < n) (hS : ∀ u, bt set u = true ↔ S u) (hSn : ∀ u, S u → u < n)
    (h : ∀ r, (∀ u, bt r u = true ↔ ∀ k, cIter ow E i n S k u) → post r) : wp_X0_comingBackTo (nI i) set (nI n) all next owned post := by
  have hn := hB.1
  have hEn := hB.2.2.2.1
  have hd := cIter_down (ow := ow) (i := i) hEn hSn
  have hsn := cIter_n (ow := ow) (i := i) hEn hSn
  unfold wp_X0_comingBackTo
  refine fx2_go (fun v r => ∃ k, k ≤ 20 ∧ r = nI k ∧ (∀ u, bt v u = true ↔ cIter ow E i n S k u) ∧ ∀ j, j < k → ¬ ∀ v, cIter ow E i n S j v → cIter ow E i n S (j + 1) v) (fun _ r => 20 - r.toNatClampNeg) ?_ _ _ ⟨0, Nat.zero_le _, rfl, hall, fun j hj => absurd hj (Nat.not_lt_zero _)⟩
  rintro rec v r ⟨k, hk, rfl, hb, hno⟩ hrec
  unfold F_X0_comingBackTo_8
  rcases Nat.lt_or_ge k 20 with q | q
  rotate_left
  · have e : k = 20 := by omega
    subst e
    refine lpE (e := 20) (h _ (fun u => ?_))
    rw [hb u]
    rcases chain_down (cIter ow E i n S) hsn hd 20 with ⟨j, a, b⟩ | h2
    · exact absurd b (hno j a)
    · have h0 : pNum (cIter ow E i n S 20) n = 0 := by omega
      have em : ∀ v, ¬ cIter ow E i n S 20 v := fun v hv => pNum_0 h0 v (hsn 20 v hv) hv
      exact ⟨fun z => absurd z (em u), fun z => z 20⟩
  refine lpS (e := 20) q (by decide) (before_all hi hB hall hb (fun r3 hr3 => ?_))
  refine attract_all (T := fun u => S u ∧ pre ow E i (cIter ow E i n S k) u) hi hB hall (fun u => ?_) (fun u a => hSn u a.1) (fun r4 hr4 => ?_)
  · rw [hr3 u, hS u]
    exact ⟨fun z => z.2, fun z => ⟨hSn u z.1, z⟩⟩
  have hstep : ∀ u, bt r4 u = true ↔ cIter ow E i n S (k + 1) u := hr4
  refine ⟨fun z => hrec _ _ ⟨k + 1, by omega, nI_1 k, hstep, fun j hj => ?_⟩ (by rw [nI_1, nI_clamp (by omega), nI_clamp (by omega)]; omega), fun z => h _ (fun u => ?_)⟩
  · rcases Nat.lt_or_ge j k with y | y
    · exact hno j y
    · have : j = k := by omega
      subst this
      intro st
      refine z (b_ext (fun u _ => Bool.eq_iff_iff.mpr ?_))
      rw [hstep u, hb u]
      exact ⟨hd j u, st u⟩
  · rw [hb u]
    have st : ∀ v, cIter ow E i n S k v → cIter ow E i n S (k + 1) v := fun v a => (hstep v).mp (by rw [z]; exact (hb v).mpr a)
    exact down_lim hd (cIter_stab hEn hSn st) u
/-- a trap: nothing that leads out of S is open to the player, and the other can stay -/
def trap (ow : Nat → Nat) (E : Nat → Nat → Prop) (i : Nat) (S : Nat → Prop) : Prop := ∀ v, S v → (ow v = i → ∀ w, E v w → S w) ∧ (ow v ≠ i → ∃ w, E v w ∧ S w)
theorem isClosedFor_ok {i n : Nat} {ow ca : Nat → Nat} {E : Nat → Nat → Prop} {owned calling next : Nat → Int32} {set all : Int32} {S : Nat → Prop} {post : Int32 → Prop} (hi : i < 2) (hB : bdOk n ow ca E owned calling next) (hall : ∀ u, bt all u = true ↔ u < n) (hS : ∀ u, bt set u = true ↔ S u) (hSn : ∀ u, S u → u < n)
    (h1 : trap ow E i S → post 1) (h0 : ¬ trap ow E i S → post 0) : wp_X0_isClosedFor (nI i) set (nI n) all next owned post := by
  have ho := hB.2.1
  have hEn := hB.2.2.2.1
  unfold wp_X0_isClosedFor
  have e : (1 : Int32) - nI i = nI (1 - i) := i_subn (a := 1) (by omega)
  rw [e, nI_clamp (show i < 2 ^ 31 by omega)]
  refine before_all (i := 1 - i) (by omega) hB hall hS (fun r3 hr3 => ⟨vp_in_nI (by omega) (by omega), deadEnds_ok hB (fun r4 hr4 => ?_)⟩)
  have key : set &&& ((r3 ||| (owned i &&& r4)) ^^^ (-1 : Int32)) = 0 ↔ trap ow E i S := by
    rw [b_sub0]
    have one : ∀ u, S u → (bt (r3 ||| (owned i &&& r4)) u = true ↔ (ow u = i → ∀ w, E u w → S w) ∧ (ow u ≠ i → ∃ w, E u w ∧ S w)) := fun u hu => by
      have hun := hSn u hu
      have ho2 := ho u
      rw [b_orI, hr3 u, b_andI, hB.2.2.2.2.1 i u hi, hr4 u, hS u]
      constructor
      · rintro (⟨_, _, a⟩ | ⟨⟨_, a⟩, _, b⟩)
        · rcases a with ⟨x, y⟩ | ⟨x, y, z⟩
          · exact ⟨fun q => absurd q (by omega), fun _ => y⟩
          · exact ⟨fun _ => z, fun q => absurd (show ow u = 1 - i by omega) x⟩
        · exact ⟨fun _ w hw => absurd ⟨w, hw⟩ b, fun q => absurd a q⟩
      · rintro ⟨a, b⟩
        by_cases q : ow u = i
        · by_cases z : ∃ w, E u w
          · exact Or.inl ⟨hun, hu, Or.inr ⟨by omega, z, a q⟩⟩
          · exact Or.inr ⟨⟨hun, q⟩, hun, z⟩
        · exact Or.inl ⟨hun, hu, Or.inl ⟨by omega, b q⟩⟩
    exact ⟨fun q v hv => (one v hv).mp (q v ((hS v).mpr hv)), fun q v hv => (one v ((hS v).mp hv)).mpr (q v ((hS v).mp hv))⟩
  exact ⟨fun q => h0 (fun z => q (key.mpr z)), fun q => h1 (key.mp q)⟩
