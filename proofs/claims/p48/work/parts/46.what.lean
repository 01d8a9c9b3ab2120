/-! WHAT WOULD BE: other calls, owners, moves -/
noncomputable def pD (P : Prop) : Bool := @decide P (Classical.propDecidable P)
theorem pD_t {P : Prop} : pD P = true ↔ P := ⟨@of_decide_eq_true P (Classical.propDecidable P), @decide_eq_true P (Classical.propDecidable P)⟩
theorem pD_f {P : Prop} : pD P = false ↔ ¬ P := by
  constructor
  · intro h p
    rw [pD_t.mpr p] at h
    cases h
  · intro h
    cases hb : pD P
    · rfl
    · exact absurd (pD_t.mp hb) h
theorem b_same {r r' : Int32} {P : Nat → Prop} (h : ∀ u, bt r u = true ↔ P u) (h' : ∀ u, bt r' u = true ↔ P u) : r = r' := b_ext (fun u _ => by
  have a := h u
  have b := h' u
  cases hr : bt r u
  · cases hr' : bt r' u
    · rfl
    · rw [hr] at a; exact absurd (a.mpr (b.mp hr')) (by decide)
  · exact (b.mpr (a.mp hr)).symm)
/-- another call at a place; another owner; the moves but one, and with one more -/
def aCall (pl : List (Nat × Nat)) (p c : Nat) : List (Nat × Nat) := pl.set p (lA pl p, c)
def aOther (pl : List (Nat × Nat)) (p : Nat) : List (Nat × Nat) := pl.set p (1 - lA pl p, lB pl p)
theorem gOk0_set {pl mv : List (Nat × Nat)} {p : Nat} {q : Nat × Nat} (h : gOk0 pl mv) (h1 : q.1 < 2) (h2 : q.2 < 10) : gOk0 (pl.set p q) mv := by
  refine ⟨by rw [List.length_set]; exact h.1, h.2.1, fun x hx => ?_, fun x hx => ?_, h.2.2.2.2⟩
  · rcases List.mem_or_eq_of_mem_set hx with y | y
    · exact h.2.2.1 x y
    · rw [y]; exact ⟨h1, h2⟩
  · rw [List.length_set]; exact h.2.2.2.1 x hx
theorem lA_call {pl : List (Nat × Nat)} {p c : Nat} (h : p < pl.length) : lA (aCall pl p c) = lA pl ∧ lB (aCall pl p c) = fun v => if v = p then c else lB pl v := by
  refine ⟨funext fun v => ?_, funext fun v => (lA_set h).2⟩
  show lA (pl.set p (lA pl p, c)) v = lA pl v
  rw [(lA_set h).1]
  by_cases z : v = p
  · rw [if_pos z, z]
  · rw [if_neg z]
theorem lA_other {pl : List (Nat × Nat)} {p : Nat} (h : p < pl.length) : lA (aOther pl p) = (fun v => if v = p then 1 - lA pl v else lA pl v) ∧ lB (aOther pl p) = lB pl := by
  refine ⟨funext fun v => ?_, funext fun v => ?_⟩
  · show lA (pl.set p (1 - lA pl p, lB pl p)) v = _
    rw [(lA_set h).1]
    by_cases z : v = p
    · rw [if_pos z, if_pos z, z]
    · rw [if_neg z, if_neg z]
  · show lB (pl.set p (1 - lA pl p, lB pl p)) v = _
    rw [(lA_set h).2]
    by_cases z : v = p
    · rw [if_pos z, z]
    · rw [if_neg z]
theorem changeCall_ok {n p c : Nat} {ow ca : Nat → Nat} {E : Nat → Nat → Prop} {owned calling next : Nat → Int32} {post : (Nat → Int32) → Prop} (hB : bdOk n ow ca E owned calling next) (hp : p < n) (hc : c < 10)
    (h : ∀ c', bdOk n ow (fun v => if v = p then c else ca v) E owned c' next → post c') : wp_X0_changeCall (nI p) (nI c) calling post := by
  obtain ⟨hn, ho, hca, hE, hown, hcal, hnx⟩ := hB
  unfold wp_X0_changeCall
  refine up2i 10 (by decide) (fun k w => ∀ j, j < 10 → ∀ u, bt (w j) u = true ↔ (u < n ∧ ca u = j) ∧ ¬ (j < k ∧ u = p)) 0 _ (Nat.zero_le _) (fun j hj u => ?_) (fun rec w hI => ?_) (fun rec k w hk hI go => ?_)
  · rw [hcal j u hj]
    exact ⟨fun a => ⟨a, fun b => absurd b.1 (Nat.not_lt_zero _)⟩, fun a => a.1⟩
  · unfold F_X0_changeCall_2
    refine lpE (e := 10) ?_
    rw [nI_clamp (show c < 2 ^ 31 by omega)]
    refine ⟨vp_in_nI hc (by decide), vp_in_nI hc (by decide), h _ ⟨hn, ho, fun v => ?_, hE, hown, fun j u hj => ?_, hnx⟩⟩
    · show (if v = p then c else ca v) < 10
      split
      · exact hc
      · exact hca v
    · rw [upd_get]
      show _ ↔ u < n ∧ (if u = p then c else ca u) = j
      by_cases z : j = c
      · subst z
        rw [if_pos rfl, b_setbit (by omega), hI j hj u]
        by_cases y : u = p
        · rw [if_pos y]
          exact ⟨fun _ => ⟨by omega, rfl⟩, fun _ => Or.inr y⟩
        · rw [if_neg y]
          constructor
          · rintro (a | a)
            · exact a.1
            · exact absurd a y
          · exact fun a => Or.inl ⟨a, fun b => y b.2⟩
      · rw [if_neg z, hI j hj u]
        by_cases y : u = p
        · rw [if_pos y]
          exact ⟨fun a => absurd ⟨hj, y⟩ a.2, fun a => absurd a.2.symm z⟩
        · rw [if_neg y]
          exact ⟨fun a => a.1, fun a => ⟨a, fun b => y b.2⟩⟩
  · unfold F_X0_changeCall_2
    rw [nI_clamp (show k < 2 ^ 31 by omega)]
    refine lpS (e := 10) hk (by decide) ⟨vp_in_nI hk (by decide), vp_in_nI hk (by decide), go _ (fun j hj u => ?_)⟩
    rw [upd_get]
    by_cases z : j = k
    · subst z
      rw [if_pos rfl, b_diff, b_one (by omega), decide_eq_true_eq, hI j hj u]
      constructor
      · rintro ⟨⟨a, _⟩, b⟩
        exact ⟨a, fun y => b y.2⟩
      · rintro ⟨a, b⟩
        exact ⟨⟨a, fun y => by omega⟩, fun y => b ⟨by omega, y⟩⟩
    · rw [if_neg z, hI j hj u]
      constructor
      · rintro ⟨a, b⟩
        exact ⟨a, fun y => b ⟨by omega, y.2⟩⟩
      · rintro ⟨a, b⟩
        exact ⟨a, fun y => b ⟨by omega, y.2⟩⟩
theorem changeOwner_ok {n p : Nat} {ow ca : Nat → Nat} {E : Nat → Nat → Prop} {owned calling next : Nat → Int32} {post : (Nat → Int32) → Prop} (hB : bdOk n ow ca E owned calling next) (hp : p < n)
    (h : ∀ o', bdOk n (fun v => if v = p then 1 - ow v else ow v) ca E o' calling next → post o') : wp_X0_changeOwner (nI p) owned post := by
  obtain ⟨hn, ho, hca, hE, hown, hcal, hnx⟩ := hB
  unfold wp_X0_changeOwner
  have e1 : ∀ x, upd owned 0 x 1 = owned 1 := fun x => pk_un (by decide)
  rw [e1]
  have key : ∀ i u, i < 2 → (bt (owned i ^^^ ((1 : Int32) <<< (nI p &&& 31))) u = true ↔ u < n ∧ (if u = p then 1 - ow u else ow u) = i) := by
    intro i u hi
    have a := hown i u hi
    have hou := ho u
    rw [b_xor, b_one (by omega)]
    by_cases z : u = p
    · rw [decide_eq_true z, if_pos z]
      cases hb : bt (owned i) u
      · rw [hb] at a
        have : ¬ ow u = i := fun y => absurd (a.mpr ⟨by omega, y⟩) (by decide)
        exact ⟨fun _ => ⟨by omega, by omega⟩, fun _ => rfl⟩
      · rw [hb] at a
        have := (a.mp rfl).2
        exact ⟨fun y => absurd y (by decide), fun y => by omega⟩
    · rw [decide_eq_false z, if_neg z, Bool.xor_false]
      exact a
  refine h _ ⟨hn, fun v => ?_, hca, hE, fun i u hi => ?_, hcal, hnx⟩
  · show (if v = p then 1 - ow v else ow v) < 2
    have := ho v
    split <;> omega
  · rcases (show i = 0 ∨ i = 1 by omega) with e | e
    · subst e
      have e2 : ∀ x y, upd (upd owned 0 x) 1 y 0 = x := fun x y => by rw [pk_un (by decide), pk_us]
      rw [e2]
      exact key 0 u (by decide)
    · subst e
      rw [pk_us]
      exact key 1 u (by decide)
theorem cut_ok {n a b : Nat} {ow ca : Nat → Nat} {E : Nat → Nat → Prop} {owned calling next : Nat → Int32} {post : (Nat → Int32) → Prop} (hB : bdOk n ow ca E owned calling next) (ha : a < n) (hb : b < n)
    (h : ∀ n', bdOk n ow ca (fun v w => E v w ∧ ¬ (v = a ∧ w = b)) owned calling n' → post n') : wp_X0_cut (nI a) (nI b) next post := by
  obtain ⟨hn, ho, hca, hE, hown, hcal, hnx⟩ := hB
  unfold wp_X0_cut
  rw [nI_clamp (show a < 2 ^ 31 by omega)]
  refine ⟨vp_in_nI (by omega) (by decide), vp_in_nI (by omega) (by decide), h _ ⟨hn, ho, hca, fun v w q => hE v w q.1, hown, hcal, fun v w hv => ?_⟩⟩
  rw [upd_get]
  by_cases z : v = a
  · subst z
    rw [if_pos rfl, b_diff, b_one (by omega), decide_eq_true_eq, hnx v w hv]
    exact ⟨fun q => ⟨q.1, fun y => q.2 y.2⟩, fun q => ⟨q.1, fun y => q.2 ⟨rfl, y⟩⟩⟩
  · rw [if_neg z, hnx v w hv]
    exact ⟨fun q => ⟨q, fun y => z y.1⟩, fun q => q.1⟩
theorem join_ok {n a b : Nat} {ow ca : Nat → Nat} {E : Nat → Nat → Prop} {owned calling next : Nat → Int32} {post : (Nat → Int32) → Prop} (hB : bdOk n ow ca E owned calling next) (ha : a < n) (hb : b < n)
    (h : ∀ n', bdOk n ow ca (fun v w => E v w ∨ (v = a ∧ w = b)) owned calling n' → post n') : wp_X0_join (nI a) (nI b) next post := by
  obtain ⟨hn, ho, hca, hE, hown, hcal, hnx⟩ := hB
  unfold wp_X0_join
  rw [nI_clamp (show a < 2 ^ 31 by omega)]
  refine ⟨vp_in_nI (by omega) (by decide), vp_in_nI (by omega) (by decide), h _ ⟨hn, ho, hca, fun v w q => q.elim (hE v w) (fun y => by rw [y.1, y.2]; exact ⟨ha, hb⟩), hown, hcal, fun v w hv => ?_⟩⟩
  rw [upd_get]
  by_cases z : v = a
  · subst z
    rw [if_pos rfl, b_setbit (by omega), hnx v w hv]
    exact ⟨fun q => q.elim Or.inl (fun y => Or.inr ⟨rfl, y⟩), fun q => q.elim Or.inl (fun y => Or.inr y.2)⟩
  · rw [if_neg z, hnx v w hv]
    exact ⟨Or.inl, fun q => q.elim id (fun y => absurd y.1 z)⟩
theorem bd_E {n : Nat} {ow ca : Nat → Nat} {E E' : Nat → Nat → Prop} {owned calling next : Nat → Int32} (hB : bdOk n ow ca E owned calling next) (h : ∀ v w, E v w ↔ E' v w) : bdOk n ow ca E' owned calling next := by
  have : E = E' := funext fun v => funext fun w => propext (h v w)
  rw [← this]; exact hB
/-- who would win from u with one more move -/
def gWj (pl mv : List (Nat × Nat)) (a b i u : Nat) : Prop := u < pl.length ∧ pWin (lA pl) (lB pl) (fun v w => gEd mv v w ∨ (v = a ∧ w = b)) i u
theorem gW_of {pl mv : List (Nat × Nat)} {i : Nat} {r : Int32} (h : ∀ u, bt r u = true ↔ u < pl.length ∧ pWin (lA pl) (lB pl) (gEd mv) i u) (u : Nat) : bt r u = true ↔ gW pl mv allL i u := by
  rw [h u]
  unfold gW
  rw [gL_all]
/-! the class -/
section CLS
variable {pl mv : List (Nat × Nat)} {owned calling next : Nat → Int32} {all : Int32}
theorem what_call {p c i : Nat} {post : (Nat → Int32) → Int32 → Prop} (hB : bdOk pl.length (lA pl) (lB pl) (gEd mv) owned calling next) (hall : ∀ u, bt all u = true ↔ u < pl.length) (hp : p < pl.length) (hc : c < 10) (hi : i < 2)
    (h : ∀ c' r, (∀ u, bt r u = true ↔ gW (aCall pl p c) mv allL i u) → post c' r) : wp_X0_changeCall (nI p) (nI c) calling (fun c' => wp_X0_wonBy (nI i) (nI pl.length) all c' next owned (post c')) := by
  refine changeCall_ok hB hp hc (fun c' hB' => wonBy_ok hi hB' hall (fun r hr => h c' r (fun u => ?_)))
  rw [hr u]
  unfold gW
  rw [gL_all, (lA_call hp).1, (lA_call hp).2]
  show _ ↔ u < (pl.set p (lA pl p, c)).length ∧ _
  rw [List.length_set]
theorem what_other {p i : Nat} {post : (Nat → Int32) → Int32 → Prop} (hB : bdOk pl.length (lA pl) (lB pl) (gEd mv) owned calling next) (hall : ∀ u, bt all u = true ↔ u < pl.length) (hp : p < pl.length) (hi : i < 2)
    (h : ∀ o' r, bdOk pl.length (lA (aOther pl p)) (lB pl) (gEd mv) o' calling next → (∀ u, bt r u = true ↔ gW (aOther pl p) mv allL i u) → post o' r) : wp_X0_changeOwner (nI p) owned (fun o' => wp_X0_wonBy (nI i) (nI pl.length) all calling next o' (post o')) := by
  refine changeOwner_ok hB hp (fun o' hB' => wonBy_ok hi hB' hall (fun r hr => h o' r ?_ (fun u => ?_)))
  · rw [(lA_other hp).1]; exact hB'
  · rw [hr u]
    unfold gW
    rw [gL_all, (lA_other hp).1, (lA_other hp).2]
    show _ ↔ u < (pl.set p (1 - lA pl p, lB pl p)).length ∧ _
    rw [List.length_set]
end CLS
/-! arguments, once more: one of the numbers below n; a set of places -/
def isN (n : Nat) (a : Int32) : Prop := ∃ k, k < n ∧ a = nI k
def isS (n : Nat) (x : Int32) : Prop := ∀ u, bt x u = true → u < n
abbrev ix (a : Int32) : Nat := a.toNatClampNeg
theorem isN_no {n : Nat} {a : Int32} (h : ∀ k, k < n → a ≠ nI k) : ¬ isN n a := fun ⟨k, x, y⟩ => h k x y
theorem isN_ix {n : Nat} {a : Int32} (hn : n ≤ 100000) (h : isN n a) : ix a < n ∧ a = nI (ix a) := by
  obtain ⟨k, hk, rfl⟩ := h
  unfold ix
  rw [nI_clamp (show k < 2 ^ 31 by omega)]
  exact ⟨hk, rfl⟩
theorem ix_nI {k : Nat} (h : k < 2 ^ 31) : ix (nI k) = k := nI_clamp h
theorem n5_place {n : Nat} {a : Int32} {post : Prop} {postX : String → Prop} (hn : n ≤ 20) (h0 : ¬ isN n a → postX "java/util/NoSuchElementException") (h1 : isN n a → post) : wp_X5_needPlace a (nI n) post postX := x5_needPlace hn (fun q => h0 (isN_no q)) (fun k hk e => h1 ⟨k, hk, e⟩)
theorem n5_move {n : Nat} {a : Int32} {post : Prop} {postX : String → Prop} (hn : n ≤ 60) (h0 : ¬ isN n a → postX "java/util/NoSuchElementException") (h1 : isN n a → post) : wp_X5_needMove a (nI n) post postX := x5_needMove hn (fun q => h0 (isN_no q)) (fun k hk e => h1 ⟨k, hk, e⟩)
theorem n5_call {a : Int32} {post : Prop} {postX : String → Prop} (h0 : ¬ isN 10 a → postX "java/lang/IllegalArgumentException") (h1 : isN 10 a → post) : wp_X5_needCall a post postX := x5_needCall (fun q => h0 (isN_no q)) (fun k hk e => h1 ⟨k, hk, e⟩)
theorem n5_slot {a : Int32} {post : Prop} {postX : String → Prop} (h0 : ¬ isN 2 a → postX "java/lang/IllegalArgumentException") (h1 : isN 2 a → post) : wp_X5_needSlot a post postX := x5_needSlot (fun q => h0 (isN_no q)) (fun k hk e => h1 ⟨k, hk, e⟩)
theorem n5_player {a : Int32} {post : Prop} {postX : String → Prop} (h0 : ¬ isN 2 a → postX "java/lang/IllegalArgumentException") (h1 : isN 2 a → post) : wp_X5_needPlayer a post postX := x5_needPlayer (fun q => h0 (isN_no q)) (fun k hk e => h1 ⟨k, hk, e⟩)
theorem n5_set {n : Nat} {a : Int32} {post : Prop} {postX : String → Prop} (hn : n ≤ 20) (h0 : ¬ isS n a → postX "java/lang/IllegalArgumentException") (h1 : isS n a → post) : wp_X5_needSet a (nI n) post postX := x5_needSet hn h0 h1
theorem arg_any (a : Int32) {n : Nat} (hn : n ≤ 100000) : (¬ (a < 0 ∨ nI n - 1 < a) ∧ isN n a) ∨ ((a < 0 ∨ nI n - 1 < a) ∧ ¬ isN n a) := by
  rcases pk_ix a (n := n) (by omega) with z | z | ⟨j, hj, rfl⟩
  · exact Or.inr ⟨Or.inl z, fun ⟨k, hk, e⟩ => nI_pos (n := k) (by omega) (by rw [← e]; exact z)⟩
  · refine Or.inr ⟨Or.inr ?_, fun ⟨k, hk, e⟩ => nI_ge hk (by omega) (by rw [← e]; exact z)⟩
    have h : nI n - 1 < nI n := by
      rcases Nat.eq_zero_or_pos n with q | q
      · subst q; decide
      · rw [i_subp q]; exact nI_lt (by omega) (by omega)
    rw [Int32.lt_iff_toInt_lt] at h ⊢
    rw [Int32.le_iff_toInt_le] at z
    omega
  · refine Or.inl ⟨?_, j, hj, rfl⟩
    rintro (z | z)
    · exact nI_pos (n := j) (by omega) z
    · rw [i_subp (by omega)] at z
      have := (nI_ltI (by omega) (by omega)).mp z
      omega
/-- 'a < 0 or M < a', as both programs ask it -/
theorem arg_hi {a : Int32} {n : Nat} {A B : Prop} (hn : n ≤ 100000) (h0 : ¬ isN n a → A) (h1 : isN n a → B) : (a < 0 → A) ∧ (¬ a < 0 → (a ≤ nI n - 1 → B) ∧ (¬ a ≤ nI n - 1 → A)) := by
  rcases arg_any a hn with ⟨z, e⟩ | ⟨z, e⟩
  · refine ⟨fun q => absurd (Or.inl q) z, fun q => ⟨fun _ => h1 e, fun q2 => absurd (Or.inr (Int32.not_le.mp q2)) z⟩⟩
  · exact ⟨fun q => h0 e, fun q => ⟨fun q2 => absurd q2 (Int32.not_le.mpr (z.resolve_left q)), fun _ => h0 e⟩⟩
/-- a refusal or what follows, as the reference asks it -/
theorem n6_not {A B : Prop} {r : Int32} : (r = 0 → A) → (¬ r = 0 → B) → ((r = 0 → A) ∧ (¬ r = 0 → B)) := fun a b => ⟨a, b⟩
theorem n6_no {A B : Prop} (h : A) : (¬ (0 : Int32) = 0 → B) ∧ ((0 : Int32) = 0 → A) := ⟨fun z => absurd rfl z, fun _ => h⟩
theorem n6_ye {A B : Prop} (h : B) : (¬ (1 : Int32) = 0 → B) ∧ ((1 : Int32) = 0 → A) := ⟨fun _ => h, fun z => absurd z (by decide)⟩
theorem n6_no' {A B : Prop} (h : A) : ((0 : Int32) = 0 → A) ∧ (¬ (0 : Int32) = 0 → B) := ⟨fun _ => h, fun z => absurd rfl z⟩
theorem n6_ye' {A B : Prop} (h : B) : ((1 : Int32) = 0 → A) ∧ (¬ (1 : Int32) = 0 → B) := ⟨fun z => absurd z (by decide), fun _ => h⟩
section WHAT5
variable {pl mv : List (Nat × Nat)} {a c p s places odd moves bp ba : Int32} {calls fr to calling next owned : Nat → Int32} {post : Int32 → Int32 → Int32 → (Nat → Int32) → (Nat → Int32) → (Nat → Int32) → Prop} {postX : String → Int32 → Int32 → (Nat → Int32) → (Nat → Int32) → (Nat → Int32) → Prop}
theorem x5_wonIfCall (hg : gOk0 pl mv) (hp : RP pl places odd calls) (hv : RV mv moves fr to)
    (h1 : ¬ isN pl.length a → postX "java/util/NoSuchElementException" bp ba calling next owned)
    (h2 : isN pl.length a → ¬ isN 10 c → postX "java/lang/IllegalArgumentException" bp ba calling next owned)
    (h : ∀ r bp ba c1 n1 o1, isN pl.length a → isN 10 c → (∀ u, bt r u = true ↔ gW (aCall pl (ix a) (ix c)) mv allL 0 u) → post r bp ba c1 n1 o1) : wp_X5_wonIfCall a c bp ba places odd moves calling next owned calls fr to post postX := by
  have hn := hg.1
  unfold wp_X5_wonIfCall
  rw [hp.1]
  refine n5_place hn h1 (fun ha => n5_call (h2 ha) (fun hc => ?_))
  obtain ⟨k, hk, e⟩ := ha
  obtain ⟨j, hj, e2⟩ := hc
  have hpost := fun r bp ba c1 n1 o1 => h r bp ba c1 n1 o1 ⟨k, hk, e⟩ ⟨j, hj, e2⟩
  rw [e, e2, ix_nI (by omega), ix_nI (by omega)] at hpost
  rw [← hp.1, e, e2]
  exact take_ok hg hp hv (fun al c' n' o' hal hB => what_call hB hal hk hj (by decide) (fun c2 r hr => hpost r _ _ _ _ _ hr))
theorem x5_wonIfOther (hg : gOk0 pl mv) (hp : RP pl places odd calls) (hv : RV mv moves fr to)
    (h1 : ¬ isN pl.length a → postX "java/util/NoSuchElementException" bp ba calling next owned)
    (h : ∀ r bp ba c1 n1 o1, isN pl.length a → (∀ u, bt r u = true ↔ gW (aOther pl (ix a)) mv allL 0 u) → post r bp ba c1 n1 o1) : wp_X5_wonIfOther a bp ba places odd moves calling next owned calls fr to post postX := by
  have hn := hg.1
  unfold wp_X5_wonIfOther
  rw [hp.1]
  refine n5_place hn h1 (fun ha => ?_)
  obtain ⟨k, hk, e⟩ := ha
  have hpost := fun r bp ba c1 n1 o1 => h r bp ba c1 n1 o1 ⟨k, hk, e⟩
  rw [e, ix_nI (by omega)] at hpost
  rw [← hp.1, e]
  exact take_ok hg hp hv (fun al c' n' o' hal hB => what_other hB hal hk (by decide) (fun o2 r _ hr => hpost r _ _ _ _ _ hr))
theorem x5_wonWithout (hg : gOk0 pl mv) (hp : RP pl places odd calls) (hv : RV mv moves fr to)
    (h1 : ¬ isN mv.length a → postX "java/util/NoSuchElementException" bp ba calling next owned)
    (h : ∀ r bp ba c1 n1 o1, isN mv.length a → (∀ u, bt r u = true ↔ gW pl mv (lvBut (ix a)) 0 u) → post r bp ba c1 n1 o1) : wp_X5_wonWithout a bp ba places odd moves calling next owned calls fr to post postX := by
  have hm := hg.2.1
  unfold wp_X5_wonWithout
  rw [hv.1]
  refine n5_move hm h1 (fun ha => ?_)
  obtain ⟨k, hk, e⟩ := ha
  have hpost := fun r bp ba c1 n1 o1 => h r bp ba c1 n1 o1 ⟨k, hk, e⟩
  rw [e, ix_nI (by omega)] at hpost
  rw [← hv.1, e]
  refine take_ok hg hp hv (fun al c' n' o' hal hB => ⟨vp_in_nI (by omega) (by decide), vp_in_nI (by omega) (by decide), ?_⟩)
  obtain ⟨g1, g2⟩ := gOk0_mv hg hk
  rw [nI_clamp (show k < 2 ^ 31 by omega), (hv.2 k hk).1, (hv.2 k hk).2]
  refine cut_ok hB g1 g2 (fun n2 hB2 => wonBy_ok (i := 0) (by decide) hB2 hal (fun r hr => hpost r _ _ _ _ _ (fun u => ?_)))
  rw [hr u]
  unfold gW
  have : gL mv (lvBut k) = fun v w => gEd mv v w ∧ ¬ (v = lA mv k ∧ w = lB mv k) := funext fun v => funext fun w => propext (gL_but hg.2.2.2.2 hk)
  rw [this]
theorem x5_wonWith (hg : gOk0 pl mv) (hp : RP pl places odd calls) (hv : RV mv moves fr to)
    (h1 : ¬ (isN pl.length a ∧ isN pl.length c) → postX "java/util/NoSuchElementException" bp ba calling next owned)
    (h : ∀ r bp ba c1 n1 o1, isN pl.length a ∧ isN pl.length c → (∀ u, bt r u = true ↔ gWj pl mv (ix a) (ix c) 0 u) → post r bp ba c1 n1 o1) : wp_X5_wonWith a c bp ba places odd moves calling next owned calls fr to post postX := by
  have hn := hg.1
  unfold wp_X5_wonWith
  rw [hp.1]
  refine n5_place hn (fun q => h1 (fun z => q z.1)) (fun ha => n5_place hn (fun q => h1 (fun z => q z.2)) (fun hc => ?_))
  obtain ⟨k, hk, e⟩ := ha
  obtain ⟨j, hj, e2⟩ := hc
  have hpost := fun r bp ba c1 n1 o1 => h r bp ba c1 n1 o1 ⟨⟨k, hk, e⟩, ⟨j, hj, e2⟩⟩
  rw [e, e2, ix_nI (by omega), ix_nI (by omega)] at hpost
  rw [← hp.1, e, e2]
  exact take_ok hg hp hv (fun al c' n' o' hal hB => join_ok hB hk hj (fun n2 hB2 => wonBy_ok (i := 0) (by decide) hB2 hal (fun r hr => hpost r _ _ _ _ _ hr)))
end WHAT5
/-- the least call that makes player i win from s -/
noncomputable def pLeast (pl mv : List (Nat × Nat)) (p s i : Nat) : Int32 := rFst (fun c => pD (gW (aCall pl p c) mv allL i s)) 10
section WHAT5B
variable {pl mv : List (Nat × Nat)} {a p s places odd moves bp ba : Int32} {calls fr to calling next owned : Nat → Int32} {post : Int32 → Int32 → Int32 → (Nat → Int32) → (Nat → Int32) → (Nat → Int32) → Prop} {postX : String → Int32 → Int32 → (Nat → Int32) → (Nat → Int32) → (Nat → Int32) → Prop}
end WHAT5B
