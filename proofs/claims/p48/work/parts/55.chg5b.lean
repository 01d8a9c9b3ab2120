/-! run, restore, undo, save: the class -/
def rnEnd (pl mv : List (Nat × Nat)) (s m j : Nat) : Prop := j ≤ m ∧ foGo pl mv s j ∧ (j = m ∨ plV pl mv (plTr pl mv s j) = -1)
theorem rnEnd_one {pl mv : List (Nat × Nat)} {s m j k : Nat} (h1 : rnEnd pl mv s m j) (h2 : rnEnd pl mv s m k) : j = k := by
  have lt : ∀ {j k : Nat}, rnEnd pl mv s m j → rnEnd pl mv s m k → ¬ j < k := fun h1 h2 q => by
    rcases h1.2.2 with z | z
    · have := h2.1
      omega
    · exact h2.2.1 _ q z
  rcases Nat.lt_trichotomy j k with q | q | q
  · exact absurd q (lt h1 h2)
  · exact q
  · exact absurd q (lt h2 h1)
noncomputable def rnJ (pl mv : List (Nat × Nat)) (s m : Nat) : Nat := Classical.epsilon (rnEnd pl mv s m)
theorem rnJ_eq {pl mv : List (Nat × Nat)} {s m j : Nat} (h : rnEnd pl mv s m j) : rnJ pl mv s m = j := rnEnd_one (Classical.epsilon_spec ⟨j, h⟩) h
noncomputable def rnD (pl mv : List (Nat × Nat)) (s : Nat) (hd : Nat → Int32) : Nat → (Nat → Int32)
  | 0 => hd
  | j + 1 => hdStep pl (plTr pl mv s (j + 1)) (rnD pl mv s hd j)
noncomputable def gRunAt (g : gm) (j : Nat) : gm := (g.1, g.2.1, plTr g.1 g.2.1 g.2.2.1 j, g.2.2.2.1 + nI j, rnD g.1 g.2.1 g.2.2.1 g.2.2.2.2 j)
noncomputable def gRun (g : gm) (m : Nat) : gm := gRunAt g (rnJ g.1 g.2.1 g.2.2.1 m)
theorem i_add0 (x : Int32) : x + nI 0 = x := Int32.add_zero x
theorem i_addS (x : Int32) (j : Nat) : x + nI j + 1 = x + nI (j + 1) := by
  rw [Int32.add_assoc, nI_1]
theorem gOk_runAt {g : gm} (h : gOk g) {j : Nat} (hj : foGo g.1 g.2.1 g.2.2.1 j) : gOk (gRunAt g j) := ⟨h.1, h.2.1, foGo_lt h.1 h.2.2 j hj⟩
theorem plTr_next {pl mv : List (Nat × Nat)} {s j k : Nat} (hk : k < 1000) (e : plV pl mv (plTr pl mv s j) = nI k) : plTr pl mv s (j + 1) = lB mv k := by
  show plNx pl mv (plTr pl mv s j) = _
  unfold plNx
  rw [e, nI_clamp (by omega)]
/-- what is saved -/
def RSc (sv : Nat → Option gm) (isS sp so sm st sd : Nat → Int32) (sc sf sh se : Nat → Nat → Int32) : Prop :=
  ∀ s, s < 2 → (sv s = none → isS s = 0) ∧ ∀ g, sv s = some g → isS s = 1 ∧ gOk g ∧ RG g (sp s) (so s) (sm s) (st s) (sd s) (sc s) (sf s) (sh s) (se s)
def svPut (sv : Nat → Option gm) (i : Nat) (g : gm) : Nat → Option gm := fun s => if s = i then some g else sv s
def svOne (o : Option gm) : Nat := match o with | none => 0 | some _ => 1
def svNum (sv : Nat → Option gm) : Nat := svOne (sv 0) + svOne (sv 1)
def svC (sv : Nat → Option gm) : Nat → Nat
  | 0 => 0
  | 1 => svOne (sv 0)
  | _ + 2 => svNum sv
section CHG5B
variable {hs : List gm} {g : gm} {sv : Nat → Option gm} {a b places odd moves token made first kept zk ck bp ba zero : Int32} {calls fr heard to calling next owned chosen isS : Nat → Int32} {rp ro rm rt rd sp so sm st sd : Nat → Int32} {rc rf rh re sc sf sh se : Nat → Nat → Int32}
theorem x5_run {post : Int32 → Int32 → Int32 → Int32 → Int32 → Int32 → Int32 → Int32 → Int32 → Int32 → (Nat → Int32) → (Nat → Int32) → (Nat → Int32) → (Nat → Int32) → (Nat → Int32) → hT} {postX : String → Int32 → Int32 → Int32 → Int32 → Int32 → Int32 → Int32 → Int32 → Int32 → (Nat → Int32) → (Nat → Int32) → (Nat → Int32) → (Nat → Int32) → (Nat → Int32) → hT}
    (hH : RHc hs first kept rp ro rm rt rd rc rf rh re) (hg : gOk g) (hr : RG g places odd moves token made calls fr heard to)
    (h1 : ¬ (isN 101 a ∧ ¬ a = 0) → postX "java/lang/IllegalArgumentException" bp ba token made first kept zero zk ck calling next owned heard chosen rp ro rm rt rd rc rf rh re)
    (h : ∀ b1 b2 z' zk' c1 n1 o1 ch t' d' h' f' k' qp qo qm qt qd qc qf qh qe, isN 101 a ∧ ¬ a = 0 → RG (gRun g (ix a)) places odd moves t' d' calls fr h' to → gOk (gRun g (ix a)) → RZ g.1 g.2.1 z' zk' → RC g.1 g.2.1 ch 1 → RHc (hPush hs g) f' k' qp qo qm qt qd qc qf qh qe → post (nI (rnJ g.1 g.2.1 g.2.2.1 (ix a))) b1 b2 t' d' f' k' z' zk' 1 c1 n1 o1 h' ch qp qo qm qt qd qc qf qh qe) :
    wp_X5_run a bp ba places odd moves token made first kept zero zk ck calling next owned calls fr heard to chosen rp ro rm rt rd rc rf rh re post postX := by
  have hr0 := hr
  have hg0 := hg.1
  have hn := hg0.1
  have hm := hg0.2.1
  obtain ⟨hp, hv, ht⟩ := hr
  unfold wp_X5_run
  have hlt1 : a < (1 : Int32) → ¬ (isN 101 a ∧ ¬ a = 0) := fun q ⟨⟨k, hk, e⟩, ne⟩ => by
    rw [e] at q ne
    have q := (nI_ltI (b := 1) (by omega) (by decide)).mp q
    exact ne (by rw [show k = 0 by omega]; rfl)
  refine ⟨fun q => h1 (hlt1 q), fun q => ⟨fun q2 => ?_, fun q2 => h1 (fun ⟨⟨k, hk, e⟩, _⟩ => q2 (by rw [e]; exact nI_le (b := 100) (by omega) (by decide)))⟩⟩
  have hok : isN 101 a ∧ ¬ a = 0 := by
    rcases pk_ix a (n := 101) (by decide) with z | z | z
    · exact absurd (Int32.lt_trans z (show (0 : Int32) < 1 by decide)) q
    · rw [Int32.le_iff_toInt_le] at q2 z
      have e1 : (nI 101).toInt = 101 := nI_toInt (by decide)
      have e2 : (100 : Int32).toInt = 100 := nI_toInt (n := 100) (by decide)
      omega
    · exact ⟨z, fun y => q (by rw [y]; decide)⟩
  refine x5_begin hH hg hr0 (fun f' k' qp qo qm qt qd qc qf qh qe hQ => ?_)
  have hpost := fun b1 b2 z' zk' c1 n1 o1 ch t' d' h' => h b1 b2 z' zk' c1 n1 o1 ch t' d' h' f' k' qp qo qm qt qd qc qf qh qe hok
  obtain ⟨⟨m, hm1, e⟩, ne⟩ := hok
  rw [e, ix_nI (by omega)] at hpost
  rw [e]
  refine x3_choose hg0 hp hv (fun q => absurd rfl q) (fun q => absurd rfl q) (fun z' zk' p' a' ch c' n' o' hz' hch => ?_)
  have hfin : ∀ j t' d' h', rnEnd g.1 g.2.1 g.2.2.1 m j → RT (plTr g.1 g.2.1 g.2.2.1 j) (g.2.2.2.1 + nI j) (rnD g.1 g.2.1 g.2.2.1 g.2.2.2.2 j) t' d' h' → post (nI j) p' a' t' d' f' k' z' zk' 1 c' n' o' h' ch qp qo qm qt qd qc qf qh qe := fun j t' d' h' hj hrt => by
    have := hpost p' a' z' zk' c' n' o' ch t' d' h'
    unfold gRun at this
    rw [rnJ_eq hj] at this
    exact this ⟨hp, hv, hrt⟩ (gOk_runAt hg hj.2.1) hz' (fun _ => hch) hQ
  refine fx4_go (fun v2 t d hd => ∃ j, j ≤ m ∧ v2 = nI j ∧ foGo g.1 g.2.1 g.2.2.1 j ∧ RT (plTr g.1 g.2.1 g.2.2.1 j) (g.2.2.2.1 + nI j) (rnD g.1 g.2.1 g.2.2.1 g.2.2.2.2 j) t d hd) (fun v2 _ _ _ => m - v2.toNatClampNeg) ?_ _ _ _ _ ⟨0, Nat.zero_le _, rfl, fun i hi => absurd hi (Nat.not_lt_zero _), by rw [i_add0]; exact ht⟩
  rintro rec v2 t d hd ⟨j, hj, rfl, hgo, hrt⟩ hrec
  unfold F_X5_run_38
  have hlt := foGo_lt hg0 hg.2.2 j hgo
  rcases Nat.lt_or_ge j m with z | z
  · refine lpS z (by omega) ?_
    rw [hrt.1, nI_clamp (show plTr g.1 g.2.1 g.2.2.1 j < 2 ^ 31 by omega), hch _ hlt]
    refine ⟨vp_in_nI (by omega) (by decide), fun q3 => ?_, fun q3 => ?_⟩
    · rcases plV_cases hg0 (plTr g.1 g.2.1 g.2.2.1 j) with y | ⟨k, hk, _, e3⟩
      · exact absurd y q3
      · rw [e3]
        have e4 := plTr_next (show k < 1000 by omega) e3
        refine x1_step hp hv hrt hg0 hk (fun t3 d3 h3 ht3 => hrec _ _ _ _ ⟨j + 1, z, nI_1 j, foGo_one hgo q3, ?_⟩ (by rw [nI_1, nI_clamp (by omega), nI_clamp (by omega)]; omega))
        rw [← i_addS]
        show RT (plTr g.1 g.2.1 g.2.2.1 (j + 1)) _ (hdStep g.1 (plTr g.1 g.2.1 g.2.2.1 (j + 1)) _) t3 d3 h3
        rw [e4]
        exact ht3
    · have := hfin j t d hd ⟨hj, hgo, Or.inr q3⟩ hrt
      rw [hrt.1] at this
      exact this
  · have ej : j = m := by omega
    subst ej
    exact lpE (hfin j t d hd ⟨hj, hgo, Or.inl rfl⟩ hrt)
theorem x5_restore {post : Int32 → Int32 → Int32 → Int32 → Int32 → Int32 → Int32 → Int32 → Int32 → Int32 → (Nat → Int32) → (Nat → Int32) → (Nat → Int32) → (Nat → Int32) → hT} {postX : String → Int32 → Int32 → Int32 → Int32 → Int32 → Int32 → Int32 → Int32 → Int32 → (Nat → Int32) → (Nat → Int32) → (Nat → Int32) → (Nat → Int32) → hT}
    (hH : RHc hs first kept rp ro rm rt rd rc rf rh re) (hg : gOk g) (hr : RG g places odd moves token made calls fr heard to) (hS : RSc sv isS sp so sm st sd sc sf sh se)
    (h1 : ¬ isN 2 a → postX "java/lang/IllegalArgumentException" places odd moves token made first kept zk ck calls fr heard to rp ro rm rt rd rc rf rh re)
    (h2 : isN 2 a → sv (ix a) = none → postX "java/lang/IllegalStateException" places odd moves token made first kept zk ck calls fr heard to rp ro rm rt rd rc rf rh re)
    (h : ∀ g' p' o' m' t' d' c' r' h' e' f' k' qp qo qm qt qd qc qf qh qe, isN 2 a → sv (ix a) = some g' → gOk g' → RG g' p' o' m' t' d' c' r' h' e' → RHc (hPush hs g) f' k' qp qo qm qt qd qc qf qh qe → post (nI g'.1.length) p' o' m' t' d' f' k' 0 0 c' r' h' e' qp qo qm qt qd qc qf qh qe) :
    wp_X5_restore a places odd moves token made first kept isS zk ck calls fr heard to sp so sm st sd rp ro rm rt rd sc sf sh se rc rf rh re post postX := by
  unfold wp_X5_restore
  refine n5_slot h1 (fun ha => ?_)
  have h2 := h2 ha
  obtain ⟨i, hi, e⟩ := ha
  have hpost := fun g' p' o' m' t' d' c' r' h' e' f' k' qp qo qm qt qd qc qf qh qe => h g' p' o' m' t' d' c' r' h' e' f' k' qp qo qm qt qd qc qf qh qe ⟨i, hi, e⟩
  rw [e, ix_nI (by omega)] at hpost h2
  rw [e, nI_clamp (show i < 2 ^ 31 by omega)]
  obtain ⟨s0, s1⟩ := hS i hi
  have hin : vp_in (nI i) 2 := vp_in_nI hi (by decide)
  cases hs9 : sv i with
  | none =>
    have e0 := s0 hs9
    exact ⟨hin, fun q => absurd e0 q, fun _ => h2 hs9⟩
  | some g' =>
    obtain ⟨e1, hg', hr'⟩ := s1 g' hs9
    refine ⟨hin, fun _ => x5_begin hH hg hr (fun f' k' qp qo qm qt qd qc qf qh qe hQ => ⟨hin, fun q => ?_, fun q => ?_⟩), fun q => by rw [e1] at q; exact absurd q (by decide)⟩
    · have ei : i = 0 := (nI_eq (b := 0) (by omega) (by decide)).mp q
      subst ei
      refine x1_copy (gOk_sz hg') hr' (fun p' o' m' t' d' c' r' h' e' hn' => ?_)
      have := hpost g' p' o' m' t' d' c' r' h' e' f' k' qp qo qm qt qd qc qf qh qe hs9 hg' hn' hQ
      rw [← hn'.1.1] at this
      exact this
    · have ei : i = 1 := (nI_eq (b := 1) (by omega) (by decide)).mp q
      subst ei
      refine x1_copy (gOk_sz hg') hr' (fun p' o' m' t' d' c' r' h' e' hn' => ?_)
      have := hpost g' p' o' m' t' d' c' r' h' e' f' k' qp qo qm qt qd qc qf qh qe hs9 hg' hn' hQ
      rw [← hn'.1.1] at this
      exact this
theorem x5_undo {post : Int32 → Int32 → Int32 → Int32 → Int32 → Int32 → Int32 → Int32 → Int32 → (Nat → Int32) → (Nat → Int32) → (Nat → Int32) → (Nat → Int32) → Prop} {postX : String → Int32 → Int32 → Int32 → Int32 → Int32 → Int32 → Int32 → Int32 → (Nat → Int32) → (Nat → Int32) → (Nat → Int32) → (Nat → Int32) → Prop}
    (hH : RHc hs first kept rp ro rm rt rd rc rf rh re)
    (h1 : hs = [] → postX "java/lang/IllegalStateException" places odd moves token made kept zk ck calls fr heard to)
    (h : ∀ hs' g' p' o' m' t' d' k' c' r' h' e', hs = hs' ++ [g'] → RG g' p' o' m' t' d' c' r' h' e' → RHc hs' first k' rp ro rm rt rd rc rf rh re → post (nI hs'.length) p' o' m' t' d' k' 0 0 c' r' h' e') :
    wp_X5_undo places odd moves token made first kept zk ck calls fr heard to rp ro rm rt rd rc rf rh re post postX := by
  have hk : kept = nI hs.length := by
    obtain ⟨⟨f, _, _, q, _⟩, _⟩ := hH
    exact q
  have hl : hs.length ≤ 10 := hH.2.1
  unfold wp_X5_undo wp_X3_forget
  refine ⟨fun q => ?_, fun q => h1 (List.length_eq_zero_iff.mp ((nI_eq (b := 0) (by omega) (by decide)).mp (by rw [← hk]; exact q)))⟩
  have hne : hs ≠ [] := fun e => q (by rw [hk, e]; rfl)
  obtain ⟨hs', g', rfl⟩ : ∃ hs' g', hs = hs' ++ [g'] := ⟨hs.dropLast, hs.getLast hne, (List.dropLast_concat_getLast hne).symm⟩
  refine x2_takeLatest hH (fun p' o' m' t' d' k' c' r' h' e' hr' hH' => ?_)
  have := h hs' g' p' o' m' t' d' k' c' r' h' e' rfl hr' hH'
  have ek : k' = nI hs'.length := by
    obtain ⟨⟨f, _, _, q, _⟩, _⟩ := hH'
    exact q
  rw [← ek] at this
  exact this
theorem svOne_le (o : Option gm) : svOne o ≤ 1 := by
  cases o
  · exact Nat.zero_le _
  · exact Nat.le_refl _
theorem x5_save {post : Int32 → (Nat → Int32) → hT} {postX : String → (Nat → Int32) → hT}
    (hg : gOk g) (hr : RG g places odd moves token made calls fr heard to) (hS : RSc sv isS sp so sm st sd sc sf sh se)
    (h1 : ¬ isN 2 a → postX "java/lang/IllegalArgumentException" isS sp so sm st sd sc sf sh se)
    (h : ∀ i' qp qo qm qt qd qc qf qh qe, isN 2 a → RSc (svPut sv (ix a) g) i' qp qo qm qt qd qc qf qh qe → post (nI (svNum (svPut sv (ix a) g))) i' qp qo qm qt qd qc qf qh qe) :
    wp_X5_save a places odd moves token made isS calls fr heard to sp so sm st sd sc sf sh se post postX := by
  unfold wp_X5_save
  refine n5_slot h1 (fun ha => ?_)
  obtain ⟨i, hi, e⟩ := ha
  have hpost := fun i' qp qo qm qt qd qc qf qh qe => h i' qp qo qm qt qd qc qf qh qe ⟨i, hi, e⟩
  rw [e, ix_nI (by omega)] at hpost
  rw [e, nI_clamp (show i < 2 ^ 31 by omega)]
  have hin : vp_in (nI i) 2 := vp_in_nI hi (by decide)
  have e1 : vp_nar .boolean (1 : Int32) = 1 := by decide
  rw [e1]
  have cnt : ∀ (isS' : Nat → Int32) (sv' : Nat → Option gm) (K : Int32 → Prop), (∀ s, s < 2 → (sv' s = none → isS' s = 0) ∧ ∀ g, sv' s = some g → isS' s = 1) → K (nI (svNum sv')) → ∃ n, fx2 (F_X5_save_28 isS' (fun v2 _ => K v2)) n (0 : Int32) (0 : Int32) := by
    intro isS' sv' K hS' hK
    have one : ∀ s, s < 2 → (isS' s = 0 → svOne (sv' s) = 0) ∧ (¬ isS' s = 0 → svOne (sv' s) = 1) := fun s hs => by
      cases q : sv' s with
      | none => exact ⟨fun _ => rfl, fun y => absurd ((hS' s hs).1 q) y⟩
      | some g => exact ⟨fun y => by rw [(hS' s hs).2 g q] at y; exact absurd y (by decide), fun _ => rfl⟩
    refine up2 2 (by decide) (fun k z => z = nI (svC sv' k)) 0 _ (Nat.zero_le _) rfl (fun rec z hz => ?_) (fun rec k z hk hz go => ?_)
    · unfold F_X5_save_28
      refine lpE (e := 2) ?_
      rw [hz]
      exact hK
    · unfold F_X5_save_28
      rw [nI_clamp (show k < 2 ^ 31 by omega)]
      obtain ⟨o1, o2⟩ := one k hk
      rcases (show k = 0 ∨ k = 1 by omega) with y | y
      · subst y
        refine lpS (e := 2) hk (by decide) ⟨vp_in_nI hk (by decide), fun q => go _ ?_, fun q => go _ ?_⟩
        · rw [hz]
          show nI 0 = nI (svOne (sv' 0))
          rw [o1 q]
        · rw [hz]
          show nI 0 + 1 = nI (svOne (sv' 0))
          rw [o2 q]
          rfl
      · subst y
        refine lpS (e := 2) hk (by decide) ⟨vp_in_nI hk (by decide), fun q => go _ ?_, fun q => go _ ?_⟩
        · rw [hz]
          show nI (svOne (sv' 0)) = nI (svOne (sv' 0) + svOne (sv' 1))
          rw [o1 q, Nat.add_zero]
        · rw [hz]
          show nI (svOne (sv' 0)) + 1 = nI (svOne (sv' 0) + svOne (sv' 1))
          rw [o2 q]
          exact nI_1 _
  have key : ∀ i, i < 2 → ∀ p' o' m' t' d' c' r' h' e', RG g p' o' m' t' d' c' r' h' e' → RSc (svPut sv i g) (upd isS i 1) (va_up sp i p') (va_up so i o') (va_up sm i m') (va_up st i t') (va_up sd i d') (va_up sc i c') (va_up sf i r') (va_up sh i h') (va_up se i e') := by
    intro i hi p' o' m' t' d' c' r' h' e' hr' s hs
    unfold svPut
    by_cases z : s = i
    · subst z
      rw [if_pos rfl, pk_us]
      refine ⟨fun q => absurd q (fun y => by cases y), fun g0 q => ?_⟩
      cases q
      simp only [va_up_self]
      exact ⟨trivial, hg, hr'⟩
    · rw [if_neg z, pk_un z]
      simp only [va_up_ne _ _ z]
      exact hS s hs
  have small : ∀ {sv' : Nat → Option gm} {i' qp qo qm qt qd : Nat → Int32} {qc qf qh qe : Nat → Nat → Int32}, RSc sv' i' qp qo qm qt qd qc qf qh qe → ∀ s, s < 2 → (sv' s = none → i' s = 0) ∧ ∀ g, sv' s = some g → i' s = 1 := fun h9 s hs => ⟨(h9 s hs).1, fun g q => ((h9 s hs).2 g q).1⟩
  refine ⟨hin, fun q => ?_, fun q => ?_⟩
  · have ei : i = 0 := (nI_eq (b := 0) (by omega) (by decide)).mp q
    subst ei
    refine x1_copy (gOk_sz hg) hr (fun p' o' m' t' d' c' r' h' e' hn' => ⟨hin, ?_⟩)
    have hk := key 0 (by decide) p' o' m' t' d' c' r' h' e' hn'
    exact cnt _ _ (fun v => post v _ _ _ _ _ _ _ _ _ _) (small hk) (hpost _ _ _ _ _ _ _ _ _ _ hk)
  · have ei : i = 1 := (nI_eq (b := 1) (by omega) (by decide)).mp q
    subst ei
    refine x1_copy (gOk_sz hg) hr (fun p' o' m' t' d' c' r' h' e' hn' => ⟨hin, ?_⟩)
    have hk := key 1 (by decide) p' o' m' t' d' c' r' h' e' hn'
    exact cnt _ _ (fun v => post v _ _ _ _ _ _ _ _ _ _) (small hk) (hpost _ _ _ _ _ _ _ _ _ _ hk)
end CHG5B
