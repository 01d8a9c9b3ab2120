/-! the texts: the class's reader: moves, token, line, text -/
abbrev RdM : Type := Except (Nat × Nat) (Tk × List (Nat × Nat))
noncomputable def rdMv (T : Nat → Nat) (n np a : Nat) : Nat → Tk → List (Nat × Nat) → RdM
  | 0, t, M => .ok (t, M)
  | f + 1, t, M => if t.1 ≠ 2 then .ok (t, M) else if ¬ t.2.2.2 < np then .error (3, t.2.1) else if pD (gEd M a t.2.2.2) = true then .error (4, t.2.1) else if M.length = 60 then .error (5, t.2.1) else rdMv T n np a f (tkN T n t) (M ++ [(a, t.2.2.2)])
/-- what stands behind 'move' -/
noncomputable def rdMoves (T : Nat → Nat) (n np : Nat) (t : Tk) (M : List (Nat × Nat)) : RdM :=
  if (tkN T n t).1 ≠ 2 then .error (1, (tkN T n t).2.1) else if ¬ (tkN T n t).2.2.2 < np then .error (3, (tkN T n t).2.1)
  else if (tkN T n (tkN T n t)).1 ≠ 2 then .error (1, (tkN T n (tkN T n t)).2.1) else rdMv T n np (tkN T n t).2.2.2 (n + 1) (tkN T n (tkN T n t)) M
theorem rdMv_no {T : Nat → Nat} {n np a : Nat} {t : Tk} {M : List (Nat × Nat)} (h : t.1 ≠ 2) : ∀ f, rdMv T n np a f t M = .ok (t, M)
  | 0 => rfl
  | f + 1 => by simp only [rdMv]; rw [if_pos h]
def O5m (T : Nat → Nat) (n : Nat) (P : List (Nat × Nat)) (R : RdM) (er ea k s e v m : Int32) (fr to : Nat → Int32) : Prop :=
  (∃ t M, R = .ok (t, M) ∧ er = 0 ∧ ea = -1 ∧ RTk n t k s e v ∧ tkOk T n t ∧ RV M m fr to ∧ gOk0 P M) ∨ (∃ a b, R = .error (a, b) ∧ 0 < a ∧ a < 7 ∧ b ≤ n ∧ er = nI a ∧ ea = nI b)
theorem gOk0_app {P M : List (Nat × Nat)} {a b : Nat} (h : gOk0 P M) (hm : M.length < 60) (ha : a < P.length) (hb : b < P.length) (hno : ¬ gEd M a b) : gOk0 P (M ++ [(a, b)]) :=
  (gOk_addMove (g := (P, M, 0, 0, fun _ => 0)) ⟨h, by show 1 ≤ P.length; omega, by show 0 < P.length; omega⟩ hm ha hb hno).1
section RD5B
variable {T : Nat → Nat} {n : Nat} {text : Nat → Int32} {t : Tk} {k s e v : Int32} {P : List (Nat × Nat)}
theorem has_place {x : Nat} {post : Int32 → Prop} (hn : P.length ≤ 20) (hx : x < 1000) (h1 : x < P.length → post 1) (h0 : ¬ x < P.length → post 0) : wp_X1_hasPlace (nI x) (nI P.length) post := by
  refine x1_hasPlace hn (fun q => h0 (fun z => q x z rfl)) (fun k hk e => h1 ?_)
  have := (nI_eq (by omega) (by omega)).mp e
  omega
theorem x5_lpMv {a : Nat} {R : RdM} {K : Int32 → Int32 → Int32 → Int32 → Int32 → Int32 → Int32 → Int32 → (Nat → Int32) → (Nat → Int32) → Prop} (ha : a < P.length) (hn : n ≤ 600) (hT : ∀ j, j < n → text j = nI (T j) ∧ T j < 256)
    (hK : ∀ v2 er ea k s e v m fr to, O5m T n P R er ea k s e v m fr to → K v2 er ea k s e v m fr to) {er ea m : Int32} {fr to : Nat → Int32}
    (h0 : (∃ t M f, rdMv T n P.length a f t M = R ∧ er = 0 ∧ ea = -1 ∧ RTk n t k s e v ∧ tkOk T n t ∧ RV M m fr to ∧ gOk0 P M ∧ (t.1 = 2 → n < f + t.2.2.1)) ∨ (∃ a b, R = .error (a, b) ∧ 0 < a ∧ a < 7 ∧ b ≤ n ∧ er = nI a ∧ ea = nI b)) :
    ∃ x, fx10 (F_X4_readMoves_39 (nI a) (nI n) (nI P.length) text K) x (0 : Int32) er ea k s e v m fr to := by
  refine fx10_go (fun v2 er ea k s e v m fr to => ∃ i, i ≤ n ∧ v2 = nI i ∧ ((∃ t M f, rdMv T n P.length a f t M = R ∧ er = 0 ∧ ea = -1 ∧ RTk n t k s e v ∧ tkOk T n t ∧ RV M m fr to ∧ gOk0 P M ∧ (t.1 = 2 → n < f + t.2.2.1 ∧ i < t.2.2.1)) ∨ (∃ a b, R = .error (a, b) ∧ 0 < a ∧ a < 7 ∧ b ≤ n ∧ er = nI a ∧ ea = nI b))) (fun v2 _ _ _ _ _ _ _ _ _ => n - v2.toNatClampNeg) ?_ _ _ _ _ _ _ _ _ _ _ ⟨0, Nat.zero_le _, rfl, ?_⟩
  · rintro rec v2 er ea k s e v m fr to ⟨i, hi, rfl, hI⟩ hrec
    unfold F_X4_readMoves_39
    have hexit : (n ≤ i ∨ ¬ er = 0 ∨ ¬ k = 2) → O5m T n P R er ea k s e v m fr to := by
      intro hx
      rcases hI with ⟨t, M, f, h1, h2, h3, h4, h5, h6, h7, h8⟩ | hI
      · have nt : t.1 ≠ 2 := by
          intro z
          rcases hx with x | x | x
          · have := (h8 z).2; have := h5.2.2.1 (by omega); omega
          · exact x h2
          · exact x ((RTk_k h5 h4 (x := 2) (by decide)).mpr z)
        rw [rdMv_no nt] at h1
        exact Or.inl ⟨t, M, h1.symm, h2, h3, h4, h5, h6, h7⟩
      · exact Or.inr hI
    refine ⟨fun z => hK _ _ _ _ _ _ _ _ _ _ (hexit (Or.inl ((nI_leI (by omega) (by omega)).mp z))), fun z => ⟨fun z2 => hK _ _ _ _ _ _ _ _ _ _ (hexit (Or.inr (Or.inl z2))), fun z2 => ⟨fun z3 => hK _ _ _ _ _ _ _ _ _ _ (hexit (Or.inr (Or.inr z3))), fun z3 => ?_⟩⟩⟩
    have hin : i < n := by have := mt (nI_leI (a := n) (b := i) (by omega) (by omega)).mpr z; omega
    rcases hI with ⟨t, M, f, h1, h2, h3, h4, h5, h6, h7, h8⟩ | ⟨a, b, _, ha, ha7, _, he, _⟩
    · have t2 := (RTk_k h5 h4 (x := 2) (by decide)).mp z3
      obtain ⟨h8, h9⟩ := h8 t2
      have hen := h5.2.2.1 (by omega)
      obtain ⟨f', rfl⟩ : ∃ f', f = f' + 1 := ⟨f - 1, by omega⟩
      simp only [rdMv] at h1
      rw [if_neg (fun y => y t2)] at h1
      have hv := h4.2.2.2 t2
      have hv9 := h5.2.2.2.2.2.1 t2
      have hs := h4.2.1
      have hP20 := h7.1
      have hM60 := h7.2.1
      subst h2
      have hadv : ∀ {er' ea' m' : Int32} {f' t' : Nat → Int32}, (∀ k' s' e' v', RTk n (tkN T n t) k' s' e' v' → tkOk T n (tkN T n t) → t.2.2.1 ≤ (tkN T n t).2.1 → rec (nI i + 1) er' ea' k' s' e' v' m' f' t') → wp_X4_advance (nI n) k e v text (fun k' s' e' v' => rec (nI i + (1 : Int32)) er' ea' k' s' e' v' m' f' t') := fun hh => x5_adv hn hT h5 (by omega) h4 hh
      have hdec : n - (nI i + 1).toNatClampNeg < n - (nI i).toNatClampNeg := by rw [nI_1, nI_clamp (by omega), nI_clamp (by omega)]; omega
      have hbad : ∀ a, 0 < a → a < 7 → R = .error (a, t.2.1) → wp_X4_fail (nI a) (0 : Int32) ea s (fun er' ea' => wp_X4_advance (nI n) k e v text (fun k' s' e' v' => rec (nI i + (1 : Int32)) er' ea' k' s' e' v' m fr to)) := by
        intro a a1 a2 a3
        unfold wp_X4_fail
        exact ⟨fun y => absurd rfl y, fun _ => hadv (fun k' s' e' v' hr _ _ => hrec _ _ _ _ _ _ _ _ _ _ ⟨i + 1, by omega, nI_1 i, Or.inr ⟨a, t.2.1, a3, a1, a2, h5.2.1, rfl, hs⟩⟩ hdec)⟩
      unfold wp_X4_readMoveTo
      rw [hv]
      refine has_place hP20 hv9 (fun y => ⟨fun _ => ?_, fun y9 => absurd y9 (by decide)⟩) (fun y => ⟨fun y9 => absurd rfl y9, fun _ => ?_⟩)
      · obtain ⟨k1, k2⟩ := fst_ed (mv := M) (i := a) (j := t.2.2.2) hM60
        rw [if_neg (fun x => x y)] at h1
        refine x1_findMove h6 hM60 (mv_small h7) (by omega) hv9 ⟨fun x => ⟨fun y2 => ?_, fun y2 => ?_⟩, fun x => ?_⟩
        · have hno := k1 x
          have y2' : M.length < 60 := by rw [h6.1] at y2; exact (nI_ltI (b := 60) (by omega) (by decide)).mp y2
          rw [if_neg (fun w => hno (pD_t.mp w)), if_neg (by omega)] at h1
          refine x1_appendMove (a := a) (b := t.2.2.2) h6 y2' (fun m' f2 t2' h6' => ?_)
          rw [← hv]
          refine hadv (fun k' s' e' v' hr ho' hge => hrec _ _ _ _ _ _ _ _ _ _ ⟨i + 1, by omega, nI_1 i, Or.inl ⟨tkN T n t, _, f', h1, rfl, h3, hr, ho', h6', gOk0_app h7 y2' ha y hno, fun x => ?_⟩⟩ hdec)
          have := ho'.2.2.2.1 (by omega) (by omega)
          omega
        · have hno := k1 x
          have y2' : M.length = 60 := by
            have : ¬ M.length < 60 := fun x => y2 (by rw [h6.1]; exact (nI_ltI (b := 60) (by omega) (by decide)).mpr x)
            omega
          rw [if_neg (fun w => hno (pD_t.mp w)), if_pos y2'] at h1
          rw [← hv]
          exact hbad 5 (by decide) (by decide) h1.symm
        · rw [if_pos (pD_t.mpr (k2 x))] at h1
          rw [← hv]
          exact hbad 4 (by decide) (by decide) h1.symm
      · rw [if_pos y] at h1
        rw [← hv]
        exact hbad 3 (by decide) (by decide) h1.symm
    · exact absurd z2 (by rw [he]; exact nI_ne0 ha (by omega))
  · rcases h0 with ⟨t, M, f, h1, h2, h3, h4, h5, h6, h7, h8⟩ | h0
    · refine Or.inl ⟨t, M, f, h1, h2, h3, h4, h5, h6, h7, fun z => ⟨h8 z, ?_⟩⟩
      have := h5.2.2.2.1 (by omega) (by omega)
      omega
    · exact Or.inr h0
theorem x5_needPlaceNumber {post : Int32 → Int32 → Prop} (hP : P.length ≤ 20) (ht : tkOk T n t) (hR : RTk n t k s e v) (h1 : t.1 ≠ 2 → post 1 s) (h3 : t.1 = 2 → ¬ t.2.2.2 < P.length → post 3 s) (h : t.1 = 2 → t.2.2.2 < P.length → post 0 (-1)) : wp_X4_needPlaceNumber (0 : Int32) (-1 : Int32) k s v (nI P.length) post := by
  unfold wp_X4_needPlaceNumber wp_X4_fail
  refine ⟨fun q => ?_, fun q => ⟨fun y => absurd rfl y, fun _ => h1 (fun z => q ((RTk_k ht hR (x := 2) (by decide)).mpr z))⟩⟩
  have t2 := (RTk_k ht hR (x := 2) (by decide)).mp q
  rw [hR.2.2.2 t2]
  exact has_place hP (ht.2.2.2.2.2.1 t2) (fun y => ⟨fun _ => h t2 y, fun y9 => absurd y9 (by decide)⟩) (fun y => ⟨fun y9 => absurd rfl y9, fun _ => ⟨fun y => absurd rfl y, fun _ => h3 t2 y⟩⟩)
theorem x5_readMoves {post : Int32 → Int32 → Int32 → Int32 → Int32 → Int32 → Int32 → (Nat → Int32) → (Nat → Int32) → Prop} {M : List (Nat × Nat)} {m v0 : Int32} {fr to : Nat → Int32} (hn : n ≤ 600) (hT : ∀ j, j < n → text j = nI (T j) ∧ T j < 256) (ht : tkOk T n t) (h4 : t.1 ≠ 4) (hR : RTk n t k s e v) (hv : RV M m fr to) (hg : gOk0 P M)
    (h : ∀ er ea k s e v m fr to, O5m T n P (rdMoves T n P.length t M) er ea k s e v m fr to → post er ea k s e v m fr to) : wp_X4_readMoves (0 : Int32) (-1 : Int32) (nI n) k e v0 (nI P.length) m text fr to post := by
  unfold wp_X4_readMoves
  refine x5_adv hn hT ht h4 hR (fun k' s' e' v' hr ho' hge => ?_)
  have herr : ∀ a b, rdMoves T n P.length t M = .error (a, b) → 0 < a → a < 7 → b ≤ n → ∀ {k s e v : Int32} (a1 : Nat), a1 < P.length ∨ True → ∃ x, fx10 (F_X4_readMoves_39 v' (nI n) (nI P.length) text (fun v2 er ea k s e v m fr to => post er ea k s e v m fr to)) x (0 : Int32) (nI a) (nI b) k s e v m fr to := by
    intro a b e1 e2 e3 e4 k s e v a1 _
    refine ⟨1, ?_⟩
    show F_X4_readMoves_39 v' (nI n) (nI P.length) text (fun v2 er ea k s e v m fr to => post er ea k s e v m fr to) _ (0 : Int32) (nI a) (nI b) k s e v m fr to
    unfold F_X4_readMoves_39
    have hO := h (nI a) (nI b) k s e v m fr to (Or.inr ⟨a, b, e1, e2, e3, e4, rfl, rfl⟩)
    exact ⟨fun _ => hO, fun _ => ⟨fun _ => hO, fun z => absurd z (nI_ne0 e2 (by omega))⟩⟩
  refine x5_needPlaceNumber hg.1 ho' hr (fun z => ⟨fun _ => ?_, fun y => absurd y (by decide)⟩) (fun z z2 => ⟨fun _ => ?_, fun y => absurd y (by decide)⟩) (fun z z2 => ⟨fun y => absurd rfl y, fun _ => ?_⟩)
  · have eR : rdMoves T n P.length t M = .error (1, (tkN T n t).2.1) := by unfold rdMoves; rw [if_pos z]
    rw [hr.2.1]
    exact herr 1 _ eR (by decide) (by decide) ho'.2.1 0 (Or.inr trivial)
  · have eR : rdMoves T n P.length t M = .error (3, (tkN T n t).2.1) := by unfold rdMoves; rw [if_neg (fun y => y z), if_pos z2]
    rw [hr.2.1]
    exact herr 3 _ eR (by decide) (by decide) ho'.2.1 0 (Or.inr trivial)
  · refine x5_adv hn hT ho' (by omega) hr (fun k2 s2 e2 v2 hr2 ho2 hge2 => ⟨fun y => ?_, fun y => ?_⟩)
    · have y2 := (RTk_k ho2 hr2 (x := 2) (by decide)).mp y
      rw [hr.2.2.2 z]
      refine x5_lpMv (R := rdMoves T n P.length t M) z2 hn hT (fun v2 er ea k s e v m fr to hO => h er ea k s e v m fr to hO) (Or.inl ⟨tkN T n (tkN T n t), M, n + 1, ?_, rfl, rfl, hr2, ho2, hv, hg, fun _ => by omega⟩)
      unfold rdMoves
      rw [if_neg (fun y => y z), if_neg (fun y => y z2), if_neg (fun y => y y2)]
    · have y2 : (tkN T n (tkN T n t)).1 ≠ 2 := fun x => y ((RTk_k ho2 hr2 (x := 2) (by decide)).mpr x)
      have eR : rdMoves T n P.length t M = .error (1, (tkN T n (tkN T n t)).2.1) := by unfold rdMoves; rw [if_neg (fun y => y z), if_neg (fun y => y z2), if_pos y2]
      unfold wp_X4_fail
      refine ⟨fun x => absurd rfl x, fun _ => ?_⟩
      rw [hr2.2.1]
      exact herr 1 _ eR (by decide) (by decide) ho2.2.1 0 (Or.inr trivial)
end RD5B
