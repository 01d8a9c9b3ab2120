/-! the texts: the reference's reader: places, moves -/
def O6p (T : Nat → Nat) (n : Nat) (R : RdP) (now0 : Nat → Int32) (k s e v f fa : Int32) (now : Nat → Int32) : Prop :=
  (∃ t P, R = .ok (t, P) ∧ f = 0 ∧ RTk n t k s e v ∧ tkOk T n t ∧ RMp P now ∧ rdOk P ∧ ∀ i, i ≠ 0 → i < 4 ∨ 44 ≤ i → now i = now0 i) ∨ (∃ a b, R = .error (a, b) ∧ 0 < a ∧ a < 7 ∧ b ≤ n ∧ f = nI a ∧ fa = nI b)
def O6m (T : Nat → Nat) (n : Nat) (P : List (Nat × Nat)) (R : RdM) (now0 : Nat → Int32) (k s e v f fa : Int32) (now : Nat → Int32) : Prop :=
  (∃ t M, R = .ok (t, M) ∧ f = 0 ∧ RTk n t k s e v ∧ tkOk T n t ∧ RMp P now ∧ RMv M now ∧ gOk0 P M ∧ ∀ i, i ≠ 1 → i < 44 ∨ 166 ≤ i → now i = now0 i) ∨ (∃ a b, R = .error (a, b) ∧ 0 < a ∧ a < 7 ∧ b ≤ n ∧ f = nI a ∧ fa = nI b)
section RD6
variable {T : Nat → Nat} {n : Nat} {inp keys now0 : Nat → Int32} {t : Tk} {k s e v fa : Int32} {P M : List (Nat × Nat)}
theorem x6_nxt {post : Int32 → Int32 → Int32 → Int32 → Prop} {v0 : Int32} (hn : n ≤ 600) (hT : ∀ j, j < n → inp j = sgB (T j) ∧ T j < 256) (ht : tkOk T n t) (h4 : t.1 ≠ 4) (hR : RTk n t k s e v)
    (h : ∀ k' s' e' v', RTk n (tkN T n t) k' s' e' v' → tkOk T n (tkN T n t) → t.2.2.1 ≤ (tkN T n t).2.1 → post k' s' e' v') : wp_X6_next (nI n) k e v0 inp post := by
  obtain ⟨rfl, rfl, ⟨b, hb, rfl, hb2⟩, _⟩ := hR
  have e1 := hb2 h4
  subst e1
  have hO := tkN_ok (T := T) (t := t) hb
  exact x6_next hn hb ht.1 hT (fun k' s' e' v' hr => h k' s' e' v' hr hO.1 hO.2)
theorem x6_isK {w : Nat} {post : Int32 → Prop} (hn : n ≤ 600) (hT : ∀ j, j < n → inp j = sgB (T j) ∧ T j < 256) (hK : RKy keys) (hw : w < 5) (ht : tkOk T n t) (hR : RTk n t k s e v) (h1 : wdAt T w t → post 1) (h0 : ¬ wdAt T w t → post 0) : wp_X6_isKey (nI w) k s e inp keys post := by
  obtain ⟨rfl, rfl, ⟨b, hb, rfl, hb2⟩, _⟩ := hR
  by_cases q : t.1 = 1
  · have e1 := hb2 (by omega)
    subst e1
    have hlt := ht.2.2.2.1 (by omega) (by omega)
    exact x6_isKey hn (Nat.le_of_lt hlt) hb ht.1 hw hK hT ht.2.2.2.2.1 (fun a1 a2 => h1 ⟨a1, a2⟩) h0
  · have e1 : ¬ nI t.1 = (1 : Int32) := fun z => q ((nI_eq (b := 1) (by have := ht.1; omega) (by decide)).mp z)
    unfold wp_X6_isKey
    exact ⟨fun _ => h0 (fun z => q z.1), fun z => absurd z e1⟩
theorem is_place {x : Nat} {now : Nat → Int32} {post : Int32 → Prop} (hp : RMp P now) (hn : P.length ≤ 20) (hx : x < 1000) (h1 : x < P.length → post 1) (h0 : ¬ x < P.length → post 0) : wp_X6_isPlace (nI x) now post := by
  refine x6_isPlace hp hn (fun q => h0 (fun z => q x z rfl)) (fun k hk e => h1 ?_)
  have := (nI_eq (by omega) (by omega)).mp e
  omega
theorem x6_thePlace {now : Nat → Int32} {post : Int32 → Int32 → Int32 → Prop} (hp : RMp P now) (hP : P.length ≤ 20) (ht : tkOk T n t) (hR : RTk n t k s e v) (h1 : t.1 ≠ 2 → post v 1 s) (h3 : t.1 = 2 → ¬ t.2.2.2 < P.length → post v 3 s) (h : t.1 = 2 → t.2.2.2 < P.length → post v 0 fa) : wp_X6_thePlace k s v (0 : Int32) fa now post := by
  have hk2 := RTk_k ht hR (x := 2) (by decide)
  unfold wp_X6_thePlace wp_X6_errs
  refine ⟨fun y => absurd rfl y, fun _ => ⟨fun q => ⟨fun y => absurd rfl y, fun _ => ?_⟩, fun q => ⟨fun y => absurd rfl y, fun _ => ⟨fun _ => h1 (fun z => q (hk2.mpr z)), fun y => absurd y (by decide)⟩⟩⟩⟩
  have t2 := hk2.mp q
  have hx := ht.2.2.2.2.2.1 t2
  have ev := hR.2.2.2 t2
  have h3 := h3 t2
  have h := h t2
  rw [ev] at h3 h ⊢
  exact is_place hp hP hx (fun y => ⟨fun _ => h y, fun y9 => absurd y9 (by decide)⟩) (fun y => ⟨fun y9 => absurd rfl y9, fun _ => ⟨fun y => absurd rfl y, fun _ => h3 y⟩⟩)
theorem x6_lpPl {o : Nat} {R : RdP} {K : Int32 → Int32 → Int32 → Int32 → Int32 → Int32 → Int32 → (Nat → Int32) → Prop} (ho : o < 2) (hn : n ≤ 600) (hT : ∀ j, j < n → inp j = sgB (T j) ∧ T j < 256)
    (hK : ∀ v2 k s e v f fa now, O6p T n R now0 k s e v f fa now → K v2 k s e v f fa now)
    (hR : RTk n t k s e v) (ht : tkOk T n t) (hp : RMp P now0) (hpo : rdOk P) (h0 : (t.1 = 2 ∧ rdPl T n o (n + 1) t P = R) ∨ (t.1 ≠ 2 ∧ R = .error (1, t.2.1))) :
    ∃ m, fx8 (F_X6_readsPlaces_6 (nI o) (nI n) inp K) m (1 : Int32) k s e v (0 : Int32) fa now0 := by
  refine fx8_go (fun v2 k s e v f fa now => (f = 0 ∧ ∃ t P, RTk n t k s e v ∧ tkOk T n t ∧ RMp P now ∧ rdOk P ∧ (∀ i, i ≠ 0 → i < 4 ∨ 44 ≤ i → now i = now0 i) ∧ ((v2 = 1 ∧ t.1 = 2 ∧ ∃ fu, rdPl T n o fu t P = R ∧ n < fu + t.2.2.1) ∨ (v2 = 1 ∧ t.1 ≠ 2 ∧ R = .error (1, t.2.1)) ∨ (v2 = 0 ∧ R = .ok (t, P)))) ∨ (∃ a b, R = .error (a, b) ∧ 0 < a ∧ a < 7 ∧ b ≤ n ∧ f = nI a ∧ fa = nI b)) (fun v2 _ _ e _ f _ _ => if f = 0 ∧ ¬ v2 = 0 then n - e.toNatClampNeg + 1 else 0) ?_ _ _ _ _ _ _ _ _ (Or.inl ⟨rfl, t, P, hR, ht, hp, hpo, fun _ _ _ => rfl, ?_⟩)
  · rintro rec v2 k s e v f fa now hI hrec
    unfold F_X6_readsPlaces_6
    refine ⟨fun z => ?_, fun z => ⟨fun z2 => ?_, fun z2 => ?_⟩⟩
    · rcases hI with ⟨h, _⟩ | hI
      · exact absurd h z
      · exact hK _ _ _ _ _ _ _ _ (Or.inr hI)
    · rcases hI with ⟨_, t, P, a1, a2, a3, a4, a5, h | h | h⟩ | ⟨a, b, _, ha, _, _, he, _⟩
      · rw [h.1] at z2; exact absurd z2 (by decide)
      · rw [h.1] at z2; exact absurd z2 (by decide)
      · exact hK _ _ _ _ _ _ _ _ (Or.inl ⟨t, P, h.2, z, a1, a2, a3, a4, a5⟩)
      · exact absurd z (by rw [he]; exact nI_ne0 ha (by omega))
    · rcases hI with ⟨_, t, P, a1, a2, a3, a4, a5, hI⟩ | ⟨a, b, _, ha, _, _, he, _⟩
      · have hk2 := RTk_k a2 a1 (x := 2) (by decide)
        subst z
        have hmu : ∀ (v2' e' f' : Int32), ¬ f' = 0 ∨ v2' = 0 → (if f' = 0 ∧ ¬ v2' = 0 then n - e'.toNatClampNeg + 1 else 0) < (if (0 : Int32) = 0 ∧ ¬ v2 = 0 then n - e.toNatClampNeg + 1 else 0) := by
          intro v2' e' f' hh
          rw [if_neg (fun y => hh.elim (fun x => x y.1) (fun x => y.2 x)), if_pos ⟨rfl, z2⟩]
          omega
        have hbad : ∀ a, 0 < a → a < 7 → R = .error (a, t.2.1) → wp_X6_errs (nI a) s (0 : Int32) fa (fun f' fa' => ((¬ k = (2 : Int32) → (rec (0 : Int32) k s e v f' fa' now)) ∧ (k = (2 : Int32) → (rec (1 : Int32) k s e v f' fa' now)))) := by
          intro a b1 b2 b3
          unfold wp_X6_errs
          have hz : ¬ nI a = 0 := nI_ne0 b1 (by omega)
          exact ⟨fun y => absurd rfl y, fun _ => ⟨fun _ => hrec _ _ _ _ _ _ _ _ (Or.inr ⟨a, t.2.1, b3, b1, b2, a2.2.1, rfl, a1.2.1⟩) (hmu _ _ _ (Or.inl hz)), fun _ => hrec _ _ _ _ _ _ _ _ (Or.inr ⟨a, t.2.1, b3, b1, b2, a2.2.1, rfl, a1.2.1⟩) (hmu _ _ _ (Or.inl hz))⟩⟩
        refine ⟨fun q => ?_, fun q => ?_⟩
        · have t2 := hk2.mp q
          have hen := a2.2.2.1 (by omega)
          have hse := a2.2.2.2.1 (by omega) (by omega)
          obtain ⟨fu, h1, h2⟩ : ∃ fu, rdPl T n o fu t P = R ∧ n < fu + t.2.2.1 := by
            rcases hI with h | h | h
            · exact h.2.2
            · exact absurd t2 h.2.1
            · exact absurd h.1 z2
          obtain ⟨f', rfl⟩ : ∃ f', fu = f' + 1 := ⟨fu - 1, by omega⟩
          simp only [rdPl] at h1
          rw [if_neg (fun y => y t2)] at h1
          have hv := a1.2.2.2 t2
          have hv9 := a2.2.2.2.2.2.1 t2
          rw [hv]
          refine ⟨fun y => ⟨fun y2 => ?_, fun y2 => ?_⟩, fun y => ?_⟩
          · have y' := (nI_leI (b := 9) (by omega) (by decide)).mp y
            have y2' : P.length < 20 := by
              have : ¬ P.length = 20 := fun x => y2 (by rw [a3.1, x]; rfl)
              have := a4.1
              omega
            rw [if_neg (by omega), if_neg (by omega)] at h1
            refine x6_joins (o := o) (c := t.2.2.2) y2' a3 (fun now' b1 b2 => x6_nxt hn hT a2 (by omega) a1 (fun k' s' e' v' hr ho' hge => ?_))
            have hpo' : rdOk (P ++ [(o, t.2.2.2)]) := ⟨by rw [List.length_append, List.length_singleton]; omega, fun x hx => by
              rcases List.mem_append.mp hx with hx | hx
              · exact a4.2 x hx
              · rw [List.mem_singleton.mp hx]; exact ⟨ho, by show t.2.2.2 < 10; omega⟩⟩
            have hfr : ∀ i, i ≠ 0 → i < 4 ∨ 44 ≤ i → now' i = now0 i := fun i c1 c2 => (b2 i c1 c2).trans (a5 i c1 c2)
            refine ⟨fun x => ?_, fun x => ?_⟩
            · have x2 : (tkN T n t).1 ≠ 2 := fun w => x ((RTk_k ho' hr (x := 2) (by decide)).mpr w)
              rw [rdPl_no x2] at h1
              exact hrec _ _ _ _ _ _ _ _ (Or.inl ⟨rfl, tkN T n t, _, hr, ho', b1, hpo', hfr, Or.inr (Or.inr ⟨rfl, h1.symm⟩)⟩) (hmu _ _ _ (Or.inr rfl))
            · have x2 := (RTk_k ho' hr (x := 2) (by decide)).mp x
              have c1 := ho'.2.2.2.1 (by omega) (by omega)
              have c2 := ho'.2.2.1 (by omega)
              refine hrec _ _ _ _ _ _ _ _ (Or.inl ⟨rfl, tkN T n t, _, hr, ho', b1, hpo', hfr, Or.inl ⟨rfl, x2, f', h1, by omega⟩⟩) ?_
              obtain ⟨x9, hx9, hx8, hx7⟩ := hr.2.2.1
              obtain ⟨y9, hy9, hy8, hy7⟩ := a1.2.2.1
              have hx6 := hx7 (by omega)
              have hy6 := hy7 (by omega)
              rw [if_pos ⟨rfl, by decide⟩, if_pos ⟨rfl, z2⟩, hx8, hy8, nI_clamp (by omega), nI_clamp (by omega)]
              omega
          · have y' := (nI_leI (b := 9) (by omega) (by decide)).mp y
            have y2' : P.length = 20 := by rw [a3.1] at y2; exact (nI_eq (b := 20) (by have := a4.1; omega) (by decide)).mp y2
            rw [if_neg (by omega), if_pos y2'] at h1
            rw [← hv]
            exact hbad 5 (by decide) (by decide) h1.symm
          · have y' : 10 ≤ t.2.2.2 := by have := mt (nI_leI (a := t.2.2.2) (b := 9) (by omega) (by decide)).mpr y; omega
            rw [if_pos y'] at h1
            rw [← hv]
            exact hbad 2 (by decide) (by decide) h1.symm
        · have t2 : t.1 ≠ 2 := fun x => q (hk2.mpr x)
          have hR1 : R = .error (1, t.2.1) := by
            rcases hI with h | h | h
            · exact absurd h.2.1 t2
            · exact h.2.2
            · exact absurd h.1 z2
          exact hbad 1 (by decide) (by decide) hR1
      · exact absurd z (by rw [he]; exact nI_ne0 ha (by omega))
  · rcases h0 with ⟨h1, h2⟩ | ⟨h1, h2⟩
    · refine Or.inl ⟨rfl, h1, n + 1, h2, by omega⟩
    · exact Or.inr (Or.inl ⟨rfl, h1, h2⟩)
theorem x6_readsPlaces {o : Nat} {v0 : Int32} {post : Int32 → Int32 → Int32 → Int32 → Int32 → Int32 → (Nat → Int32) → Prop} (ho : o < 2) (hn : n ≤ 600) (hT : ∀ j, j < n → inp j = sgB (T j) ∧ T j < 256) (ht : tkOk T n t) (h4 : t.1 ≠ 4) (hR : RTk n t k s e v) (hp : RMp P now0) (hpo : rdOk P)
    (h : ∀ k s e v f fa now, O6p T n (rdPlaces T n o t P) now0 k s e v f fa now → post k s e v f fa now) : wp_X6_readsPlaces (nI o) (nI n) k e v0 (0 : Int32) fa inp now0 post := by
  unfold wp_X6_readsPlaces
  refine x6_nxt hn hT ht h4 hR (fun k' s' e' v' hr ho' hge => x6_lpPl (R := rdPlaces T n o t P) ho hn hT (fun v2 k s e v f fa now hO => h k s e v f fa now hO) hr ho' hp hpo ?_)
  unfold rdPlaces
  by_cases q : (tkN T n t).1 = 2
  · rw [if_neg (fun y => y q)]; exact Or.inl ⟨q, rfl⟩
  · rw [if_pos q]; exact Or.inr ⟨q, rfl⟩
end RD6
