/-! the texts: the reference's reader: moves -/
section RD6B
variable {T : Nat → Nat} {n : Nat} {inp keys now0 : Nat → Int32} {t : Tk} {k s e v fa : Int32} {P M : List (Nat × Nat)}
theorem x6_lpMv {a : Nat} {R : RdM} {K : Int32 → Int32 → Int32 → Int32 → Int32 → Int32 → Int32 → (Nat → Int32) → Prop} (ha : a < P.length) (hn : n ≤ 600) (hT : ∀ j, j < n → inp j = sgB (T j) ∧ T j < 256)
    (hK : ∀ v2 k s e v f fa now, O6m T n P R now0 k s e v f fa now → K v2 k s e v f fa now)
    (hR : RTk n t k s e v) (ht : tkOk T n t) (hp : RMp P now0) (hv : RMv M now0) (hg : gOk0 P M) (h0 : (t.1 = 2 ∧ rdMv T n P.length a (n + 1) t M = R) ∨ (t.1 ≠ 2 ∧ R = .error (1, t.2.1))) :
    ∃ m, fx8 (F_X6_readsMoves_22 (nI a) (nI n) inp K) m (1 : Int32) k s e v (0 : Int32) fa now0 := by
  refine fx8_go (fun v2 k s e v f fa now => (f = 0 ∧ ∃ t M, RTk n t k s e v ∧ tkOk T n t ∧ RMp P now ∧ RMv M now ∧ gOk0 P M ∧ (∀ i, i ≠ 1 → i < 44 ∨ 166 ≤ i → now i = now0 i) ∧ ((v2 = 1 ∧ t.1 = 2 ∧ ∃ fu, rdMv T n P.length a fu t M = R ∧ n < fu + t.2.2.1) ∨ (v2 = 1 ∧ t.1 ≠ 2 ∧ R = .error (1, t.2.1)) ∨ (v2 = 0 ∧ R = .ok (t, M)))) ∨ (∃ a b, R = .error (a, b) ∧ 0 < a ∧ a < 7 ∧ b ≤ n ∧ f = nI a ∧ fa = nI b)) (fun v2 _ _ e _ f _ _ => if f = 0 ∧ ¬ v2 = 0 then n - e.toNatClampNeg + 1 else 0) ?_ _ _ _ _ _ _ _ _ (Or.inl ⟨rfl, t, M, hR, ht, hp, hv, hg, fun _ _ _ => rfl, ?_⟩)
  · rintro rec v2 k s e v f fa now hI hrec
    unfold F_X6_readsMoves_22
    refine ⟨fun z => ?_, fun z => ⟨fun z2 => ?_, fun z2 => ?_⟩⟩
    · rcases hI with ⟨h, _⟩ | hI
      · exact absurd h z
      · exact hK _ _ _ _ _ _ _ _ (Or.inr hI)
    · rcases hI with ⟨_, t, M, a1, a2, a3, a4, a5, a6, h | h | h⟩ | ⟨a, b, _, ha, _, _, he, _⟩
      · rw [h.1] at z2; exact absurd z2 (by decide)
      · rw [h.1] at z2; exact absurd z2 (by decide)
      · exact hK _ _ _ _ _ _ _ _ (Or.inl ⟨t, M, h.2, z, a1, a2, a3, a4, a5, a6⟩)
      · exact absurd z (by rw [he]; exact nI_ne0 ha (by omega))
    · rcases hI with ⟨_, t, M, a1, a2, a3, a4, a5, a6, hI⟩ | ⟨a, b, _, ha, _, _, he, _⟩
      · have hk2 := RTk_k a2 a1 (x := 2) (by decide)
        have hP20 := a5.1
        have hM60 := a5.2.1
        subst z
        have hmu : ∀ (v2' e' f' : Int32), ¬ f' = 0 ∨ v2' = 0 → (if f' = 0 ∧ ¬ v2' = 0 then n - e'.toNatClampNeg + 1 else 0) < (if (0 : Int32) = 0 ∧ ¬ v2 = 0 then n - e.toNatClampNeg + 1 else 0) := by
          intro v2' e' f' hh
          rw [if_neg (fun y => hh.elim (fun x => x y.1) (fun x => y.2 x)), if_pos ⟨rfl, z2⟩]
          omega
        have hz : ∀ a, 0 < a → a < 7 → ¬ nI a = (0 : Int32) := fun a b1 b2 => nI_ne0 b1 (by omega)
        have hE : ∀ a, 0 < a → a < 7 → R = .error (a, t.2.1) → ((¬ k = (2 : Int32) → (rec (0 : Int32) k s e v (nI a) s now)) ∧ (k = (2 : Int32) → (rec (1 : Int32) k s e v (nI a) s now))) := by
          intro a b1 b2 b3
          exact ⟨fun _ => hrec _ _ _ _ _ _ _ _ (Or.inr ⟨a, t.2.1, b3, b1, b2, a2.2.1, rfl, a1.2.1⟩) (hmu _ _ _ (Or.inl (hz a b1 b2))), fun _ => hrec _ _ _ _ _ _ _ _ (Or.inr ⟨a, t.2.1, b3, b1, b2, a2.2.1, rfl, a1.2.1⟩) (hmu _ _ _ (Or.inl (hz a b1 b2)))⟩
        have hnof : t.1 = 2 → ∃ fu, rdMv T n P.length a (fu + 1) t M = R ∧ n < fu + 1 + t.2.2.1 := by
          intro t2
          have hen := a2.2.2.1 (by omega)
          rcases hI with h | h | h
          · obtain ⟨fu, b1, b2⟩ := h.2.2
            exact ⟨fu - 1, by rw [show fu - 1 + 1 = fu by omega]; exact b1, by omega⟩
          · exact absurd t2 h.2.1
          · exact absurd h.1 z2
        refine x6_thePlace (P := P) a3 hP20 a2 a1 (fun t2 => ?_) (fun t2 y => ?_) (fun t2 y => ?_)
        · have hR1 : R = .error (1, t.2.1) := by
            rcases hI with h | h | h
            · exact absurd h.2.1 t2
            · exact h.2.2
            · exact absurd h.1 z2
          have h1 := hz 1 (by decide) (by decide)
          exact ⟨fun _ => ⟨fun _ => ⟨fun _ => hE 1 (by decide) (by decide) hR1, fun w => absurd w h1⟩, fun w => absurd w h1⟩, fun w => absurd w h1⟩
        · obtain ⟨fu, h1, h2⟩ := hnof t2
          simp only [rdMv] at h1
          rw [if_neg (fun y => y t2), if_pos y] at h1
          have h3 := hz 3 (by decide) (by decide)
          exact ⟨fun _ => ⟨fun _ => ⟨fun _ => hE 3 (by decide) (by decide) h1.symm, fun w => absurd w h3⟩, fun w => absurd w h3⟩, fun w => absurd w h3⟩
        · obtain ⟨fu, h1, h2⟩ := hnof t2
          simp only [rdMv] at h1
          rw [if_neg (fun y => y t2), if_neg (fun x => x y)] at h1
          have hen := a2.2.2.1 (by omega)
          have ev := a1.2.2.2 t2
          have hv9 := a2.2.2.2.2.2.1 t2
          obtain ⟨k1, k2⟩ := fst_ed (mv := M) (i := a) (j := t.2.2.2) hM60
          have e60 : now 1 = (60 : Int32) ↔ M.length = 60 := by rw [a4.1]; exact nI_eq (b := 60) (by omega) (by decide)
          refine ⟨fun w => absurd rfl w, fun _ => ?_⟩
          have hbt : wp_X6_between (nI a) v now = wp_X6_between (nI a) (nI t.2.2.2) now := by rw [ev]
          rw [hbt]
          refine x6_between (a := a) (b := t.2.2.2) a4 hM60 (mv_small a5) (by omega) hv9 ⟨fun x => ⟨fun w => absurd rfl w, fun _ => ⟨fun w => ⟨fun w2 => absurd rfl w2, fun _ => ?_⟩, fun w => ?_⟩⟩, fun x => ?_⟩
          · have hno := k1 x
            have hlt : M.length < 60 := by
              have : ¬ M.length = 60 := fun u => w (e60.mpr u)
              omega
            rw [if_neg (fun u => hno (pD_t.mp u)), if_neg (by omega)] at h1
            have hld : wp_X6_leads (nI a) v now = wp_X6_leads (nI a) (nI t.2.2.2) now := by rw [ev]
            rw [hld]
            refine x6_leads (a := a) (b := t.2.2.2) hM60 a4 (fun now' b1 b2 => x6_nxt hn hT a2 (by omega) a1 (fun k' s' e' v' hr ho' hge => ?_))
            have hse := a2.2.2.2.1 (by omega) (by omega)
            have hfr : ∀ i, i ≠ 1 → i < 44 ∨ 166 ≤ i → now' i = now0 i := fun i c1 c2 => (b2 i c1 c2).trans (a6 i c1 c2)
            have hp' : RMp P now' := RMp_of hP20 a3 (b2 0 (by decide) (by omega)) (fun i c1 c2 => b2 i (by omega) (by omega))
            have hg' := gOk0_app a5 hlt ha y hno
            refine ⟨fun x => ?_, fun x => ?_⟩
            · have x2 : (tkN T n t).1 ≠ 2 := fun w => x ((RTk_k ho' hr (x := 2) (by decide)).mpr w)
              rw [rdMv_no x2] at h1
              exact hrec _ _ _ _ _ _ _ _ (Or.inl ⟨rfl, tkN T n t, _, hr, ho', hp', b1, hg', hfr, Or.inr (Or.inr ⟨rfl, h1.symm⟩)⟩) (hmu _ _ _ (Or.inr rfl))
            · have x2 := (RTk_k ho' hr (x := 2) (by decide)).mp x
              have c1 := ho'.2.2.2.1 (by omega) (by omega)
              have c2 := ho'.2.2.1 (by omega)
              refine hrec _ _ _ _ _ _ _ _ (Or.inl ⟨rfl, tkN T n t, _, hr, ho', hp', b1, hg', hfr, Or.inl ⟨rfl, x2, fu, h1, by omega⟩⟩) ?_
              obtain ⟨x9, hx9, hx8, hx7⟩ := hr.2.2.1
              obtain ⟨y9, hy9, hy8, hy7⟩ := a1.2.2.1
              have hx6 := hx7 (by omega)
              have hy6 := hy7 (by omega)
              rw [if_pos ⟨rfl, by decide⟩, if_pos ⟨rfl, z2⟩, hx8, hy8, nI_clamp (by omega), nI_clamp (by omega)]
              omega
          · have hno := k1 x
            have hM := e60.mp w
            rw [if_neg (fun u => hno (pD_t.mp u)), if_pos hM] at h1
            have h5 := hz 5 (by decide) (by decide)
            unfold wp_X6_errs
            exact ⟨fun w => absurd rfl w, fun _ => ⟨fun _ => hE 5 (by decide) (by decide) h1.symm, fun w => absurd w h5⟩⟩
          · rw [if_pos (pD_t.mpr (k2 x))] at h1
            have h4 := hz 4 (by decide) (by decide)
            unfold wp_X6_errs
            exact ⟨fun w => absurd rfl w, fun _ => ⟨fun _ => ⟨fun _ => hE 4 (by decide) (by decide) h1.symm, fun w => absurd w h4⟩, fun w => absurd w h4⟩⟩
      · exact absurd z (by rw [he]; exact nI_ne0 ha (by omega))
  · rcases h0 with ⟨h1, h2⟩ | ⟨h1, h2⟩
    · exact Or.inl ⟨rfl, h1, n + 1, h2, by omega⟩
    · exact Or.inr (Or.inl ⟨rfl, h1, h2⟩)
end RD6B
