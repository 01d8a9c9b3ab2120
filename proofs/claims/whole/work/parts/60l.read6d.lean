/-! the texts: the reference's reader: the whole text -/
section RD6D
variable {T : Nat → Nat} {n : Nat} {inp keys : Nat → Int32} {k s e v fa : Int32}
theorem x6_textEnd {R : RdT} {post : Int32 → Int32 → Int32 → Int32 → Int32 → Int32 → Int32 → (Nat → Int32) → Prop} {f : Int32} {now : Nat → Int32}
    (h : ∀ k s e v f fa now, O6t n R f fa now → post (nI n) k s e v f fa now)
    (hI : (f = 0 ∧ ∃ t P M L, RTk n t k s e v ∧ tkOk T n t ∧ RMp P now ∧ RMv M now ∧ lOk P M L ∧ now 2 = nI L ∧ (P.length = 0 → R = .error (6, t.2.1)) ∧ (P.length ≠ 0 → R = .ok (P, M, L))) ∨ (∃ a b, R = .error (a, b) ∧ 0 < a ∧ a < 7 ∧ b ≤ n ∧ f = nI a ∧ fa = nI b)) :
    ((¬ f = (0 : Int32) → ((¬ f = (0 : Int32) → (post (nI n) k s e v f fa now)) ∧ (f = (0 : Int32) → (wp_X6_lays (now 2) now (fun now2 => (post (nI n) k s e v f fa now2)))))) ∧ (f = (0 : Int32) → ((¬ (now 0) = (0 : Int32) → ((¬ f = (0 : Int32) → (post (nI n) k s e v f fa now)) ∧ (f = (0 : Int32) → (wp_X6_lays (now 2) now (fun now2 => (post (nI n) k s e v f fa now2)))))) ∧ ((now 0) = (0 : Int32) → (wp_X6_errs (6 : Int32) s f fa (fun f2 fa2 => ((¬ f2 = (0 : Int32) → (post (nI n) k s e v f2 fa2 now)) ∧ (f2 = (0 : Int32) → (wp_X6_lays (now 2) now (fun now2 => (post (nI n) k s e v f2 fa2 now2))))))))))) := by
  rcases hI with ⟨hf, t, P, M, L, h1, h2, h3, h4, h5, h6, h7, h8⟩ | ⟨a, b, h1, h2, h3, h4, h5, h6⟩
  · subst hf
    have hP20 := h5.1.1
    refine ⟨fun z => absurd rfl z, fun _ => ⟨fun z => ⟨fun y => absurd rfl y, fun _ => ?_⟩, fun z => ?_⟩⟩
    · have hl : P.length ≠ 0 := fun y => z (by rw [h3.1, y]; rfl)
      have hL : L < P.length := h5.2.elim (fun y => by omega) (fun y => y)
      rw [h6]
      refine x6_lays hP20 h3 (gOk0_ow h5.1 L).2 hL (fun now2 b1 b2 => h _ _ _ _ _ _ _ (Or.inl ⟨P, M, L, h8 hl, rfl, ⟨h5.1, by show 1 ≤ P.length; omega, hL⟩, RMp_of hP20 h3 (b2 0 (by decide) (by decide) (by decide)) (fun i c1 c2 => b2 i (by omega) (by omega) (by omega)), RMv_of (mv := M) (by have := h5.1.2.1; omega) h4 (b2 1 (by decide) (by decide) (by decide)) (fun i c1 c2 => b2 i (by omega) (by omega) (by omega)), b1⟩))
    · have hl : P.length = 0 := by rw [h3.1] at z; exact (nI_eq (b := 0) (by omega) (by decide)).mp z
      unfold wp_X6_errs
      exact ⟨fun y => absurd rfl y, fun _ => ⟨fun _ => h _ _ _ _ _ _ _ (Or.inr ⟨6, t.2.1, h7 hl, by decide, by decide, h2.2.1, rfl, h1.2.1⟩), fun y => absurd y (by decide)⟩⟩
  · have hz : ¬ f = 0 := by rw [h5]; exact nI_ne0 h2 (by omega)
    have hp := h k s e v f fa now (Or.inr ⟨a, b, h1, h2, h3, h4, h5, h6⟩)
    exact ⟨fun _ => ⟨fun _ => hp, fun y => absurd y hz⟩, fun y => absurd y hz⟩
theorem x6_lpTx {R : RdT} {K : Int32 → Int32 → Int32 → Int32 → Int32 → Int32 → (Nat → Int32) → Prop} {f : Int32} {now : Nat → Int32} (hn : n ≤ 600) (hT : ∀ j, j < n → inp j = sgB (T j) ∧ T j < 256) (hKy : RKy keys)
    (hK : ∀ k s e v f fa now, ((f = 0 ∧ ∃ t P M L, RTk n t k s e v ∧ tkOk T n t ∧ RMp P now ∧ RMv M now ∧ lOk P M L ∧ now 2 = nI L ∧ (P.length = 0 → R = .error (6, t.2.1)) ∧ (P.length ≠ 0 → R = .ok (P, M, L))) ∨ (∃ a b, R = .error (a, b) ∧ 0 < a ∧ a < 7 ∧ b ≤ n ∧ f = nI a ∧ fa = nI b)) → K k s e v f fa now)
    (h0 : (f = 0 ∧ ∃ t P M L fu, rdAll T n fu t P M L = R ∧ 0 < fu ∧ (t.1 = 3 → n + 1 < fu + t.2.2.1) ∧ RTk n t k s e v ∧ tkOk T n t ∧ RMp P now ∧ RMv M now ∧ lOk P M L ∧ now 2 = nI L) ∨ (∃ a b, R = .error (a, b) ∧ 0 < a ∧ a < 7 ∧ b ≤ n ∧ f = nI a ∧ fa = nI b)) :
    ∃ m, fx7 (F_X6_readsText_66 (nI n) inp keys K) m k s e v f fa now := by
  refine fx7_go (fun k s e v f fa now => (f = 0 ∧ ∃ t P M L fu, rdAll T n fu t P M L = R ∧ 0 < fu ∧ (t.1 = 3 → n + 1 < fu + t.2.2.1) ∧ RTk n t k s e v ∧ tkOk T n t ∧ RMp P now ∧ RMv M now ∧ lOk P M L ∧ now 2 = nI L) ∨ (∃ a b, R = .error (a, b) ∧ 0 < a ∧ a < 7 ∧ b ≤ n ∧ f = nI a ∧ fa = nI b)) (fun k _ e _ f _ _ => if f = 0 then (if k = 3 then n - e.toNatClampNeg + 2 else 1) else 0) ?_ _ _ _ _ _ _ _ h0
  rintro rec k s e v f fa now hI hrec
  unfold F_X6_readsText_66
  refine ⟨fun z => ?_, fun z => ?_⟩
  · rcases hI with ⟨h, _⟩ | hI
    · exact absurd h z
    · exact hK _ _ _ _ _ _ _ (Or.inr hI)
  · rcases hI with ⟨_, t, P, M, L, fu, h1, h2, h3, h4, h5, h6, h7, h8, h9⟩ | ⟨a, b, _, ha, _, _, he, _⟩
    · subst z
      obtain ⟨f', rfl⟩ : ∃ f', fu = f' + 1 := ⟨fu - 1, by omega⟩
      simp only [rdAll] at h1
      have k0 := RTk_k h5 h4 (x := 0) (by decide)
      have k3 := RTk_k h5 h4 (x := 3) (by decide)
      refine ⟨fun z2 => ?_, fun z2 => ⟨fun z3 => ?_, fun z3 => ?_⟩⟩
      · have t0 := k0.mp z2
        rw [if_neg (by omega), if_neg (fun y => y t0)] at h1
        refine hK _ _ _ _ _ _ _ (Or.inl ⟨rfl, t, P, M, L, h4, h5, h6, h7, h8, h9, fun y => ?_, fun y => ?_⟩)
        · rw [if_pos y] at h1; exact h1.symm
        · rw [if_neg y] at h1; exact h1.symm
      · have t3 : t.1 ≠ 3 := fun y => z3 (k3.mpr y)
        have t0 : t.1 ≠ 0 := fun y => z2 (k0.mpr y)
        rw [if_neg t3, if_pos t0] at h1
        unfold wp_X6_errs
        refine ⟨fun y => absurd rfl y, fun _ => hrec _ _ _ _ _ _ _ (Or.inr ⟨1, t.2.1, h1.symm, by decide, by decide, h5.2.1, rfl, h4.2.1⟩) ?_⟩
        rw [if_neg (by decide), if_pos rfl, if_neg z3]
        decide
      · have t3 := k3.mp z3
        have h3 := h3 t3
        have hen := h5.2.2.1 (by omega)
        rw [if_pos t3] at h1
        refine x6_nxt hn hT h5 (by omega) h4 (fun k' s' e' v' hr ho' hge => x6_readsLine hn hT hKy ho' hr h6 h7 h8 h9 (fun k2 s2 e2 v2 f2 fa2 now2 hO => hrec _ _ _ _ _ _ _ ?_ ?_))
        · rcases hO with ⟨t2, P2, M2, L2, o1, o2, o4, o5, o6, o7, o8, o9⟩ | ⟨a, b, o1, o2, o3, o4, o5, o6⟩
          · rw [o1] at h1
            refine Or.inl ⟨o2, t2, P2, M2, L2, f', h1, by omega, fun y => ?_, o4, o5, o6, o7, o8, o9⟩
            have hlt := o5.2.2.2.1 (by omega) (by omega)
            have hmono := rdLine_end ho' o1
            omega
          · rw [o1] at h1
            exact Or.inr ⟨a, b, h1.symm, o2, o3, o4, o5, o6⟩
        · rw [if_pos (rfl : (0 : Int32) = 0), if_pos z3]
          by_cases q : f2 = 0
          · rw [if_pos q]
            by_cases q2 : k2 = 3
            · rw [if_pos q2]
              rcases hO with ⟨t2, P2, M2, L2, o1, o2, o4, o5, o6, o7, o8, o9⟩ | ⟨a, b, o1, o2, o3, o4, o5, o6⟩
              · have y := (RTk_k o5 o4 (x := 3) (by decide)).mp q2
                have hlt := o5.2.2.2.1 (by omega) (by omega)
                have hmono := rdLine_end ho' o1
                have hle := o5.2.2.1 (by omega)
                obtain ⟨x9, hx9, hx8, hx7⟩ := o4.2.2.1
                obtain ⟨y9, hy9, hy8, hy7⟩ := h4.2.2.1
                have hx6 := hx7 (by omega)
                have hy6 := hy7 (by omega)
                rw [hx8, hy8, nI_clamp (by omega), nI_clamp (by omega)]
                omega
              · exact absurd q (by rw [o5]; exact nI_ne0 o2 (by omega))
            · rw [if_neg q2]; omega
          · rw [if_neg q]; omega
    · exact absurd z (by rw [he]; exact nI_ne0 ha (by omega))
theorem x6_readsText {v0 : Int32} {post : Int32 → Int32 → Int32 → Int32 → Int32 → Int32 → Int32 → (Nat → Int32) → Prop} {now : Nat → Int32} (hn : n ≤ 600) (hT : ∀ j, j < n → inp j = sgB (T j) ∧ T j < 256) (hKy : RKy keys)
    (h : ∀ k s e v f fa now, O6t n (rdText T n) f fa now → post (nI n) k s e v f fa now) : wp_X6_readsText (nI n) v0 fa inp keys now post := by
  unfold wp_X6_readsText
  refine up2i 176 (by decide) (fun j c => ∀ i, i < j → c i = 0) 0 _ (Nat.zero_le _) (fun j hj => absurd hj (Nat.not_lt_zero _)) (fun rec c hI => ?_) (fun rec j c hj hI go => ?_)
  · unfold F_X6_readsText_2
    refine ⟨fun _ => ?_, fun z => absurd (Int32.le_refl _) z⟩
    have ht0 : tkOk T n (0, 0, 0, 0) := ⟨by show 0 < 5; decide, Nat.zero_le _, fun _ => Nat.zero_le _, fun z => absurd rfl z, fun z => absurd z (nn rfl), fun z => absurd z (nn rfl), fun _ => rfl⟩
    have hR0 : RTk n (0, 0, 0, 0) (0 : Int32) (0 : Int32) (0 : Int32) v0 := ⟨rfl, rfl, ⟨0, Nat.zero_le _, rfl, fun _ => rfl⟩, fun z => absurd z (nn rfl)⟩
    have hP0 : RMp [] c := ⟨hI 0 (by decide), fun u hu => absurd hu (Nat.not_lt_zero _)⟩
    have hV0 : RMv [] c := ⟨hI 1 (by decide), fun u hu => absurd hu (Nat.not_lt_zero _)⟩
    have hL0 : lOk [] [] 0 := ⟨⟨Nat.zero_le _, Nat.zero_le _, fun q hq => absurd hq List.not_mem_nil, fun q hq => absurd hq List.not_mem_nil, List.nodup_nil⟩, Or.inl rfl⟩
    refine x6_nxt hn hT ht0 (nn rfl) hR0 (fun k1 s1 e1 v1 hr1 ho1 _ => x6_isK hn hT hKy (w := 0) (by decide) ho1 hr1 (fun a1 => ⟨fun z => absurd z (by decide), fun _ => ?_⟩) (fun b1 => ⟨fun _ => ?_, fun z => absurd rfl z⟩))
    · refine x6_nxt hn hT ho1 (by have := a1.1; omega) hr1 (fun k2 s2 e2 v2 hr2 ho2 hge2 => ?_)
      refine x6_lpTx (R := rdText T n) hn hT hKy (fun k s e v f fa now hE => x6_textEnd h hE) (Or.inl ⟨rfl, _, [], [], 0, n + 2, ?_, by omega, fun z => by omega, hr2, ho2, hP0, hV0, hL0, hI 2 (by decide)⟩)
      unfold rdText
      rw [if_pos (pD_t.mpr a1)]
    · unfold wp_X6_errs
      refine ⟨fun z => absurd rfl z, fun _ => x6_lpTx (R := rdText T n) hn hT hKy (fun k s e v f fa now hE => x6_textEnd h hE) (Or.inr ⟨1, _, ?_, by decide, by decide, ho1.2.1, rfl, hr1.2.1⟩)⟩
      unfold rdText
      rw [if_neg (fun z => b1 (pD_t.mp z))]
  · unfold F_X6_readsText_2
    refine ⟨fun z => absurd z (nI_ge (a := j) (b := 176) hj (by decide)), fun _ => ⟨vp_in_nI hj (by decide), go _ (fun i hi => ?_)⟩⟩
    rw [nI_clamp (show j < 2 ^ 31 by omega), upd_get]
    by_cases q : i = j
    · rw [if_pos q]
    · rw [if_neg q]; exact hI i (by omega)
end RD6D
