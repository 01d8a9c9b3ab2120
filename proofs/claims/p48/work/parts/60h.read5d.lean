/-! the texts: the class's reader: the whole text -/
def O5t (n : Nat) (R : RdT) (rb er ea ln p q m tk md : Int32) (c fr hd to : Nat → Int32) : Prop :=
  (∃ P M L, R = .ok (P, M, L) ∧ rb = 1 ∧ er = 0 ∧ ea = -1 ∧ gOk (P, M, L, 0, hdLay P L) ∧ RG (P, M, L, 0, hdLay P L) p q m tk md c fr hd to) ∨ (∃ a b, R = .error (a, b) ∧ rb = 0 ∧ 0 < a ∧ a < 7 ∧ b ≤ n ∧ er = nI a ∧ ea = nI b)
section RD5D
variable {T : Nat → Nat} {n : Nat} {text : Nat → Int32} {t : Tk} {k s e v : Int32} {P M : List (Nat × Nat)} {L : Nat}
/-- the end of a round, whatever stands behind -/
theorem x5_readEnd {R : RdT} {post : Int32 → Int32 → Int32 → Int32 → Int32 → Int32 → Int32 → Int32 → Int32 → Int32 → Int32 → Int32 → Int32 → Int32 → (Nat → Int32) → (Nat → Int32) → (Nat → Int32) → (Nat → Int32) → Prop} {er ea l p q m tk0 md0 : Int32} {c fr to hd0 : Nat → Int32}
    (h : ∀ rb er ea k s e v l p q m tk md c fr hd to, O5t n R rb er ea (nI n) p q m tk md c fr hd to → post rb er ea (nI n) k s e v l p q m tk md c fr hd to)
    (hI : (∃ t P M L f, rdAll T n f t P M L = R ∧ er = 0 ∧ ea = -1 ∧ RTk n t k s e v ∧ tkOk T n t ∧ RP P p q c ∧ RV M m fr to ∧ lOk P M L ∧ l = nI L ∧ t.1 ≠ 3 ∧ 0 < f) ∨ (∃ a b, R = .error (a, b) ∧ 0 < a ∧ a < 7 ∧ b ≤ n ∧ er = nI a ∧ ea = nI b)) :
    ((k = (0 : Int32) → ((¬ p = (0 : Int32) → ((¬ er = (0 : Int32) → ((¬ er = (0 : Int32) → (post (0 : Int32) er ea (nI n) k s e v l p q m tk0 md0 c fr hd0 to)) ∧ (er = (0 : Int32) → (post (1 : Int32) er ea (nI n) k s e v l p q m tk0 md0 c fr hd0 to)))) ∧ (er = (0 : Int32) → (wp_X1_layAt l c hd0 (fun tk md hd => ((¬ er = (0 : Int32) → (post (0 : Int32) er ea (nI n) k s e v l p q m tk md c fr hd to)) ∧ (er = (0 : Int32) → (post (1 : Int32) er ea (nI n) k s e v l p q m tk md c fr hd to)))))))) ∧ (p = (0 : Int32) → (wp_X4_fail (6 : Int32) er ea s (fun er2 ea2 => ((¬ er2 = (0 : Int32) → ((¬ er2 = (0 : Int32) → (post (0 : Int32) er2 ea2 (nI n) k s e v l p q m tk0 md0 c fr hd0 to)) ∧ (er2 = (0 : Int32) → (post (1 : Int32) er2 ea2 (nI n) k s e v l p q m tk0 md0 c fr hd0 to)))) ∧ (er2 = (0 : Int32) → (wp_X1_layAt l c hd0 (fun tk md hd => ((¬ er2 = (0 : Int32) → (post (0 : Int32) er2 ea2 (nI n) k s e v l p q m tk md c fr hd to)) ∧ (er2 = (0 : Int32) → (post (1 : Int32) er2 ea2 (nI n) k s e v l p q m tk md c fr hd to)))))))))))) ∧ (¬ (k = (0 : Int32)) → (wp_X4_fail (1 : Int32) er ea s (fun er2 ea2 => ((¬ er2 = (0 : Int32) → ((¬ er2 = (0 : Int32) → (post (0 : Int32) er2 ea2 (nI n) k s e v l p q m tk0 md0 c fr hd0 to)) ∧ (er2 = (0 : Int32) → (post (1 : Int32) er2 ea2 (nI n) k s e v l p q m tk0 md0 c fr hd0 to)))) ∧ (er2 = (0 : Int32) → (wp_X1_layAt l c hd0 (fun tk md hd => ((¬ er2 = (0 : Int32) → (post (0 : Int32) er2 ea2 (nI n) k s e v l p q m tk md c fr hd to)) ∧ (er2 = (0 : Int32) → (post (1 : Int32) er2 ea2 (nI n) k s e v l p q m tk md c fr hd to))))))))))) := by
  have hbad : ∀ a b, R = .error (a, b) → 0 < a → a < 7 → b ≤ n → ∀ er2 ea2, er2 = nI a → ea2 = nI b → (¬ er2 = (0 : Int32) → ((¬ er2 = (0 : Int32) → (post (0 : Int32) er2 ea2 (nI n) k s e v l p q m tk0 md0 c fr hd0 to)) ∧ (er2 = (0 : Int32) → (post (1 : Int32) er2 ea2 (nI n) k s e v l p q m tk0 md0 c fr hd0 to)))) ∧ (er2 = (0 : Int32) → (wp_X1_layAt l c hd0 (fun tk md hd => ((¬ er2 = (0 : Int32) → (post (0 : Int32) er2 ea2 (nI n) k s e v l p q m tk md c fr hd to)) ∧ (er2 = (0 : Int32) → (post (1 : Int32) er2 ea2 (nI n) k s e v l p q m tk md c fr hd to)))))) := by
    intro a b h1 h2 h3 h4 er2 ea2 h5 h6
    have hz : ¬ er2 = 0 := by rw [h5]; exact nI_ne0 h2 (by omega)
    exact ⟨fun _ => ⟨fun _ => h _ _ _ _ _ _ _ _ _ _ _ _ _ _ _ _ _ (Or.inr ⟨a, b, h1, rfl, h2, h3, h4, h5, h6⟩), fun z => absurd z hz⟩, fun z => absurd z hz⟩
  rcases hI with ⟨t, P, M, L, f, h1, h2, h3, h4, h5, h6, h7, h8, h9, h10, h11⟩ | ⟨a, b, h1, h2, h3, h4, h5, h6⟩
  · obtain ⟨f', rfl⟩ : ∃ f', f = f' + 1 := ⟨f - 1, by omega⟩
    simp only [rdAll] at h1
    rw [if_neg h10] at h1
    subst h2
    subst h9
    have hP20 := h8.1.1
    refine ⟨fun z => ⟨fun z2 => ⟨fun z3 => absurd rfl z3, fun _ => ?_⟩, fun z2 => ?_⟩, fun z => ?_⟩
    · have t0 := (RTk_k h5 h4 (x := 0) (by decide)).mp z
      have hl : ¬ P.length = 0 := fun y => z2 (by rw [h6.1, y]; rfl)
      rw [if_neg (fun y => y t0), if_neg hl] at h1
      have hL : L < P.length := h8.2.elim (fun y => by omega) (fun y => y)
      refine x1_layAt h6 hP20 (gOk0_ow h8.1 L).2 hL (fun tk md hd hrt => ⟨fun y => absurd rfl y, fun _ => h _ _ _ _ _ _ _ _ _ _ _ _ _ _ _ _ _ (Or.inl ⟨P, M, L, h1.symm, rfl, rfl, h3, ⟨h8.1, by show 1 ≤ P.length; omega, hL⟩, h6, h7, hrt⟩)⟩)
    · have t0 := (RTk_k h5 h4 (x := 0) (by decide)).mp z
      have hl : P.length = 0 := by rw [h6.1] at z2; exact (nI_eq (b := 0) (by omega) (by decide)).mp z2
      rw [if_neg (fun y => y t0), if_pos hl] at h1
      unfold wp_X4_fail
      exact ⟨fun y => absurd rfl y, fun _ => hbad 6 t.2.1 h1.symm (by decide) (by decide) h5.2.1 _ _ rfl h4.2.1⟩
    · have t0 : t.1 ≠ 0 := fun y => z ((RTk_k h5 h4 (x := 0) (by decide)).mpr y)
      rw [if_pos t0] at h1
      unfold wp_X4_fail
      exact ⟨fun y => absurd rfl y, fun _ => hbad 1 t.2.1 h1.symm (by decide) (by decide) h5.2.1 _ _ rfl h4.2.1⟩
  · have hz : ¬ er = 0 := by rw [h5]; exact nI_ne0 h2 (by omega)
    have hb := hbad a b h1 h2 h3 h4 er ea h5 h6
    unfold wp_X4_fail
    exact ⟨fun _ => ⟨fun _ => hb, fun _ => ⟨fun _ => hb, fun y => absurd y hz⟩⟩, fun _ => ⟨fun _ => hb, fun y => absurd y hz⟩⟩
theorem x5_read {v0 : Int32} {post : Int32 → Int32 → Int32 → Int32 → Int32 → Int32 → Int32 → Int32 → Int32 → Int32 → Int32 → Int32 → Int32 → Int32 → (Nat → Int32) → (Nat → Int32) → (Nat → Int32) → (Nat → Int32) → Prop} {c0 fr0 hd0 to0 : Nat → Int32} (hn : n ≤ 600) (hT : ∀ j, j < n → text j = nI (T j) ∧ T j < 256)
    (h : ∀ rb er ea k s e v l p q m tk md c fr hd to, O5t n (rdText T n) rb er ea (nI n) p q m tk md c fr hd to → post rb er ea (nI n) k s e v l p q m tk md c fr hd to) : wp_X4_read (nI n) v0 text c0 fr0 hd0 to0 post := by
  have e600 : (if (600 : Int32) < nI n then (600 : Int32) else nI n) = nI n := if_neg (nI_nlt (a := 600) (b := n) hn (by decide))
  unfold wp_X4_read wp_X1_clear
  rw [e600]
  have ht0 : tkOk T n (0, 0, 0, 0) := ⟨by show 0 < 5; decide, Nat.zero_le _, fun _ => Nat.zero_le _, fun z => absurd rfl z, fun z => absurd z (by show ¬ 0 = 1; decide), fun z => absurd z (by show ¬ 0 = 2; decide), fun _ => rfl⟩
  have hR0 : RTk n (0, 0, 0, 0) (0 : Int32) (0 : Int32) (0 : Int32) v0 := ⟨rfl, rfl, ⟨0, Nat.zero_le _, rfl, fun _ => rfl⟩, fun z => absurd z (by show ¬ 0 = 2; decide)⟩
  have hP0 : RP [] (0 : Int32) (0 : Int32) c0 := ⟨rfl, fun u => ⟨fun z => absurd z (by rw [show (0 : Int32) = nI 0 from rfl, bt_nI]; simp), fun z => absurd z.1 (Nat.not_lt_zero _)⟩, fun u hu => absurd hu (Nat.not_lt_zero _)⟩
  have hV0 : RV [] (0 : Int32) fr0 to0 := ⟨rfl, fun u hu => absurd hu (Nat.not_lt_zero _)⟩
  have hL0 : lOk [] [] 0 := ⟨⟨Nat.zero_le _, Nat.zero_le _, fun q hq => absurd hq List.not_mem_nil, fun q hq => absurd hq List.not_mem_nil, List.nodup_nil⟩, Or.inl rfl⟩
  refine x5_adv hn hT ht0 (by show 0 ≠ 4; decide) hR0 (fun k1 s1 e1 v1 hr1 ho1 _ => x5_isW hn hT (w := 0) (by decide) ho1 hr1 (fun a1 => ⟨fun _ => ?_, fun z => absurd z (by decide)⟩) (fun b1 => ⟨fun z => absurd rfl z, fun _ => ?_⟩))
  · refine x5_adv hn hT ho1 (by have := a1.1; omega) hr1 (fun k2 s2 e2 v2 hr2 ho2 hge2 => ?_)
    have hRt : rdAll T n (n + 2) (tkN T n (tkN T n (0, 0, 0, 0))) [] [] 0 = rdText T n := by unfold rdText; rw [if_pos (pD_t.mpr a1)]
    refine fx14_go (fun v2 er ea k s e v l p q m c fr to => ∃ i, i ≤ n ∧ v2 = nI i ∧ ((∃ t P M L f, rdAll T n f t P M L = rdText T n ∧ er = 0 ∧ ea = -1 ∧ RTk n t k s e v ∧ tkOk T n t ∧ RP P p q c ∧ RV M m fr to ∧ lOk P M L ∧ l = nI L ∧ 0 < f ∧ (t.1 = 3 → n + 1 < f + t.2.2.1 ∧ i < t.2.2.1)) ∨ (∃ a b, rdText T n = .error (a, b) ∧ 0 < a ∧ a < 7 ∧ b ≤ n ∧ er = nI a ∧ ea = nI b))) (fun v2 _ _ _ _ _ _ _ _ _ _ _ _ _ => n - v2.toNatClampNeg) ?_ _ _ _ _ _ _ _ _ _ _ _ _ _ _ ⟨0, Nat.zero_le _, rfl, Or.inl ⟨_, [], [], 0, n + 2, hRt, rfl, rfl, hr2, ho2, hP0, hV0, hL0, rfl, by omega, fun z => ?_⟩⟩
    · rintro rec v2 er ea k s e v l p q m c fr to ⟨i, hi, rfl, hI⟩ hrec
      unfold F_X4_read_71
      have hexit : (n ≤ i ∨ ¬ er = 0 ∨ ¬ k = 3) → (∃ t P M L f, rdAll T n f t P M L = rdText T n ∧ er = 0 ∧ ea = -1 ∧ RTk n t k s e v ∧ tkOk T n t ∧ RP P p q c ∧ RV M m fr to ∧ lOk P M L ∧ l = nI L ∧ t.1 ≠ 3 ∧ 0 < f) ∨ (∃ a b, rdText T n = .error (a, b) ∧ 0 < a ∧ a < 7 ∧ b ≤ n ∧ er = nI a ∧ ea = nI b) := by
        intro hx
        rcases hI with ⟨t, P, M, L, f, h1, h2, h3, h4, h5, h6, h7, h8, h9, h10, h11⟩ | hI
        · refine Or.inl ⟨t, P, M, L, f, h1, h2, h3, h4, h5, h6, h7, h8, h9, fun z => ?_, h10⟩
          rcases hx with x | x | x
          · have := (h11 z).2; have := h5.2.2.1 (by omega); omega
          · exact x h2
          · exact x ((RTk_k h5 h4 (x := 3) (by decide)).mpr z)
        · exact Or.inr hI
      refine ⟨fun z => x5_readEnd h (hexit (Or.inl ((nI_leI (by omega) (by omega)).mp z))), fun z => ⟨fun z2 => x5_readEnd h (hexit (Or.inr (Or.inl z2))), fun z2 => ⟨fun z3 => x5_readEnd h (hexit (Or.inr (Or.inr z3))), fun z3 => ?_⟩⟩⟩
      have hin : i < n := by have := mt (nI_leI (a := n) (b := i) (by omega) (by omega)).mpr z; omega
      have hdec : n - (nI i + 1).toNatClampNeg < n - (nI i).toNatClampNeg := by rw [nI_1, nI_clamp (by omega), nI_clamp (by omega)]; omega
      rcases hI with ⟨t, P, M, L, f, h1, h2, h3, h4, h5, h6, h7, h8, h9, h10, h11⟩ | ⟨a, b, _, ha, ha7, _, he, _⟩
      · have t3 := (RTk_k h5 h4 (x := 3) (by decide)).mp z3
        obtain ⟨h11, h12⟩ := h11 t3
        have hen := h5.2.2.1 (by omega)
        obtain ⟨f', rfl⟩ : ∃ f', f = f' + 1 := ⟨f - 1, by omega⟩
        simp only [rdAll] at h1
        rw [if_pos t3] at h1
        subst h2
        subst h3
        subst h9
        refine x5_adv hn hT h5 (by omega) h4 (fun k' s' e' v' hr ho' hge => x5_readLine hn hT ho' hr h6 h7 h8 (fun er ea k s e v l p q m c fr to hO => hrec _ _ _ _ _ _ _ _ _ _ _ _ _ _ ⟨i + 1, by omega, nI_1 i, ?_⟩ hdec))
        rcases hO with ⟨t2, P2, M2, L2, o1, o2, o3, o4, o5, o6, o7, o8, o9⟩ | ⟨a, b, o1, o2, o3, o4, o5, o6⟩
        · rw [o1] at h1
          refine Or.inl ⟨t2, P2, M2, L2, f', h1, o2, o3, o4, o5, o6, o7, o8, o9, by omega, fun y => ?_⟩
          have hlt := o5.2.2.2.1 (by omega) (by omega)
          have hmono := rdLine_end ho' o1
          omega
        · rw [o1] at h1
          exact Or.inr ⟨a, b, h1.symm, o2, o3, o4, o5, o6⟩
      · exact absurd z2 (by rw [he]; exact nI_ne0 ha (by omega))
    · have := ho2.2.2.2.1 (by omega) (by omega)
      omega
  · unfold wp_X4_fail
    refine ⟨fun z => absurd rfl z, fun _ => h _ _ _ _ _ _ _ _ _ _ _ _ _ _ _ _ _ (Or.inr ⟨1, _, ?_, rfl, by decide, by decide, ho1.2.1, rfl, hr1.2.1⟩)⟩
    unfold rdText
    rw [if_neg (fun z => b1 (pD_t.mp z))]
end RD5D
