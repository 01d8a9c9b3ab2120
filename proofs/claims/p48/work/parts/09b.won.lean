/-! the class's way to the winners -/
theorem b_n0 (v : Nat) : ¬ bt 0 v = true := by rw [b_0]; decide
theorem i_sub1 {k : Nat} : nI (k + 1) - 1 = nI k := nI_pred k
theorem greatest_ok {n bound : Nat} {ow ca : Nat → Nat} {E : Nat → Nat → Prop} {owned calling next : Nat → Int32} {region : Int32} {post : Int32 → Prop} (hB : bdOk n ow ca E owned calling next)
    (hR : ∀ u, bt region u = true → u < n ∧ ca u < bound) (hb : bound ≤ 10) (h0 : (∀ u, ¬ bt region u = true) → post (-1 : Int32))
    (h1 : ∀ t, t < bound → (∃ u, bt region u = true ∧ ca u = t) → (∀ u, bt region u = true → ca u ≤ t) → post (nI t)) : wp_X0_greatestCall region (nI bound) calling post := by
  obtain ⟨hn, ho, hca, hEn, hown, hcal, hE⟩ := hB
  unfold wp_X0_greatestCall
  refine fx1_go (fun v3 => ∃ k, k ≤ bound ∧ v3 = nI k - 1 ∧ ∀ u, bt region u = true → ca u < k) (fun v3 => (v3 + 1).toNatClampNeg) ?_ _ ⟨bound, Nat.le_refl _, rfl, fun u hu => (hR u hu).2⟩
  rintro rec v3 ⟨k, hk, rfl, hlt⟩ hrec
  unfold F_X0_greatestCall_4
  rcases Nat.eq_zero_or_pos k with q | q
  · subst q
    refine ⟨fun _ => h0 (fun u hu => absurd (hlt u hu) (Nat.not_lt_zero _)), fun q => absurd (by decide) q⟩
  · obtain ⟨k', rfl⟩ : ∃ k', k = k' + 1 := ⟨k - 1, by omega⟩
    rw [i_sub1]
    have hcl : (nI k').toNatClampNeg = k' := nI_clamp (by omega)
    refine ⟨fun q => absurd q (nI_pos (by omega)), fun _ => ⟨vp_in_nI (by omega) (by omega), ?_⟩⟩
    rw [hcl]
    refine ⟨fun h2 => ?_, fun h2 => ?_⟩
    · refine hrec _ ⟨k', by omega, by rw [Int32.sub_eq_add_neg], fun u hu => ?_⟩ ?_
      · have h3 := hlt u hu
        have h4 : ca u ≠ k' := fun e => b_and0.mp h2 u ((hcal k' u (by omega)).mpr ⟨(hR u hu).1, e⟩) hu
        omega
      · have e1 : nI k' + -1 + 1 = nI k' := by
          rw [Int32.add_assoc]
          show nI k' + (0 : Int32) = nI k'
          exact Int32.add_zero _
        rw [e1, i_sub1, nI_1, hcl, nI_clamp (by omega)]
        omega
    · obtain ⟨u, hu⟩ := b_ne0 h2
      obtain ⟨a, b⟩ := (b_andI u).mp hu
      exact h1 k' (by omega) ⟨u, b, ((hcal k' u (by omega)).mp a).2⟩ (fun u hu => by have := hlt u hu; omega)
theorem pAttr_congr {ow : Nat → Nat} {E : Nat → Nat → Prop} {i : Nat} {T T' R A : Nat → Prop} (e : ∀ v, R v → (T v ↔ T' v)) (h : pAttr ow E i T R A) : pAttr ow E i T' R A :=
  ⟨fun v a b => h.1 v ((e v b).mpr a) b, h.2.1, h.2.2.1.elim fun ρ hρ => ⟨ρ, hρ.1, fun v a b => hρ.2 v a (fun c => b ((e v (h.2.1 v a)).mp c))⟩, h.2.2.2⟩
theorem wonEndless_ok {n : Nat} {ow ca : Nat → Nat} {E : Nat → Nat → Prop} {owned calling next : Nat → Int32} {all : Int32} (hB : bdOk n ow ca E owned calling next) :
    ∀ (d bound : Nat) (region : Int32) (post : Int32 → Prop), bound < d → bound ≤ 10 → (∀ u, bt region u = true → u < n ∧ ca u < bound) → pTot E (fun v => bt region v = true) →
      (∀ r, pDet ow ca E (fun v => bt region v = true) (fun v => bt r v = true) → post r) → wp_X0_wonEndless d region (nI bound) (nI n) all calling next owned post := by
  have hB' := hB
  obtain ⟨hn, ho, hca, hEn, hown, hcal, hE⟩ := hB
  intro d
  induction d with
  | zero => intro bound region post h; exact absurd h (Nat.not_lt_zero _)
  | succ d ihd =>
    intro bound region post hbd hb10 hR htot h
    show G_X0_wonEndless (wp_X0_wonEndless d) region (nI bound) (nI n) all calling next owned post
    unfold G_X0_wonEndless
    refine greatest_ok hB' hR hb10 (fun hem => ⟨fun q => absurd rfl q, fun _ => h 0 ⟨fun v hv => absurd hv (b_n0 v), ⟨fun _ _ => 0, fun v hv => absurd hv (b_n0 v)⟩, fun _ _ => 0, fun v hv => absurd hv.1 (hem v)⟩⟩) (fun t ht hex hle => ?_)
    have hne : ¬ nI t = (-1 : Int32) := fun q => by
      have h1 := nI_pos (n := t) (by omega)
      rw [q] at h1
      exact h1 (by decide)
    refine ⟨fun _ => ?_, fun q => absurd q hne⟩
    have hv4 : nI t &&& (1 : Int32) = nI (t % 2) := pk_andN (by omega) (m := 1) 1 (by decide)
    rw [hv4]
    have hclt : (nI t).toNatClampNeg = t := nI_clamp (by omega)
    have ht2 : t % 2 < 2 := Nat.mod_lt _ (by decide)
    -- the loop's end
    have K : ∀ v5 : Int32, (∀ u, bt v5 u = true → bt region u = true) → (∀ Z, pDet ow ca E (fun v => bt v5 v = true) Z → pDet ow ca E (fun v => bt region v = true) (fun v => if t % 2 = 0 then Z v else (Z v ∨ (bt region v = true ∧ ¬ bt v5 v = true)))) →
        pDet ow ca E (fun v => bt v5 v = true) (fun v => bt v5 v = true ∧ t % 2 = 0) →
        (¬ nI (t % 2) = (0 : Int32) → post (region &&& (v5 ^^^ (-1 : Int32)))) ∧ (nI (t % 2) = (0 : Int32) → post v5) := by
      intro v5 hsub hZ hd
      refine ⟨fun q => h _ (pDet_congr (fun _ => Iff.rfl) (fun v => ?_) (hZ _ hd)), fun q => h _ (pDet_congr (fun _ => Iff.rfl) (fun v => ?_) (hZ _ hd))⟩
      · have e : ¬ t % 2 = 0 := fun e => q (by rw [e]; rfl)
        rw [if_neg e, b_diff]
        exact ⟨fun z => z.resolve_left (fun y => e y.2), Or.inr⟩
      · have e : t % 2 = 0 := by
          rcases (show t % 2 = 0 ∨ t % 2 = 1 by omega) with e | e
          · exact e
          · rw [e] at q; exact absurd q (by decide)
        rw [if_pos e]
        exact ⟨fun z => z.1, fun z => ⟨z, e⟩⟩
    have hem : ∀ v5 : Int32, (∀ u, ¬ bt v5 u = true) → pDet ow ca E (fun v => bt v5 v = true) (fun v => bt v5 v = true ∧ t % 2 = 0) := fun v5 q =>
      ⟨fun v hv => hv.1, ⟨fun _ _ => 0, fun v hv => absurd hv.1 (q v)⟩, fun _ _ => 0, fun v hv => absurd hv.1 (q v)⟩
    refine fx2_go (fun v5 v6 => ∃ k, k ≤ 20 ∧ v6 = nI k ∧ (∀ u, bt v5 u = true → bt region u = true) ∧ pTot E (fun v => bt v5 v = true) ∧ k + pCnt (fun u => bt v5 u) n ≤ 20 ∧
      ∀ Z, pDet ow ca E (fun v => bt v5 v = true) Z → pDet ow ca E (fun v => bt region v = true) (fun v => if t % 2 = 0 then Z v else (Z v ∨ (bt region v = true ∧ ¬ bt v5 v = true))))
      (fun _ v6 => 20 - v6.toNatClampNeg) ?_ region 0 ⟨0, Nat.zero_le _, rfl, fun _ a => a, htot, by have := pCnt_top (fun u => bt region u) n; omega, fun Z hZ => pDet_congr (fun _ => Iff.rfl) (fun v => ?_) hZ⟩
    · rintro rec v5 v6 ⟨k, hk, rfl, hsub, htot5, hcnt, hZ⟩ hrec
      unfold F_X0_wonEndless_25
      have hcl : (nI k).toNatClampNeg = k := nI_clamp (by omega)
      have e20 : (20 : Int32) = nI 20 := rfl
      refine ⟨fun h1 => ?_, fun h1 => ⟨fun h2 => ?_, fun h2 => ?_⟩⟩
      · rw [e20] at h1
        have := (nI_leI (a := 20) (b := k) (by omega) (by omega)).mp h1
        refine K v5 hsub hZ (hem v5 fun u hu => ?_)
        have h6 := pCnt_lt (f := fun _ => false) (g := fun u => bt v5 u) (n := n) (u := u) (fun v _ hv => by cases hv) (hR u (hsub u hu)).1 rfl hu
        omega
      · exact K v5 hsub hZ (hem v5 fun u hu => by rw [h2, b_0] at hu; cases hu)
      · have hk20 : k < 20 := by
          rcases Nat.lt_or_ge k 20 with q | q
          · exact q
          · exact absurd (by rw [e20]; exact nI_le q (by omega)) h1
        refine ⟨vp_in_nI (by omega) (by omega), ?_⟩
        rw [hclt]
        refine attract_ok ht2 hB' (fun u hu => (hR u (hsub u hu)).1) (fun r7 h7 => ?_)
        have h7 : pAttr ow E (t % 2) (fun v => ca v = t) (fun v => bt v5 v = true) (fun v => bt r7 v = true) := pAttr_congr (fun v hv => by
          rw [hcal t v (by omega)]
          exact ⟨fun q => q.2, fun q => ⟨(hR v (hsub v hv)).1, q⟩⟩) h7
        refine ihd t _ _ (by omega) (by omega) (fun u hu => ?_) (fun v hv => ?_) (fun r8 h8 => ?_)
        · obtain ⟨a, b⟩ := (b_diff u).mp hu
          refine ⟨(hR u (hsub u a)).1, ?_⟩
          have h3 := hle u (hsub u a)
          have h4 : ca u ≠ t := fun e => b (h7.1 u e a)
          omega
        · obtain ⟨w, a, b⟩ := p_tot_out h7 htot5 v ((b_diff v).mp hv)
          exact ⟨w, a, (b_diff w).mpr b⟩
        · have h8 : pDet ow ca E (fun v => bt v5 v = true ∧ ¬ bt r7 v = true) (fun v => bt r8 v = true) := pDet_congr (fun v => b_diff v) (fun _ => Iff.rfl) h8
          have hn5 : ∀ v, bt v5 v = true → v < n := fun v hv => (hR v (hsub v hv)).1
          have last : (∀ v, bt v5 v = true → ¬ bt r7 v = true → (if t % 2 = 0 then bt r8 v = true else ¬ bt r8 v = true)) → pDet ow ca E (fun v => bt v5 v = true) (fun v => bt v5 v = true ∧ t % 2 = 0) := fun hl =>
            p_detLast hn5 htot5 (fun v hv => hle v (hsub v hv)) h7 h8 hl
          have round : ∀ L : Int32, ¬ L = 0 → (∀ v, bt L v = true → bt v5 v = true ∧ ¬ bt r7 v = true) → (∃ r, pCert ow ca (pSub E (fun v => bt v5 v = true ∧ ¬ bt r7 v = true)) (1 - t % 2) (fun v => bt L v = true) r) →
              wp_X0_attract (nI (1 - t % 2)) L v5 (nI n) next owned (fun r9 => rec (v5 &&& (r9 ^^^ (-1 : Int32))) (nI k + 1)) := by
            intro L hL0 hL hc
            refine attract_ok (by omega) hB' hn5 (fun r9 h9 => ?_)
            have hrest : ∀ v, bt (v5 &&& (r9 ^^^ (-1 : Int32))) v = true ↔ bt v5 v = true ∧ ¬ bt r9 v = true := fun v => b_diff v
            refine hrec _ _ ⟨k + 1, by omega, nI_1 k, fun u hu => hsub u ((hrest u).mp hu).1, fun v hv => ?_, ?_, fun Z hZ' => ?_⟩ (by rw [nI_1, nI_clamp (by omega), hcl]; omega)
            · obtain ⟨w, a, b⟩ := p_tot_out h9 htot5 v ((hrest v).mp hv)
              exact ⟨w, a, (hrest w).mpr b⟩
            · obtain ⟨u, hu⟩ := b_ne0 hL0
              have hu5 := (hL u hu).1
              have := pCnt_mono_lt (f := fun u => bt (v5 &&& (r9 ^^^ (-1 : Int32))) u) (g := fun u => bt v5 u) (n := n) (fun v _ hv => ((hrest v).mp hv).1) ⟨u, hn5 u hu5, by
                cases hq : bt (v5 &&& (r9 ^^^ (-1 : Int32))) u
                · rfl
                · exact absurd (h9.1 u hu hu5) ((hrest u).mp hq).2, hu5⟩
              omega
            · have h10 := p_detRound (n := n) ht2 ho hn5 h7 hL hc h9 (Z := Z) (pDet_congr (fun v => hrest v) (fun _ => Iff.rfl) hZ')
              refine pDet_congr (fun _ => Iff.rfl) (fun v => ?_) (hZ _ h10)
              by_cases e : t % 2 = 0
              · rw [if_pos e, if_pos e, if_pos e]
              · rw [if_neg e, if_neg e, if_neg e, hrest]
                constructor
                · rintro ((q | q) | q)
                  · exact Or.inl q
                  · exact Or.inr ⟨hsub v (h9.2.1 v q), fun z => z.2 q⟩
                  · exact Or.inr ⟨q.1, fun z => q.2 z.1⟩
                · rintro (q | ⟨q1, q2⟩)
                  · exact Or.inl (Or.inl q)
                  · by_cases z : bt v5 v = true
                    · exact Or.inl (Or.inr (Classical.byContradiction fun y => q2 ⟨z, y⟩))
                    · exact Or.inr ⟨q1, z⟩
          refine ⟨fun h3 => ?_, fun h3 => ?_⟩
          · have e : t % 2 = 1 := by
              rcases (show t % 2 = 0 ∨ t % 2 = 1 by omega) with e | e
              · rw [e] at h3; exact absurd rfl h3
              · exact e
            refine ⟨fun h4 => ?_, fun h4 => ?_⟩
            · have := round r8 h4 (fun v hv => h8.1 v hv) (by rw [e]; exact h8.2.1)
              rw [e] at this ⊢
              exact this
            · refine K v5 hsub hZ (last fun v hv hv7 => ?_)
              rw [if_neg (by omega), h4, b_0]
              decide
          · have e : t % 2 = 0 := by
              rcases (show t % 2 = 0 ∨ t % 2 = 1 by omega) with e | e
              · exact e
              · rw [e] at h3; exact absurd h3 (by decide)
            have hin : ∀ v, bt ((v5 &&& (r7 ^^^ (-1 : Int32))) &&& (r8 ^^^ (-1 : Int32))) v = true ↔ (bt v5 v = true ∧ ¬ bt r7 v = true) ∧ ¬ bt r8 v = true := fun v => by rw [b_diff, b_diff]
            refine ⟨fun h4 => ?_, fun h4 => ?_⟩
            · have := round _ h4 (fun v hv => ((hin v).mp hv).1) (by
                rw [e]
                obtain ⟨r, hr⟩ := h8.2.2
                exact ⟨r, pCert_congr (fun v => (hin v).symm) hr⟩)
              rw [e] at this ⊢
              exact this
            · refine K v5 hsub hZ (last fun v hv hv7 => ?_)
              rw [if_pos e]
              exact Classical.byContradiction fun q => b_eq0.mp h4 v ((hin v).mpr ⟨⟨hv, hv7⟩, q⟩)
    · by_cases e : t % 2 = 0
      · rw [if_pos e]
      · rw [if_neg e]
        exact ⟨Or.inl, fun q => q.resolve_right fun z => z.2 z.1⟩
/-- the winners of a game: player 0's places are those that he wins -/
def pW0 (ow ca : Nat → Nat) (E : Nat → Nat → Prop) (v : Nat) : Prop := pWin ow ca E 0 v
theorem p_full {ow ca : Nat → Nat} {E : Nat → Nat → Prop} {i : Nat} {S : Nat → Prop} {r : Nat → Nat → Nat} {n : Nat} (hE : ∀ v w, E v w → w < n) (h : pCert ow ca (pSub E (fun v => v < n)) i S r) : pCert ow ca E i S r := by
  intro v hv
  obtain ⟨c1, c2⟩ := h v hv
  exact ⟨fun q => (c1 q).elim fun w g => ⟨w, g.1.1, g.2⟩, fun q w hw => c2 q w ⟨hw, hE v w hw⟩⟩
theorem p_fullR {ow ca : Nat → Nat} {E : Nat → Nat → Prop} {i : Nat} {S : Nat → Prop} {r : Nat → Nat → Nat} {n : Nat} (h : pCert ow ca E i S r) (hE : ∀ v w, E v w → w < n) : pCert ow ca (pSub E (fun v => v < n)) i S r := by
  intro v hv
  obtain ⟨c1, c2⟩ := h v hv
  exact ⟨fun q => (c1 q).elim fun w g => ⟨w, ⟨g.1, hE v w g.1⟩, g.2⟩, fun q w hw => c2 q w hw.1⟩
/-- the whole game: player 0 pulls to the other's dead ends (Z); player 1 in what is left to his (O); the rest is endless -/
theorem p_whole {n : Nat} {ow ca : Nat → Nat} {E : Nat → Nat → Prop} {Z O W : Nat → Prop} (ho : ∀ v, ow v < 2) (hE : ∀ v w, E v w → v < n ∧ w < n)
    (hZ : pAttr ow E 0 (fun v => ow v = 1 ∧ ¬ ∃ w, E v w) (fun v => v < n) Z) (hO : pAttr ow E 1 (fun v => ow v = 0 ∧ ¬ ∃ w, E v w) (fun v => v < n ∧ ¬ Z v) O)
    (hW : pTot E (fun v => (v < n ∧ ¬ Z v) ∧ ¬ O v) → pDet ow ca E (fun v => (v < n ∧ ¬ Z v) ∧ ¬ O v) W) : pDet ow ca E (fun v => v < n) (fun v => Z v ∨ W v) := by
  have htot : pTot E (fun v => (v < n ∧ ¬ Z v) ∧ ¬ O v) := by
    intro v ⟨⟨h1, h2⟩, h3⟩
    have hs : ∃ w, E v w := Classical.byContradiction fun q => by
      rcases (show ow v = 0 ∨ ow v = 1 by have := ho v; omega) with e | e
      · exact h3 (hO.1 v ⟨e, q⟩ ⟨h1, h2⟩)
      · exact h2 (hZ.1 v ⟨e, q⟩ h1)
    obtain ⟨w0, hw0⟩ := hs
    obtain ⟨z1, z2⟩ := hZ.2.2.2 v h1 h2
    obtain ⟨o1, o2⟩ := hO.2.2.2 v ⟨h1, h2⟩ h3
    rcases (show ow v = 0 ∨ ow v = 1 by have := ho v; omega) with e | e
    · obtain ⟨w, g1, g2, g3⟩ := o2 (by omega) ⟨w0, hw0, (hE v w0 hw0).2, z1 e w0 hw0⟩
      exact ⟨w, g1, g2, g3⟩
    · obtain ⟨w, g1, g2, g3⟩ := z2 (by omega) ⟨w0, hw0, (hE v w0 hw0).2⟩
      exact ⟨w, g1, ⟨g2, g3⟩, o1 e w g1⟩
  obtain ⟨w1, w2, w3⟩ := hW htot
  have ho2 : ∀ v, ow v = 0 ∨ ow v = 1 := fun v => by have := ho v; omega
  -- player 1 in what is left behind Z: O, and his part of the endless rest
  have hOc : ∃ r, pCert ow ca (pSub E (fun v => v < n ∧ ¬ Z v)) 1 O r := by
    obtain ⟨a1, a2, ⟨ρ, -, a3⟩, a4⟩ := hO
    classical
    refine ⟨fun _ v => if ow v = 0 ∧ ¬ ∃ w, E v w then 0 else ρ v + 1, fun v hv => ?_⟩
    by_cases hd : ow v = 0 ∧ ¬ ∃ w, E v w
    · exact ⟨fun q => absurd q (by omega), fun _ w hw => absurd ⟨w, hw.1⟩ hd.2⟩
    · obtain ⟨b1, b2⟩ := a3 v hv hd
      have key : ∀ w, ρ w < ρ v → pOk ca 1 (fun _ v => if ow v = 0 ∧ ¬ ∃ w, E v w then 0 else ρ v + 1) v w := by
        intro w hw p hp hpv
        dsimp only
        rw [if_neg hd]
        split <;> split <;> omega
      refine ⟨fun q => ?_, fun q w hw => ?_⟩
      · obtain ⟨w, g1, g2, g3⟩ := b1 q
        exact ⟨w, ⟨g1, a2 w g2⟩, g2, key w g3⟩
      · obtain ⟨g1, g2⟩ := (b2 q).2 w hw.1 hw.2
        exact ⟨g1, key w g2⟩
  have hZc : ∃ r, pCert ow ca (pSub E (fun v => v < n)) 0 Z r := by
    obtain ⟨a1, a2, ⟨ρ, -, a3⟩, a4⟩ := hZ
    classical
    refine ⟨fun _ v => if ow v = 1 ∧ ¬ ∃ w, E v w then 0 else ρ v + 1, fun v hv => ?_⟩
    by_cases hd : ow v = 1 ∧ ¬ ∃ w, E v w
    · exact ⟨fun q => absurd q (by omega), fun _ w hw => absurd ⟨w, hw.1⟩ hd.2⟩
    · obtain ⟨b1, b2⟩ := a3 v hv hd
      have key : ∀ w, ρ w < ρ v → pOk ca 0 (fun _ v => if ow v = 1 ∧ ¬ ∃ w, E v w then 0 else ρ v + 1) v w := by
        intro w hw p hp hpv
        dsimp only
        rw [if_neg hd]
        split <;> split <;> omega
      refine ⟨fun q => ?_, fun q w hw => ?_⟩
      · obtain ⟨w, g1, g2, g3⟩ := b1 q
        exact ⟨w, ⟨g1, a2 w g2⟩, g2, key w g3⟩
      · obtain ⟨g1, g2⟩ := (b2 q).2 w hw.1 hw.2
        exact ⟨g1, key w g2⟩
  -- behind Z
  have hin : ∀ v, W v → (v < n ∧ ¬ Z v) ∧ ¬ O v := w1
  obtain ⟨rO, hrO, hMO⟩ := pCert_bd (n := n) (fun v hv => (hO.2.1 v hv).1) hOc
  obtain ⟨r1, hr1, hM1⟩ := pCert_bd (n := n) (S := fun v => ((v < n ∧ ¬ Z v) ∧ ¬ O v) ∧ ¬ W v) (fun v hv => hv.1.1.1) w3
  obtain ⟨r2, hr2, hM2⟩ := p_union (R := fun v => v < n ∧ ¬ Z v) hMO hrO hr1 (fun v hv => hv.1) hM1
  obtain ⟨rW, hrW⟩ := w2
  have hW1 := p_trap (i := 0) (j := 1) ho2 hO hrW w1
  obtain ⟨rZ, hrZ, hMZ⟩ := pCert_bd (n := n) (fun v hv => hZ.2.1 v hv) hZc
  obtain ⟨rW1, hrW1, hMW1⟩ := pCert_bd (n := n) (fun v hv => (w1 v hv).1.1) ⟨rW, hW1⟩
  obtain ⟨r0, hr0, -⟩ := p_union (R := fun v => v < n) hMZ hrZ hrW1 (fun v hv => (w1 v hv).1) hMW1
  have h1 := p_trap (i := 1) (j := 0) (fun v => (ho2 v).symm) hZ hr2 (fun v hv => by
    rcases hv with q | q
    · exact hO.2.1 v q
    · exact q.1.1)
  refine ⟨fun v hv => ?_, ⟨r0, hr0⟩, r2, pCert_congr (fun v => ?_) h1⟩
  · rcases hv with q | q
    · exact hZ.2.1 v q
    · exact (w1 v q).1.1
  · constructor
    · rintro (q | q)
      · exact ⟨(hO.2.1 v q).1, fun z => z.elim (hO.2.1 v q).2 (fun z => (w1 v z).2 q)⟩
      · exact ⟨q.1.1.1, fun z => z.elim q.1.1.2 q.2⟩
    · rintro ⟨q1, q2⟩
      by_cases q : O v
      · exact Or.inl q
      · exact Or.inr ⟨⟨⟨q1, fun z => q2 (Or.inl z)⟩, q⟩, fun z => q2 (Or.inr z)⟩
/-- whoever shares out the whole game finds the winners -/
theorem p_det_won {n : Nat} {ow ca : Nat → Nat} {E : Nat → Nat → Prop} {Z : Nat → Prop} (ho : ∀ v, ow v < 2) {C : Nat} (hC : ∀ v, ca v < C) (hE : ∀ v w, E v w → v < n ∧ w < n) (h : pDet ow ca E (fun v => v < n) Z) :
    (∀ v, v < n → (Z v ↔ pWin ow ca E 0 v)) ∧ ∀ v, v < n → (¬ Z v ↔ pWin ow ca E 1 v) := by
  obtain ⟨z1, ⟨r0, h0⟩, r1, h1⟩ := h
  have h0 := p_full (fun v w hw => (hE v w hw).2) h0
  have h1 := p_full (fun v w hw => (hE v w hw).2) h1
  refine ⟨fun v hv => ⟨fun hz => ⟨_, _, h0, hz⟩, fun ⟨S, r, hc, hs⟩ => Classical.byContradiction fun hz => p_apart ho hC hc h1 hs ⟨hv, hz⟩⟩,
    fun v hv => ⟨fun hz => ⟨_, _, h1, hv, hz⟩, fun ⟨S, r, hc, hs⟩ hz => p_apart ho hC h0 hc hz hs⟩⟩
theorem wonBy_ok {i n : Nat} {ow ca : Nat → Nat} {E : Nat → Nat → Prop} {owned calling next : Nat → Int32} {all : Int32} {post : Int32 → Prop} (hi : i < 2) (hB : bdOk n ow ca E owned calling next)
    (hall : ∀ u, bt all u = true ↔ u < n) (h : ∀ r, (∀ u, bt r u = true ↔ u < n ∧ pWin ow ca E i u) → post r) : wp_X0_wonBy (nI i) (nI n) all calling next owned post := by
  have hB' := hB
  obtain ⟨hn, ho, hca, hEn, hown, hcal, hE⟩ := hB
  unfold wp_X0_wonBy
  refine deadEnds_ok hB' (fun r5 h5 => ?_)
  refine attract_ok (i := 0) (by decide) hB' (fun u hu => (hall u).mp hu) (fun r6 h6 => ?_)
  have e1 : ∀ v, bt (owned 1 &&& r5) v = true ↔ v < n ∧ ow v = 1 ∧ ¬ ∃ w, E v w := fun v => by
    rw [b_andI, hown 1 v (by decide), h5]
    exact ⟨fun q => ⟨q.1.1, q.1.2, q.2.2⟩, fun q => ⟨⟨q.1, q.2.1⟩, q.1, q.2.2⟩⟩
  have e0 : ∀ v, bt (owned 0 &&& r5) v = true ↔ v < n ∧ ow v = 0 ∧ ¬ ∃ w, E v w := fun v => by
    rw [b_andI, hown 0 v (by decide), h5]
    exact ⟨fun q => ⟨q.1.1, q.1.2, q.2.2⟩, fun q => ⟨⟨q.1, q.2.1⟩, q.1, q.2.2⟩⟩
  have rg : ∀ {R R' : Nat → Prop} {i : Nat} {T A : Nat → Prop}, (∀ v, R v ↔ R' v) → pAttr ow E i T R A → pAttr ow E i T R' A := by
    intro R R' i T A e q
    have : R = R' := funext fun v => propext (e v)
    rw [← this]
    exact q
  have h6 : pAttr ow E 0 (fun v => ow v = 1 ∧ ¬ ∃ w, E v w) (fun v => v < n) (fun v => bt r6 v = true) := pAttr_congr (fun v hv => (e1 v).trans ⟨fun q => q.2, fun q => ⟨hv, q⟩⟩) (rg hall h6)
  have r1 : ∀ v, bt (all &&& (r6 ^^^ (-1 : Int32))) v = true ↔ v < n ∧ ¬ bt r6 v = true := fun v => by rw [b_diff, hall]
  refine attract_ok (i := 1) (by decide) hB' (fun u hu => ((r1 u).mp hu).1) (fun r7 h7 => ?_)
  have h7 : pAttr ow E 1 (fun v => ow v = 0 ∧ ¬ ∃ w, E v w) (fun v => v < n ∧ ¬ bt r6 v = true) (fun v => bt r7 v = true) := pAttr_congr (fun v hv => (e0 v).trans ⟨fun q => q.2, fun q => ⟨hv.1, q⟩⟩) (rg r1 h7)
  have r2 : ∀ v, bt ((all &&& (r6 ^^^ (-1 : Int32))) &&& (r7 ^^^ (-1 : Int32))) v = true ↔ (v < n ∧ ¬ bt r6 v = true) ∧ ¬ bt r7 v = true := fun v => by rw [b_diff, r1]
  have fin : ∀ W : Nat → Prop, (pTot E (fun v => (v < n ∧ ¬ bt r6 v = true) ∧ ¬ bt r7 v = true) → pDet ow ca E (fun v => (v < n ∧ ¬ bt r6 v = true) ∧ ¬ bt r7 v = true) W) →
      (∀ v, v < n → ((bt r6 v = true ∨ W v) ↔ pWin ow ca E 0 v)) ∧ ∀ v, v < n → (¬ (bt r6 v = true ∨ W v) ↔ pWin ow ca E 1 v) := fun W hW =>
    p_det_won ho hca hEn (p_whole ho hEn h6 h7 hW)
  -- the region that is left is total: a move leads on from each place
  have htot : pTot E (fun v => bt ((all &&& (r6 ^^^ (-1 : Int32))) &&& (r7 ^^^ (-1 : Int32))) v = true) := by
    intro v hv
    obtain ⟨⟨h1, h2⟩, h3⟩ := (r2 v).mp hv
    have hs : ∃ w, E v w := Classical.byContradiction fun q => by
      rcases (show ow v = 0 ∨ ow v = 1 by have := ho v; omega) with e | e
      · exact h3 (h7.1 v ⟨e, q⟩ ⟨h1, h2⟩)
      · exact h2 (h6.1 v ⟨e, q⟩ h1)
    obtain ⟨w0, hw0⟩ := hs
    obtain ⟨z1, z2⟩ := h6.2.2.2 v h1 h2
    obtain ⟨o1, o2⟩ := h7.2.2.2 v ⟨h1, h2⟩ h3
    rcases (show ow v = 0 ∨ ow v = 1 by have := ho v; omega) with e | e
    · obtain ⟨w, g1, g2, g3⟩ := o2 (by omega) ⟨w0, hw0, (hEn v w0 hw0).2, z1 e w0 hw0⟩
      exact ⟨w, g1, (r2 w).mpr ⟨g2, g3⟩⟩
    · obtain ⟨w, g1, g2, g3⟩ := z2 (by omega) ⟨w0, hw0, (hEn v w0 hw0).2⟩
      exact ⟨w, g1, (r2 w).mpr ⟨⟨g2, g3⟩, o1 e w g1⟩⟩
  refine wonEndless_ok hB' 13 10 _ _ (by decide) (by decide) (fun u hu => ⟨((r2 u).mp hu).1.1, hca u⟩) htot (fun r8 h8 => ?_)
  have h8 : pDet ow ca E (fun v => (v < n ∧ ¬ bt r6 v = true) ∧ ¬ bt r7 v = true) (fun v => bt r8 v = true) := pDet_congr r2 (fun _ => Iff.rfl) h8
  obtain ⟨f0, f1⟩ := fin _ (fun _ => h8)
  have hs : ∀ v, bt (r6 ||| r8) v = true → v < n := fun v hv => by
    rcases (b_orI v).mp hv with q | q
    · exact h6.2.1 v q
    · exact (h8.1 v q).1.1
  refine ⟨fun q => h _ (fun u => ?_), fun q => h _ (fun u => ?_)⟩
  · have e : i = 1 := by
      rcases (show i = 0 ∨ i = 1 by omega) with e | e
      · subst e; exact absurd rfl q
      · exact e
    subst e
    rw [b_diff, hall, b_orI]
    exact ⟨fun z => ⟨z.1, (f1 u z.1).mp z.2⟩, fun z => ⟨z.1, (f1 u z.1).mpr z.2⟩⟩
  · have e : i = 0 := by
      rcases (show i = 0 ∨ i = 1 by omega) with e | e
      · exact e
      · subst e; exact absurd q (by decide)
    subst e
    rw [b_orI]
    exact ⟨fun z => ⟨hs u ((b_orI u).mpr z), (f0 u (hs u ((b_orI u).mpr z))).mp z⟩, fun z => (f0 u z.1).mpr z.2⟩
