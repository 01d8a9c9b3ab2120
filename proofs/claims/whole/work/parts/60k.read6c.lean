/-! the texts: the reference's reader: line, text -/
def O6a (T : Nat → Nat) (n : Nat) (R : RdA) (k s e v f fa : Int32) (now : Nat → Int32) : Prop :=
  (∃ t P M L, R = .ok (t, P, M, L) ∧ f = 0 ∧ RTk n t k s e v ∧ tkOk T n t ∧ RMp P now ∧ RMv M now ∧ lOk P M L ∧ now 2 = nI L) ∨ (∃ a b, R = .error (a, b) ∧ 0 < a ∧ a < 7 ∧ b ≤ n ∧ f = nI a ∧ fa = nI b)
def O6t (n : Nat) (R : RdT) (f fa : Int32) (now : Nat → Int32) : Prop :=
  (∃ P M L, R = .ok (P, M, L) ∧ f = 0 ∧ gOk (P, M, L, 0, hdLay P L) ∧ RM (P, M, L, 0, hdLay P L) now) ∨ (∃ a b, R = .error (a, b) ∧ 0 < a ∧ a < 7 ∧ b ≤ n ∧ f = nI a ∧ fa = nI b)
section RD6C
variable {T : Nat → Nat} {n : Nat} {inp keys now0 : Nat → Int32} {t : Tk} {k s e v fa : Int32} {P M : List (Nat × Nat)} {L : Nat}
theorem x6_readsMoves {v0 : Int32} {post : Int32 → Int32 → Int32 → Int32 → Int32 → Int32 → (Nat → Int32) → Prop} (hn : n ≤ 600) (hT : ∀ j, j < n → inp j = sgB (T j) ∧ T j < 256) (ht : tkOk T n t) (h4 : t.1 ≠ 4) (hR : RTk n t k s e v) (hp : RMp P now0) (hv : RMv M now0) (hg : gOk0 P M)
    (h : ∀ k s e v f fa now, O6m T n P (rdMoves T n P.length t M) now0 k s e v f fa now → post k s e v f fa now) : wp_X6_readsMoves (nI n) k e v0 (0 : Int32) fa inp now0 post := by
  unfold wp_X6_readsMoves
  refine x6_nxt hn hT ht h4 hR (fun k' s' e' v' hr ho' hge => ?_)
  have herr : ∀ a b r, rdMoves T n P.length t M = .error (a, b) → 0 < a → a < 7 → b ≤ n → ∀ {k s e v : Int32}, ∃ x, fx8 (F_X6_readsMoves_22 r (nI n) inp (fun _ k s e v f fa now => post k s e v f fa now)) x (1 : Int32) k s e v (nI a) (nI b) now0 := by
    intro a b r e1 e2 e3 e4 k s e v
    refine ⟨1, ?_⟩
    show F_X6_readsMoves_22 r (nI n) inp (fun _ k s e v f fa now => post k s e v f fa now) _ (1 : Int32) k s e v (nI a) (nI b) now0
    unfold F_X6_readsMoves_22
    exact ⟨fun _ => h k s e v (nI a) (nI b) now0 (Or.inr ⟨a, b, e1, e2, e3, e4, rfl, rfl⟩), fun z => absurd z (nI_ne0 e2 (by omega))⟩
  refine x6_thePlace (P := P) hp hg.1 ho' hr (fun z => ⟨fun _ => ?_, fun y => absurd y (by decide)⟩) (fun z z2 => ⟨fun _ => ?_, fun y => absurd y (by decide)⟩) (fun z z2 => ⟨fun y => absurd rfl y, fun _ => ?_⟩)
  · have eR : rdMoves T n P.length t M = .error (1, (tkN T n t).2.1) := by unfold rdMoves; rw [if_pos z]
    rw [hr.2.1]
    exact herr 1 _ _ eR (by decide) (by decide) ho'.2.1
  · have eR : rdMoves T n P.length t M = .error (3, (tkN T n t).2.1) := by unfold rdMoves; rw [if_neg (fun y => y z), if_pos z2]
    rw [hr.2.1]
    exact herr 3 _ _ eR (by decide) (by decide) ho'.2.1
  · refine x6_nxt hn hT ho' (by omega) hr (fun k2 s2 e2 v2 hr2 ho2 hge2 => ?_)
    rw [hr.2.2.2 z]
    refine x6_lpMv (R := rdMoves T n P.length t M) z2 hn hT (fun v2 k s e v f fa now hO => h k s e v f fa now hO) hr2 ho2 hp hv hg ?_
    unfold rdMoves
    rw [if_neg (fun y => y z), if_neg (fun y => y z2)]
    by_cases q : (tkN T n (tkN T n t)).1 = 2
    · rw [if_neg (fun y => y q)]; exact Or.inl ⟨q, rfl⟩
    · rw [if_pos q]; exact Or.inr ⟨q, rfl⟩
theorem O6_pl {o : Nat} {f : Int32} {now : Nat → Int32} (h : O6p T n (rdPlaces T n o t P) now0 k s e v f fa now) (hv : RMv M now0) (hg : lOk P M L) (hl : now0 2 = nI L) : O6a T n (rdMp (rdPlaces T n o t P) M L) k s e v f fa now := by
  rcases h with ⟨t', P', h1, h2, h3, h4, h5, h6, h7⟩ | ⟨a, b, h1, h2, h3, h4, h5, h6⟩
  · have hlen := rdPlaces_len h1
    exact Or.inl ⟨t', P', M, L, by rw [h1]; rfl, h2, h3, h4, h5, RMv_of (by have := hg.1.2.1; omega) hv (h7 1 (by decide) (by omega)) (fun i c1 c2 => h7 i (by omega) (by omega)), ⟨gOk0_up hg.1 h6 hlen, hg.2.elim Or.inl (fun z => Or.inr (Nat.lt_of_lt_of_le z hlen))⟩, (h7 2 (by decide) (by omega)).trans hl⟩
  · exact Or.inr ⟨a, b, by rw [h1]; rfl, h2, h3, h4, h5, h6⟩
theorem O6_mv {f : Int32} {now : Nat → Int32} (h : O6m T n P (rdMoves T n P.length t M) now0 k s e v f fa now) (hg : lOk P M L) (hl : now0 2 = nI L) : O6a T n (rdMm (rdMoves T n P.length t M) P L) k s e v f fa now := by
  rcases h with ⟨t', M', h1, h2, h3, h4, h5, h6, h7, h8⟩ | ⟨a, b, h1, h2, h3, h4, h5, h6⟩
  · exact Or.inl ⟨t', P, M', L, by rw [h1]; rfl, h2, h3, h4, h5, h6, ⟨h7, hg.2⟩, (h8 2 (by decide) (by omega)).trans hl⟩
  · exact Or.inr ⟨a, b, by rw [h1]; rfl, h2, h3, h4, h5, h6⟩
theorem x6_readsLine {post : Int32 → Int32 → Int32 → Int32 → Int32 → Int32 → (Nat → Int32) → Prop} (hn : n ≤ 600) (hT : ∀ j, j < n → inp j = sgB (T j) ∧ T j < 256) (hK : RKy keys) (ht : tkOk T n t) (hR : RTk n t k s e v) (hp : RMp P now0) (hv : RMv M now0) (hg : lOk P M L) (hl : now0 2 = nI L)
    (h : ∀ k s e v f fa now, O6a T n (rdLine T n t P M L) k s e v f fa now → post k s e v f fa now) : wp_X6_readsLine (nI n) k s e v (0 : Int32) fa inp keys now0 post := by
  have hpo : rdOk P := ⟨hg.1.1, hg.1.2.2.1⟩
  unfold wp_X6_readsLine
  refine x6_isK hn hT hK (w := 1) (by decide) ht hR (fun a1 => ⟨fun z => absurd z (by decide), fun _ => ?_⟩) (fun b1 => ⟨fun _ => ?_, fun z => absurd rfl z⟩)
  · refine x6_readsPlaces (o := 0) (by decide) hn hT ht (by have := a1.1; omega) hR hp hpo (fun k s e v f fa now hO => h _ _ _ _ _ _ _ ?_)
    unfold rdLine
    rw [if_pos (pD_t.mpr a1)]
    exact O6_pl hO hv hg hl
  refine x6_isK hn hT hK (w := 2) (by decide) ht hR (fun a1 => ⟨fun z => absurd z (by decide), fun _ => ?_⟩) (fun b2 => ⟨fun _ => ?_, fun z => absurd rfl z⟩)
  · refine x6_readsPlaces (o := 1) (by decide) hn hT ht (by have := a1.1; omega) hR hp hpo (fun k s e v f fa now hO => h _ _ _ _ _ _ _ ?_)
    unfold rdLine
    rw [if_neg (fun z => b1 (pD_t.mp z)), if_pos (pD_t.mpr a1)]
    exact O6_pl hO hv hg hl
  refine x6_isK hn hT hK (w := 3) (by decide) ht hR (fun a1 => ⟨fun z => absurd z (by decide), fun _ => ?_⟩) (fun b3 => ⟨fun _ => ?_, fun z => absurd rfl z⟩)
  · refine x6_readsMoves hn hT ht (by have := a1.1; omega) hR hp hv hg.1 (fun k s e v f fa now hO => h _ _ _ _ _ _ _ ?_)
    unfold rdLine
    rw [if_neg (fun z => b1 (pD_t.mp z)), if_neg (fun z => b2 (pD_t.mp z)), if_pos (pD_t.mpr a1)]
    exact O6_mv hO hg hl
  refine x6_isK hn hT hK (w := 4) (by decide) ht hR (fun a1 => ⟨fun z => absurd z (by decide), fun _ => ?_⟩) (fun b4 => ⟨fun _ => ?_, fun z => absurd rfl z⟩)
  · have eL : rdLine T n t P M L = rdToken T n t P M := by
      unfold rdLine
      rw [if_neg (fun z => b1 (pD_t.mp z)), if_neg (fun z => b2 (pD_t.mp z)), if_neg (fun z => b3 (pD_t.mp z)), if_pos (pD_t.mpr a1)]
    rw [eL] at h
    refine x6_nxt hn hT ht (by have := a1.1; omega) hR (fun k' s' e' v' hr ho' hge => x6_thePlace (P := P) hp hg.1.1 ho' hr (fun z => ⟨fun _ => ?_, fun y => absurd y (by decide)⟩) (fun z z2 => ⟨fun _ => ?_, fun y => absurd y (by decide)⟩) (fun z z2 => ⟨fun y => absurd rfl y, fun _ => ?_⟩))
    · refine h _ _ _ _ _ _ _ (Or.inr ⟨1, (tkN T n t).2.1, ?_, by decide, by decide, ho'.2.1, rfl, hr.2.1⟩)
      unfold rdToken
      rw [if_pos z]
    · refine h _ _ _ _ _ _ _ (Or.inr ⟨3, (tkN T n t).2.1, ?_, by decide, by decide, ho'.2.1, rfl, hr.2.1⟩)
      unfold rdToken
      rw [if_neg (fun y => y z), if_pos z2]
    · refine x6_nxt hn hT ho' (by omega) hr (fun k2 s2 e2 v2 hr2 ho2 hge2 => h _ _ _ _ _ _ _ (Or.inl ⟨tkN T n (tkN T n t), P, M, (tkN T n t).2.2.2, ?_, rfl, hr2, ho2, RMp_of hg.1.1 hp (upd_get.trans (if_neg (by decide))) (fun i c1 c2 => upd_get.trans (if_neg (by omega))), RMv_upd hv (by have := hg.1.2.1; omega) (by decide) (by omega), ⟨hg.1, Or.inr z2⟩, ?_⟩))
      · unfold rdToken
        rw [if_neg (fun y => y z), if_neg (fun y => y z2)]
      · rw [upd_get, if_pos rfl]
        exact hr.2.2.2 z
  · unfold wp_X6_errs
    refine ⟨fun z => absurd rfl z, fun _ => h _ _ _ _ _ _ _ (Or.inr ⟨1, t.2.1, ?_, by decide, by decide, ht.2.1, rfl, hR.2.1⟩)⟩
    unfold rdLine
    rw [if_neg (fun z => b1 (pD_t.mp z)), if_neg (fun z => b2 (pD_t.mp z)), if_neg (fun z => b3 (pD_t.mp z)), if_neg (fun z => b4 (pD_t.mp z))]
end RD6C
