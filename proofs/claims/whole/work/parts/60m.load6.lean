/-! the reference's load -/
theorem x6_load {T : Nat → Nat} {N : Nat} {a many sv ec ep te k s e v f fa : Int32} {aside inp keys now : Nat → Int32} {post : Int32 → Int32 → Int32 → Int32 → Int32 → Int32 → Int32 → Int32 → Int32 → Int32 → Int32 → Int32 → Int32 → Int32 → (Nat → Int32) → (Nat → Int32) → Prop} (hN : N ≤ 600) (hT : ∀ j, j < N → inp j = sgB (T j) ∧ T j < 256) (hKy : RKy keys)
    (h1 : ¬ isN (N + 1) a → post 0 1 many sv (nI N) ec ep te k s e v f fa aside now)
    (h2 : ∀ x y te k s e v f fa as now', isN (N + 1) a → rdText T (ix a) = .error (x, y) → (∀ i, i < 176 → now' i = now i) → post 0 2 many sv 0 (nI x) (nI y) te k s e v f fa as now')
    (h : ∀ P M L te k s e v f fa as now', isN (N + 1) a → rdText T (ix a) = .ok (P, M, L) → gOk (P, M, L, 0, hdLay P L) → RM (P, M, L, 0, hdLay P L) now' → post (nI P.length) 0 0 0 0 0 (-1) te k s e v f fa as now') : wp_X6_load a many sv (nI N) ec ep te k s e v f fa aside inp keys now post := by
  unfold wp_X6_load wp_X6_refuse wp_X6_told
  rw [show nI N = nI (N + 1) - 1 from i_sub1.symm]
  refine n6_in (n := N + 1) (by omega) (fun q => n6_no (by rw [i_sub1]; exact h1 q)) (fun ha => n6_ye ?_)
  have h2 := fun x y te k s e v f fa as now' => h2 x y te k s e v f fa as now' ha
  have h := fun P M L te k s e v f fa as now' => h P M L te k s e v f fa as now' ha
  obtain ⟨n, hn, rfl⟩ := ha
  rw [ix_nI (by omega)] at h2 h
  refine x6_putsAside (fun as has => x6_readsText (by omega) (fun j hj => hT j (by omega)) hKy (fun k s e v f fa now' hO => ?_))
  rcases hO with ⟨P, M, L, o1, rfl, o3, o4⟩ | ⟨x, y, o1, o2, o3, o4, o5, o6⟩
  · refine ⟨fun z => absurd rfl z, fun _ => ⟨fun _ => ?_, fun z => absurd rfl z⟩⟩
    rw [o4.1.1]
    exact h P M L _ _ _ _ _ _ _ _ _ o1 o3 o4
  · have hz : ¬ f = 0 := by rw [o5]; exact nI_ne0 o2 (by omega)
    refine ⟨fun _ => ⟨fun z => absurd z hz, fun _ => x6_putsBack (fun now2 hb => ?_)⟩, fun z => absurd z hz⟩
    have := h2 x y (nI n) k s e v f fa as now2 o1 (fun i hi => (hb i hi).trans (has i hi))
    rw [← o5, ← o6] at this
    exact this
