/-! the class's load -/
theorem x5_load {T : Nat → Nat} {N : Nat} {a p q m tk md fi ke zk ck er ea rl rk rs re rv ra rp ro rm rt rd : Int32} {inp isS c fr hd to rc rf rh rto : Nat → Int32}
    {post : Int32 → Int32 → Int32 → Int32 → Int32 → Int32 → Int32 → Int32 → Int32 → (Nat → Int32) → Int32 → Int32 → Int32 → Int32 → Int32 → Int32 → Int32 → Int32 → Int32 → Int32 → (Nat → Int32) → (Nat → Int32) → (Nat → Int32) → (Nat → Int32) → Int32 → Int32 → Int32 → Int32 → Int32 → (Nat → Int32) → (Nat → Int32) → (Nat → Int32) → (Nat → Int32) → Prop}
    {postX : String → Int32 → Int32 → Int32 → Int32 → Int32 → Int32 → Int32 → Int32 → (Nat → Int32) → Int32 → Int32 → Int32 → Int32 → Int32 → Int32 → Int32 → Int32 → Int32 → Int32 → (Nat → Int32) → (Nat → Int32) → (Nat → Int32) → (Nat → Int32) → Int32 → Int32 → Int32 → Int32 → Int32 → (Nat → Int32) → (Nat → Int32) → (Nat → Int32) → (Nat → Int32) → Prop}
    (hN : N ≤ 600) (hT : ∀ j, j < N → inp j = nI (T j) ∧ T j < 256)
    (h1 : ¬ isN (N + 1) a → postX "java/lang/IllegalArgumentException" (nI N) p q m tk md fi ke isS zk ck er ea rl rk rs re rv ra c fr hd to rp ro rm rt rd rc rf rh rto)
    (h2 : ∀ x y rl rk rs re rv ra rp ro rm rt rd rc rf rh rto, isN (N + 1) a → 0 < x → x < 7 → y ≤ 600 → rdText T (ix a) = .error (x, y) → postX "java/lang/IllegalStateException" 0 p q m tk md fi ke isS zk ck (nI x) (nI y) rl rk rs re rv ra c fr hd to rp ro rm rt rd rc rf rh rto)
    (h : ∀ P M L p q m tk md isS rl rk rs re rv ra c fr hd to rp ro rm rt rd rc rf rh rto, isN (N + 1) a → rdText T (ix a) = .ok (P, M, L) → gOk (P, M, L, 0, hdLay P L) → RG (P, M, L, 0, hdLay P L) p q m tk md c fr hd to → (∀ s, s < 2 → isS s = 0) → post (nI P.length) 0 p q m tk md 0 0 isS 0 0 0 (-1) rl rk rs re rv ra c fr hd to rp ro rm rt rd rc rf rh rto) :
    wp_X5_load a (nI N) p q m tk md fi ke inp isS zk ck er ea rl rk rs re rv ra c fr hd to rp ro rm rt rd rc rf rh rto post postX := by
  unfold wp_X5_load
  by_cases ha : isN (N + 1) a
  · have h2 := fun x y rl rk rs re rv ra rp ro rm rt rd rc rf rh rto => h2 x y rl rk rs re rv ra rp ro rm rt rd rc rf rh rto ha
    have h := fun P M L p q m tk md isS rl rk rs re rv ra c fr hd to rp ro rm rt rd rc rf rh rto => h P M L p q m tk md isS rl rk rs re rv ra c fr hd to rp ro rm rt rd rc rf rh rto ha
    obtain ⟨n, hn, rfl⟩ := ha
    rw [ix_nI (by omega)] at h2 h
    refine ⟨fun z => absurd z (nI_pos (by omega)), fun _ => ⟨fun _ => ?_, fun z => absurd (nI_le (by omega) (by omega)) z⟩⟩
    refine x5_read (by omega) (fun j hj => hT j (by omega)) (fun rb er ea k s e v l p q m tk md c fr hd to hO => ?_)
    rcases hO with ⟨P, M, L, o1, rfl, rfl, rfl, o2, o3⟩ | ⟨x, y, o1, rfl, o2, o3, o4, rfl, rfl⟩
    · refine ⟨fun _ => ?_, fun z => absurd z (by decide)⟩
      refine x1_copy (g := (P, M, L, 0, hdLay P L)) ⟨o2.1.1, o2.1.2.1⟩ o3 (fun p' q' m' t' d' c' f' h' e' hr' => ?_)
      unfold wp_X3_forget wp_X2_clear
      refine up2i 2 (by decide) (fun j w => ∀ i, i < j → w i = 0) 0 _ (Nat.zero_le _) (fun j hj => absurd hj (Nat.not_lt_zero _)) (fun rec w hI => ?_) (fun rec j w hj hI go => ?_)
      · unfold F_X5_load_80
        refine ⟨fun _ => ?_, fun z => absurd (Int32.le_refl _) z⟩
        have e1 := hr'.1.1
        have := h P M L p' q' m' t' d' w (nI n) k s e v l c' f' h' e' p q m tk md c fr hd to o1 o2 hr' hI
        rw [← e1] at this
        exact this
      · unfold F_X5_load_80
        refine ⟨fun z => absurd z (nI_ge (a := j) (b := 2) hj (by decide)), fun _ => ⟨vp_in_nI hj (by decide), go _ (fun i hi => ?_)⟩⟩
        rw [nI_clamp (show j < 2 ^ 31 by omega), upd_get]
        by_cases w9 : i = j
        · rw [if_pos w9]; rfl
        · rw [if_neg w9]; exact hI i (by omega)
    · exact ⟨fun z => absurd rfl z, fun _ => h2 x y _ _ _ _ _ _ _ _ _ _ _ _ _ _ _ o2 o3 (by omega) o1⟩
  · have h1 := h1 ha
    refine ⟨fun _ => h1, fun z => ⟨fun z2 => absurd ?_ ha, fun _ => h1⟩⟩
    obtain ⟨j, hj, rfl⟩ := nI_of z
    have := (nI_leI hj (by omega)).mp z2
    exact ⟨j, by omega, rfl⟩
