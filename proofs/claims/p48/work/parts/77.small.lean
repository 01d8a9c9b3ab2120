/-! the small methods of the law -/
theorem xn_SA : ¬ ("java/lang/IllegalStateException" = "java/util/NoSuchElementException") := by decide
theorem xn_AN : ¬ ("java/lang/IllegalArgumentException" = "java/util/NoSuchElementException") := by decide
theorem xn_SAa : ¬ ("java/lang/IllegalStateException" = "java/lang/IllegalArgumentException") := by decide
section SMALL8
variable {pl mv : List (Nat × Nat)} {g : gm} {hs : List gm} {a b c bp ba places odd moves token made first kept zero zk ck : Int32} {calls fr heard to calling next owned chosen seenAt : Nat → Int32} {rp ro rm rt rd : Nat → Int32} {rc rf rh re : Nat → Nat → Int32}
theorem y_undone {post : Int32 → Int32 → Int32 → Int32 → Int32 → Int32 → Int32 → Int32 → Int32 → (Nat → Int32) → (Nat → Int32) → (Nat → Int32) → (Nat → Int32) → Prop}
    (hH : RHc hs first kept rp ro rm rt rd rc rf rh re)
    (h : ∀ hs' g' p' o' m' t' d' k' c' r' h' e', hs = hs' ++ [g'] → RG g' p' o' m' t' d' c' r' h' e' → RHc hs' first k' rp ro rm rt rd rc rf rh re → post (nI hs'.length) p' o' m' t' d' k' 0 0 c' r' h' e') (h1 : hs ≠ []) :
    wp_L_undone places odd moves token made first kept zk ck calls fr heard to rp ro rm rt rd rc rf rh re post := by
  unfold wp_L_undone
  exact x5_undo hH (fun e => absurd e h1) h
theorem y_gone {post : Int32 → Int32 → Int32 → Int32 → Int32 → Int32 → Int32 → (Nat → Int32) → hT} (hH : RHc hs first kept rp ro rm rt rd rc rf rh re) (hg : gOk g) (hr : RG g places odd moves token made calls fr heard to)
    (h1 : ¬ isN g.2.1.length a → post (-1) token made first kept zk ck heard rp ro rm rt rd rc rf rh re)
    (h2 : isN g.2.1.length a → ¬ lA g.2.1 (ix a) = g.2.2.1 → post (-3) token made first kept zk ck heard rp ro rm rt rd rc rf rh re)
    (h : ∀ t' d' h' f' k' qp qo qm qt qd qc qf qh qe, isN g.2.1.length a → lA g.2.1 (ix a) = g.2.2.1 → RG (gGo g (ix a)) places odd moves t' d' calls fr h' to → RHc (hPush hs g) f' k' qp qo qm qt qd qc qf qh qe → post (nI (lB g.1 (lB g.2.1 (ix a)))) t' d' f' k' 0 0 h' qp qo qm qt qd qc qf qh qe) :
    wp_L_gone a places odd moves token made first kept zk ck calls fr heard to rp ro rm rt rd rc rf rh re post := by
  unfold wp_L_gone
  exact x5_go hH hg hr (fun e => ⟨fun _ => h1 e, fun q => absurd rfl q⟩) (fun e q => ⟨fun z => absurd z xn_SA, fun _ => ⟨fun _ => h2 e q, fun z => absurd rfl z⟩⟩) h
theorem y_led {post : Int32 → Int32 → Int32 → Int32 → Int32 → Int32 → (Nat → Int32) → (Nat → Int32) → hT} (hH : RHc hs first kept rp ro rm rt rd rc rf rh re) (hg : gOk g) (hr : RG g places odd moves token made calls fr heard to)
    (h1 : ¬ (isN g.1.length a ∧ isN g.1.length b) → post (-1) moves first kept zk ck fr to rp ro rm rt rd rc rf rh re)
    (h2 : isN g.1.length a ∧ isN g.1.length b → gEd g.2.1 (ix a) (ix b) → post (-2) moves first kept zk ck fr to rp ro rm rt rd rc rf rh re)
    (h3 : isN g.1.length a ∧ isN g.1.length b → ¬ gEd g.2.1 (ix a) (ix b) → ¬ g.2.1.length < 60 → post (-3) moves first kept zk ck fr to rp ro rm rt rd rc rf rh re)
    (h : ∀ m' r' e' f' k' qp qo qm qt qd qc qf qh qe, isN g.1.length a ∧ isN g.1.length b → ¬ gEd g.2.1 (ix a) (ix b) → g.2.1.length < 60 → RG (gAddMove g (ix a) (ix b)) places odd m' token made calls r' heard e' → RHc (hPush hs g) f' k' qp qo qm qt qd qc qf qh qe → post (nI g.2.1.length) m' f' k' 0 0 r' e' qp qo qm qt qd qc qf qh qe) :
    wp_L_led a b places odd moves token made first kept zk ck calls fr heard to rp ro rm rt rd rc rf rh re post := by
  unfold wp_L_led
  exact x5_addMove hH hg hr (fun e => ⟨fun _ => h1 e, fun q => absurd rfl q⟩) (fun e q => ⟨fun z => absurd z xn_AN, fun _ => ⟨fun _ => h2 e q, fun z => absurd rfl z⟩⟩)
    (fun e q z => ⟨fun y => absurd y xn_SA, fun _ => ⟨fun y => absurd y xn_SAa, fun _ => ⟨fun _ => h3 e q z, fun y => absurd rfl y⟩⟩⟩) h
theorem y_refusesSet {post : Int32 → Int32 → Int32 → (Nat → Int32) → (Nat → Int32) → (Nat → Int32) → Prop} (hg : gOk0 pl mv) (hp : RP pl places odd calls) (hv : RV mv moves fr to)
    (hb : ¬ (isN 2 a ∧ isS pl.length b)) (h : post 1 bp ba calling next owned) : wp_L_refusesSet a b bp ba places odd moves calling next owned calls fr to post := by
  unfold wp_L_refusesSet
  exact x5_pull hg hp hv (fun _ => ⟨fun _ => h, fun q => absurd rfl q⟩) (fun _ _ _ _ _ _ q => absurd q hb)
theorem y_refusesCall {post : Int32 → Int32 → Int32 → Int32 → Int32 → (Nat → Int32) → hT} (hH : RHc hs first kept rp ro rm rt rd rc rf rh re) (hg : gOk g) (hr : RG g places odd moves token made calls fr heard to)
    (hb : (¬ isN g.1.length a ∧ a < 0) ∨ (isN g.1.length a ∧ ¬ isN 10 b ∧ ¬ a < 0)) (h : post 1 first kept zk ck calls rp ro rm rt rd rc rf rh re) : wp_L_refusesCall a b places odd moves token made first kept zk ck calls fr heard to rp ro rm rt rd rc rf rh re post := by
  unfold wp_L_refusesCall
  refine x5_setCall hH hg hr (fun e => ⟨fun _ => ⟨fun q => ?_, fun _ => h⟩, fun q => absurd rfl q⟩) (fun e q => ⟨fun z => absurd z xn_AN, fun _ => ⟨fun _ => ⟨fun z => ?_, fun _ => h⟩, fun z => absurd rfl z⟩⟩) (fun _ _ _ _ _ _ _ _ _ _ _ _ e q => ?_)
  · rcases hb with hb | hb
    · exact absurd (Int32.not_le.mpr hb.2) (fun z => z q)
    · exact absurd hb.1 e
  · rcases hb with hb | hb
    · exact absurd e hb.1
    · exact absurd z hb.2.2
  · rcases hb with hb | hb
    · exact absurd e hb.1
    · exact absurd q hb.2.1
end SMALL8
