/-! typing and loading the drawn text -/
def pkB (B : Nat → Nat) (s : Nat) : Nat → Int32
  | 0 => 0
  | k + 1 => (pkB B s k <<< ((8 : Int32) &&& 31)) ||| nI (B (s + k))
theorem pk_lo (x : Int32) {b i : Nat} (hi : i < 8) : bt ((x <<< ((8 : Int32) &&& 31)) ||| nI b) i = b.testBit i := by
  rw [b_or, b_shl8 x (by omega), bt_nI, decide_eq_false (show ¬ 8 ≤ i by omega), decide_eq_true (show i < 32 by omega), Bool.false_and, Bool.false_or, Bool.true_and]
theorem pk_hi (x : Int32) {b i : Nat} (hb : b < 256) (hi : 8 + i < 32) : bt ((x <<< ((8 : Int32) &&& 31)) ||| nI b) (8 + i) = bt x i := by
  have : b.testBit (8 + i) = false := Nat.testBit_lt_two_pow (Nat.lt_of_lt_of_le hb (show 2 ^ 8 ≤ 2 ^ (8 + i) from Nat.pow_le_pow_right (by decide) (by omega)))
  rw [b_or, b_shl8 x hi, bt_nI, this, Bool.and_false, Bool.or_false, decide_eq_true (show 8 ≤ 8 + i by omega), Bool.true_and, Nat.add_sub_cancel_left]
theorem pk_by {a : Int32} {b s : Nat} (hb : b < 256) (h : ∀ i, i < 8 → bt a (s + i) = b.testBit i) : fyB a s = b := Nat.eq_of_testBit_eq (fun i => by
  rw [fyB_tb]
  by_cases q : i < 8
  · rw [decide_eq_true q, Bool.true_and, h i q]
  · rw [decide_eq_false q, Bool.false_and]
    exact (Nat.testBit_lt_two_pow (Nat.lt_of_lt_of_le hb (show 2 ^ 8 ≤ 2 ^ i from Nat.pow_le_pow_right (by decide) (by omega)))).symm)
theorem pk_fd {B : Nat → Nat} (hB : ∀ j, B j < 256) (N : Nat) : fd4 B N (pkB B N 4) = B := funext fun j => by
  have e : pkB B N 4 = (((((((((0 : Int32) <<< ((8 : Int32) &&& 31)) ||| nI (B (N + 0))) <<< ((8 : Int32) &&& 31)) ||| nI (B (N + 1))) <<< ((8 : Int32) &&& 31)) ||| nI (B (N + 2))) <<< ((8 : Int32) &&& 31)) ||| nI (B (N + 3))) := rfl
  unfold fd4
  rw [e]
  by_cases e3 : j = N + 3
  · rw [if_pos e3, e3]
    exact pk_by (hB _) (fun i hi => by rw [Nat.zero_add]; exact pk_lo _ hi)
  rw [if_neg e3]
  by_cases e2 : j = N + 2
  · rw [if_pos e2, e2]
    exact pk_by (hB _) (fun i hi => by rw [pk_hi _ (hB _) (by omega)]; exact pk_lo _ hi)
  rw [if_neg e2]
  by_cases e1 : j = N + 1
  · rw [if_pos e1, e1]
    exact pk_by (hB _) (fun i hi => by rw [show 16 + i = 8 + (8 + i) by omega, pk_hi _ (hB _) (by omega), pk_hi _ (hB _) (by omega)]; exact pk_lo _ hi)
  rw [if_neg e1]
  by_cases e0 : j = N
  · rw [if_pos e0, e0]
    exact pk_by (hB _) (fun i hi => by rw [show 24 + i = 8 + (8 + (8 + i)) by omega, pk_hi _ (hB _) (by omega), pk_hi _ (hB _) (by omega), pk_hi _ (hB _) (by omega)]; exact pk_lo _ hi)
  rw [if_neg e0]
theorem pk_fdA {B : Nat → Nat} (hB : ∀ j, B j < 256) (N : Nat) : fdA B N (pkB B N 4) (pkB B (N + 4) 4) (pkB B (N + 8) 4) (pkB B (N + 12) 4) (pkB B (N + 16) 4) = B := by
  unfold fdA
  rw [pk_fd hB, pk_fd hB, pk_fd hB, pk_fd hB, pk_fd hB]
section TYPE8
variable {tn : Nat} {tf : Nat → Int32} {B : Nat → Nat}
theorem y_type (h1 : tn ≤ 380) (hB : ∀ j, B j < 256) (hlo : ∀ j, j < tn → tf j = nI (B j)) (hhi : ∀ j, tn ≤ j → j < 20 * ((tn + 19) / 20) → B j = 32) {inp : Nat → Int32} {post : Int32 → Int32 → (Nat → Int32) → Prop}
    (h : ∀ i', (∀ j, j < 20 * ((tn + 19) / 20) → i' j = nI (B j)) → post (nI tn) (nI (20 * ((tn + 19) / 20))) i') : wp_L_type tn tf 0 inp post := by
  unfold wp_L_type
  have key : ∀ (r i : Nat) (inp : Nat → Int32), tn ≤ 20 * (i + r) → i ≤ (tn + 19) / 20 → (∀ j, j < 20 * i → inp j = nI (B j)) → fx3 (F_L_type_4 tn tf (fun v3_7 o0_inputLength_8 o0_input_9 => post (nI tn) o0_inputLength_8 o0_input_9)) (r + 1) (nI (20 * i)) (nI (20 * i)) inp := by
    intro r
    induction r with
    | zero =>
      intro i inp hr hi hI
      show F_L_type_4 _ _ _ _ _ _ _
      unfold F_L_type_4
      have e : i = (tn + 19) / 20 := by omega
      refine ⟨fun _ => ?_, fun q => absurd (nI_le (by omega) (by omega)) q⟩
      subst e
      exact h inp hI
    | succ r ih =>
      intro i inp hr hi hI
      show F_L_type_4 _ _ _ _ _ _ _
      unfold F_L_type_4
      refine ⟨fun q => ?_, fun q => ?_⟩
      · have q2 : tn ≤ 20 * i := (nI_leI (by omega) (by omega)).mp q
        have e : i = (tn + 19) / 20 := by omega
        subst e
        exact h inp hI
      · have q2 : 20 * i < tn := by
          rcases Nat.lt_or_ge (20 * i) tn with y | y
          · exact y
          · exact absurd (nI_le y (by omega)) q
        refine fx2_go (fun v5 n1 => ∃ q, q ≤ 20 ∧ v5 = nI q ∧ ∀ w, w < 5 → n1 w = pkB B (20 * i + 4 * w) (min 4 (q - 4 * w))) (fun v5 _ => 20 - v5.toNatClampNeg) ?_ _ _ ⟨0, Nat.zero_le _, rfl, fun w hw => ?_⟩
        · rintro rec v5 n1 ⟨q, hq, rfl, hw⟩ hrec
          unfold F_L_type_40
          refine ⟨fun y => ?_, fun y => ?_⟩
          · have e : q = 20 := by
              have := (nI_leI (a := 20) (by omega) (by omega)).mp y
              omega
            subst e
            have w0 : n1 0 = pkB B (20 * i) 4 := hw 0 (by decide)
            have w1 : n1 1 = pkB B (20 * i + 4) 4 := hw 1 (by decide)
            have w2 : n1 2 = pkB B (20 * i + 8) 4 := hw 2 (by decide)
            have w3 : n1 3 = pkB B (20 * i + 12) 4 := hw 3 (by decide)
            have w4 : n1 4 = pkB B (20 * i + 16) 4 := hw 4 (by decide)
            show wp_X5_feed (n1 0) (n1 1) (n1 2) (n1 3) (n1 4) _ _ _ _
            rw [w0, w1, w2, w3, w4]
            refine x5_feed (T := B) (by omega) (fun j hj => ⟨hI j hj, hB j⟩) (fun z => absurd (by omega) z) (fun i' _ hi' => ?_)
            rw [pk_fdA hB] at hi'
            rw [show nI (20 * i) + (20 : Int32) = nI (20 * (i + 1)) from (nI_add (20 * i) 20), show 20 * i + 20 = 20 * (i + 1) by omega]
            exact ih (i + 1) i' (by omega) (by omega) (fun j hj => (hi' j (by omega)).1)
          · have hq20 : q < 20 := by
              rcases Nat.lt_or_ge q 20 with z | z
              · exact z
              · exact absurd (nI_le (a := 20) z (by omega)) y
            have ed : nI q / (4 : Int32) = nI (q / 4) := pk_div (d := 4) (by omega) (by decide) (by decide)
            have hin : vp_in (nI q / (4 : Int32)) 5 := by rw [ed]; exact vp_in_nI (by omega) (by decide)
            have go : nI q + 1 = nI (q + 1) := nI_1 q
            have fin : ∀ x : Int32, x = nI (B (20 * i + q)) → rec (nI q + 1) (upd n1 (nI q / (4 : Int32)).toNatClampNeg ((n1 (nI q / (4 : Int32)).toNatClampNeg <<< ((8 : Int32) &&& 31)) ||| x)) := by
              intro x hx
              refine hrec _ _ ⟨q + 1, hq20, go, fun w hw5 => ?_⟩ (by rw [go, nI_clamp (by omega), nI_clamp (by omega)]; omega)
              rw [ed, nI_clamp (show q / 4 < 2 ^ 31 by omega), hx]
              by_cases z : w = q / 4
              · subst z
                rw [upd_get, if_pos rfl, hw _ hw5, show min 4 (q - 4 * (q / 4)) = q % 4 by omega, show min 4 (q + 1 - 4 * (q / 4)) = q % 4 + 1 by omega]
                show _ = (pkB B (20 * i + 4 * (q / 4)) (q % 4) <<< ((8 : Int32) &&& 31)) ||| nI (B (20 * i + 4 * (q / 4) + q % 4))
                rw [show 20 * i + 4 * (q / 4) + q % 4 = 20 * i + q by omega]
              · rw [upd_get, if_neg z, hw _ hw5, show min 4 (q + 1 - 4 * w) = min 4 (q - 4 * w) by omega]
            refine ⟨hin, ?_⟩
            rw [nI_add]
            refine ⟨fun z => ⟨hin, fin _ ?_⟩, fun z => ?_⟩
            · have z2 : tn ≤ 20 * i + q := (nI_leI (by omega) (by omega)).mp z
              rw [hhi _ z2 (by omega)]
              rfl
            · have z2 : 20 * i + q < tn := by
                rcases Nat.lt_or_ge (20 * i + q) tn with x | x
                · exact x
                · exact absurd (nI_le x (by omega)) z
              refine ⟨vp_in_nI z2 (by omega), hin, fin _ ?_⟩
              rw [nI_clamp (by omega)]
              exact hlo _ z2
        · rcases (show w = 0 ∨ w = 1 ∨ w = 2 ∨ w = 3 ∨ w = 4 by omega) with rfl | rfl | rfl | rfl | rfl <;> rfl
  exact ⟨20, Nat.le_refl _, key 19 0 inp (by omega) (Nat.zero_le _) (fun j hj => by omega)⟩
end TYPE8
theorem y_load {pl mv : List (Nat × Nat)} {tok : Nat} (hpl : gmPl pl) (h1 : 0 < pl.length) (h9 : pl.length ≤ 9) (hmv : gmMv pl.length pl.length mv) (htok : tok < pl.length) {tf : Nat → Int32}
    (htf : ∀ j, j < ((gmT pl mv ++ wT 8) ++ [48 + tok]).length → tf j = nI (((gmT pl mv ++ wT 8) ++ [48 + tok]).getD j 0))
    {p q m tk md fi ke zk ck er ea rl rk rs re rv ra rp ro rm rt rd : Int32} {inp isS c fr hd to rc rf rh rto : Nat → Int32}
    {post : Int32 → Int32 → Int32 → Int32 → Int32 → Int32 → Int32 → Int32 → Int32 → (Nat → Int32) → (Nat → Int32) → Int32 → Int32 → Int32 → Int32 → Int32 → Int32 → Int32 → Int32 → Int32 → Int32 → (Nat → Int32) → (Nat → Int32) → (Nat → Int32) → (Nat → Int32) → Int32 → Int32 → Int32 → Int32 → Int32 → (Nat → Int32) → (Nat → Int32) → (Nat → Int32) → (Nat → Int32) → Prop}
    (h : ∀ p q m tk md inp isS rl rk rs re rv ra c fr hd to rp ro rm rt rd rc rf rh rto, gOk (pl, mv, tok, 0, hdLay pl tok) → RG (pl, mv, tok, 0, hdLay pl tok) p q m tk md c fr hd to → (∀ s, s < 2 → isS s = 0) → post (nI pl.length) 0 p q m tk md 0 0 inp isS 0 0 0 (-1) rl rk rs re rv ra c fr hd to rp ro rm rt rd rc rf rh rto) :
    wp_L_load ((gmT pl mv ++ wT 8) ++ [48 + tok]).length tf 0 p q m tk md fi ke inp isS zk ck er ea rl rk rs re rv ra c fr hd to rp ro rm rt rd rc rf rh rto post := by
  have hlen := gmT_len pl mv
  have hm3 := hmv.2.2
  have hX : ((gmT pl mv ++ wT 8) ++ [48 + tok]).length ≤ 318 := by
    rw [List.length_append, List.length_append, List.length_singleton]
    have : (wT 8).length = 7 := rfl
    omega
  have hch : ∀ x ∈ (gmT pl mv ++ wT 8) ++ [48 + tok], x < 128 := by
    have hw : ∀ w, w < 9 → ∀ x ∈ wT w, x < 128 := by decide +kernel
    intro x hx
    rcases List.mem_append.mp hx with hx | hx
    · rcases List.mem_append.mp hx with hx | hx
      · unfold gmT at hx
        rcases List.mem_append.mp hx with hx | hx
        · rcases List.mem_append.mp hx with hx | hx
          · exact hw 0 (by decide) x hx
          · obtain ⟨y, hy, hxy⟩ := List.mem_flatMap.mp hx
            have hyp := hpl y hy
            unfold plCh at hxy
            rcases List.mem_append.mp hxy with hxy | hxy
            · split at hxy
              · exact hw 5 (by decide) x hxy
              · exact hw 6 (by decide) x hxy
            · rw [List.mem_singleton.mp hxy]; omega
        · obtain ⟨y, hy, hxy⟩ := List.mem_flatMap.mp hx
          have hyp := hmv.2.1 y hy
          unfold mvCh at hxy
          rcases List.mem_append.mp hxy with hxy | hxy
          · rcases List.mem_append.mp hxy with hxy | hxy
            · rcases List.mem_append.mp hxy with hxy | hxy
              · exact hw 7 (by decide) x hxy
              · rw [List.mem_singleton.mp hxy]; omega
            · rw [List.mem_singleton.mp hxy]; decide
          · rw [List.mem_singleton.mp hxy]; omega
      · exact hw 8 (by decide) x hx
    · rw [List.mem_singleton.mp hx]; omega
  have hrd := fun Z => rd_game (pl := pl) (mv := mv) (tok := tok) Z hpl h1 h9 hmv htok
  generalize (gmT pl mv ++ wT 8) ++ [48 + tok] = X at hX hch hrd htf ⊢
  have hgd : ∀ (Y : List Nat), (∀ x ∈ Y, x < 256) → ∀ j, Y.getD j 0 < 256 := by
    intro Y hY j
    rw [List.getD_eq_getElem?_getD]
    rcases Nat.lt_or_ge j Y.length with y | y
    · rw [List.getElem?_eq_getElem y]
      exact hY _ (List.getElem_mem y)
    · rw [List.getElem?_eq_none y]
      decide
  have hB : ∀ j, (X ++ List.replicate (20 * ((X.length + 19) / 20) - X.length) 32).getD j 0 < 256 := hgd _ (fun x hx => by
    rcases List.mem_append.mp hx with y | y
    · have := hch x y; omega
    · rw [List.eq_of_mem_replicate y]; decide)
  unfold wp_L_load
  refine y_type (B := fun j => (X ++ List.replicate (20 * ((X.length + 19) / 20) - X.length) 32).getD j 0) (by omega) hB (fun j hj => ?_) (fun j hj hj2 => ?_) (fun i' hi' => ?_)
  · rw [htf j hj]
    show nI (X.getD j 0) = nI ((X ++ _).getD j 0)
    rw [List.getD_eq_getElem?_getD, List.getD_eq_getElem?_getD, List.getElem?_append_left hj]
  · show (X ++ _).getD j 0 = 32
    rw [List.getD_eq_getElem?_getD, List.getElem?_append_right hj, List.getElem?_replicate, if_pos (by omega)]
    rfl
  · have ex : ix (nI X.length) = X.length := ix_nI (by omega)
    refine x5_load (T := fun j => (X ++ List.replicate (20 * ((X.length + 19) / 20) - X.length) 32).getD j 0) (by omega) (fun j hj => ⟨hi' j hj, hB j⟩) (fun y => absurd ⟨X.length, by omega, rfl⟩ y) (fun x y rl rk rs re rv ra rp ro rm rt rd rc rf rh rto _ _ _ _ er => ?_) (fun P M L p q m tk md isS rl rk rs re rv ra c fr hd to rp ro rm rt rd rc rf rh rto _ er hg hr hs => ?_)
    · rw [ex, hrd] at er
      exact absurd er (fun z => by cases z)
    · rw [ex, hrd] at er
      have e := Except.ok.inj er
      have e1 : pl = P := congrArg Prod.fst e
      have e2 : mv = M := congrArg (fun z => z.2.1) e
      have e3 : tok = L := congrArg (fun z => z.2.2) e
      subst e1 e2 e3
      exact h _ _ _ _ _ _ _ _ _ _ _ _ _ _ _ _ _ _ _ _ _ _ _ _ _ _ hg hr hs
