/-! what the Statement gives of the start -/
def lwT : Cond := Jvm.Cond.and given_1 narrow_1
abbrev envW : List Cond := [.methodLinkNest RX5 11 yX1_init "ParityGame", .methodLinkNest RX4 11 yX1_init "ParityGame", .methodLinkNest RX2 17 yX1_init "ParityGame", .methodLinkNest RX5 46 yX0_init "ParityGame", .methodLinkNest RX3 51 yX5_has "ParityGame", .methodLinkNest RX0 54 yX5_has "ParityGame", .laysStatic "java/lang/Throwable" "UNASSIGNED_STACK" "[Ljava/lang/StackTraceElement;", .laysStatic "java/lang/Throwable" "SUPPRESSED_SENTINEL" "Ljava/util/List;", .laysStatic "java/lang/String" "COMPACT_STRINGS" "Z", .laysStatic "jdk/internal/util/Preconditions" "SIOOBE_FORMATTER" "Ljava/util/function/BiFunction;", .laysStatic "java/lang/Integer" "DigitOnes" "[B", .initialized "java/lang/Throwable", .initialized "java/lang/String", .initialized "jdk/internal/util/Preconditions", .initialized "java/lang/Integer", .stringRef RX5 101 "the text has an error", .stringRef RX5 154 "what out of range", .stringRef RX5 177 "end out of range", .stringRef RX5 220 "moves out of range", .stringRef RX5 283 "there is such a move", .stringRef RX5 285 "there are 60 moves", .stringRef RX5 293 "a call is 9", .stringRef RX5 295 "the move does not lead from the place of the token", .stringRef RX5 303 "nothing is saved there", .stringRef RX5 308 "there is no change to undo", .stringRef RX5 332 "no such place", .stringRef RX5 335 "no such move", .stringRef RX5 337 "set out of range", .stringRef RX5 339 "player out of range", .stringRef RX5 341 "call out of range", .stringRef RX5 343 "slot out of range", .stringRef RX5 84 "the input buffer is full", .stringRef RX5 94 "length out of range", .stringRef RX4 53 "game", .stringRef RX4 74 "even", .stringRef RX4 79 "odd", .stringRef RX4 81 "move", .stringRef RX4 86 "token", .stringRef RL 52 "game", .stringRef RL 61 ";even ", .stringRef RL 63 ";odd ", .stringRef RL 72 ";move ", .stringRef RL 77 ";token ", .castable "java/lang/IllegalArgumentException" "java/lang/IllegalArgumentException", .castable "java/lang/IllegalStateException" "java/lang/IllegalStateException", .castable "java/util/NoSuchElementException" "java/util/NoSuchElementException", .castable "[B" "java/lang/Cloneable", .declares ⟨"java/lang/RuntimeException", "<init>", "(Ljava/lang/String;)V"⟩, .declares ⟨"java/lang/Exception", "<init>", "(Ljava/lang/String;)V"⟩, .declares ⟨"java/lang/Throwable", "<init>", "(Ljava/lang/String;)V"⟩, .declares ⟨"java/lang/RuntimeException", "<init>", "()V"⟩, .declares ⟨"java/lang/Exception", "<init>", "()V"⟩, .declares ⟨"java/lang/Throwable", "<init>", "()V"⟩, .arrayOver (.object "ParityGame$Game"), .arrayClass .int, .arrayClass .boolean, .arrayClass .byte, .instantiable RX0 5, .instantiable RX1 9, .instantiable RX2 3, .instantiable RX3 5, .instantiable RX4 10, .instantiable RX5 12, .instantiable RJ0 4, .instantiable RJ4 4]
theorem env_tb : ∀ w ∈ envW, w ∈ lw_tbl2 := goodIn_m lw_tC lw_tC_in _ [(3, 35), (3, 96), (3, 137), (3, 151), (7, 38), (7, 94), (4, 66), (4, 68), (4, 175), (4, 191), (6, 51), (3, 19), (3, 9), (3, 15), (3, 18), (5, 73), (4, 80), (6, 231), (7, 68), (5, 137), (5, 138), (7, 156), (5, 118), (4, 123), (5, 85), (5, 135), (5, 111), (6, 162), (6, 157), (6, 181), (4, 113), (4, 218), (4, 227), (5, 19), (5, 34), (5, 44), (5, 45), (5, 67), (5, 144), (6, 34), (6, 35), (6, 62), (6, 76), (4, 41), (4, 116), (5, 104), (5, 204), (4, 43), (4, 45), (4, 47), (4, 42), (4, 44), (4, 46), (3, 136), (3, 88), (3, 173), (4, 5), (3, 150), (3, 34), (3, 130), (3, 175), (3, 90), (3, 26), (6, 82), (5, 143)] (by decide +kernel)
def gTm (i : Nat) : Term := if i < 5 then .string RX4 ([53, 74, 79, 81, 86].getD i 0) else .string RL ([61, 63, 72, 77].getD (i - 5) 0)
def gTd : Term := .static "java/lang/Integer" "DigitOnes" "[B"
theorem env_in : ∀ ch ∈ [flatC lwT], ∀ c ∈ ch, c ∈ flatC lwT := fun ch h c hc => by rw [List.mem_singleton.mp h] at hc; exact hc
theorem env_ex0 : ∀ w ∈ (List.range 9).map (fun i => Cond.exactly (gTm i) "java/lang/String"), w ∈ flatC lwT := goodIn_m [flatC lwT] env_in _ [(0, 366), (0, 374), (0, 382), (0, 389), (0, 397), (0, 603), (0, 613), (0, 622), (0, 632)] (by decide +kernel)
theorem env_ex : ∀ i, i < 9 → Cond.exactly (gTm i) "java/lang/String" ∈ flatC lwT := fun i hi => env_ex0 _ (List.mem_map.mpr ⟨i, List.mem_range.mpr hi, rfl⟩)
theorem env_co0 : ∀ w ∈ (List.range 9).map (fun i => Cond.eq (.field (gTm i) "java/lang/String" "coder" "B") (.int 0)), w ∈ flatC lwT := goodIn_m [flatC lwT] env_in _ [(0, 367), (0, 375), (0, 383), (0, 390), (0, 398), (0, 604), (0, 614), (0, 623), (0, 633)] (by decide +kernel)
theorem env_co : ∀ i, i < 9 → Cond.eq (.field (gTm i) "java/lang/String" "coder" "B") (.int 0) ∈ flatC lwT := fun i hi => env_co0 _ (List.mem_map.mpr ⟨i, List.mem_range.mpr hi, rfl⟩)
theorem env_ar0 : ∀ w ∈ (List.range 9).map (fun i => Cond.arrayOf (.field (gTm i) "java/lang/String" "value" "[B") .byte), w ∈ flatC lwT := goodIn_m [flatC lwT] env_in _ [(0, 368), (0, 376), (0, 384), (0, 391), (0, 399), (0, 605), (0, 615), (0, 624), (0, 634)] (by decide +kernel)
theorem env_ar : ∀ i, i < 9 → Cond.arrayOf (.field (gTm i) "java/lang/String" "value" "[B") .byte ∈ flatC lwT := fun i hi => env_ar0 _ (List.mem_map.mpr ⟨i, List.mem_range.mpr hi, rfl⟩)
theorem env_le0 : ∀ w ∈ (List.range 9).map (fun i => Cond.eq (.length (.field (gTm i) "java/lang/String" "value" "[B")) (.int (Int32.ofNat (gLen.getD i 0)))), w ∈ flatC lwT := goodIn_m [flatC lwT] env_in _ [(0, 369), (0, 377), (0, 385), (0, 392), (0, 400), (0, 606), (0, 616), (0, 625), (0, 635)] (by decide +kernel)
theorem env_le : ∀ i, i < 9 → Cond.eq (.length (.field (gTm i) "java/lang/String" "value" "[B")) (.int (Int32.ofNat (gLen.getD i 0))) ∈ flatC lwT := fun i hi => env_le0 _ (List.mem_map.mpr ⟨i, List.mem_range.mpr hi, rfl⟩)
theorem env_el0 : ∀ w ∈ (List.range 9).flatMap (fun i => (List.range (gLen.getD i 0)).map (fun j => Cond.eq (.elem (.field (gTm i) "java/lang/String" "value" "[B") (.int (Int32.ofNat j))) (.int ((gByt.getD i []).getD j 0)))), w ∈ flatC lwT := goodIn_m [flatC lwT] env_in _ [(0, 370), (0, 371), (0, 372), (0, 373), (0, 378), (0, 379), (0, 380), (0, 381), (0, 386), (0, 387), (0, 388), (0, 393), (0, 394), (0, 395), (0, 396), (0, 401), (0, 402), (0, 403), (0, 404), (0, 405), (0, 607), (0, 608), (0, 609), (0, 610), (0, 611), (0, 612), (0, 617), (0, 618), (0, 619), (0, 620), (0, 621), (0, 626), (0, 627), (0, 628), (0, 629), (0, 630), (0, 631), (0, 636), (0, 637), (0, 638), (0, 639), (0, 640), (0, 641), (0, 642)] (by decide +kernel)
theorem env_el : ∀ i, i < 9 → ∀ j, j < gLen.getD i 0 → Cond.eq (.elem (.field (gTm i) "java/lang/String" "value" "[B") (.int (Int32.ofNat j))) (.int ((gByt.getD i []).getD j 0)) ∈ flatC lwT := fun i hi j hj => env_el0 _ (List.mem_flatMap.mpr ⟨i, List.mem_range.mpr hi, List.mem_map.mpr ⟨j, List.mem_range.mpr hj, rfl⟩⟩)
theorem env_dd : ∀ w ∈ [Cond.arrayOf gTd .byte, Cond.eq (.length gTd) (.int (Int32.ofNat 100)), Cond.eq (.string RX4 53) (.string RL 52)], w ∈ flatC lwT := goodIn_m [flatC lwT] env_in _ [(0, 12), (0, 13), (0, 602)] (by decide +kernel)
theorem env_da : Cond.arrayOf gTd .byte ∈ flatC lwT := env_dd _ (List.mem_of_getElem? (i := 0) rfl)
theorem env_dl : Cond.eq (.length gTd) (.int (Int32.ofNat 100)) ∈ flatC lwT := env_dd _ (List.mem_of_getElem? (i := 1) rfl)
theorem env_two : Cond.eq (.string RX4 53) (.string RL 52) ∈ flatC lwT := env_dd _ (List.mem_of_getElem? (i := 2) rfl)
theorem env_de0 : ∀ w ∈ (List.range 100).map (fun j => Cond.eq (.elem gTd (.int (Int32.ofNat j))) (.int (gDg j))), w ∈ flatC lwT := goodIn_m [flatC lwT] env_in _ [(0, 14), (0, 15), (0, 16), (0, 17), (0, 18), (0, 19), (0, 20), (0, 21), (0, 22), (0, 23), (0, 24), (0, 25), (0, 26), (0, 27), (0, 28), (0, 29), (0, 30), (0, 31), (0, 32), (0, 33), (0, 34), (0, 35), (0, 36), (0, 37), (0, 38), (0, 39), (0, 40), (0, 41), (0, 42), (0, 43), (0, 44), (0, 45), (0, 46), (0, 47), (0, 48), (0, 49), (0, 50), (0, 51), (0, 52), (0, 53), (0, 54), (0, 55), (0, 56), (0, 57), (0, 58), (0, 59), (0, 60), (0, 61), (0, 62), (0, 63), (0, 64), (0, 65), (0, 66), (0, 67), (0, 68), (0, 69), (0, 70), (0, 71), (0, 72), (0, 73), (0, 74), (0, 75), (0, 76), (0, 77), (0, 78), (0, 79), (0, 80), (0, 81), (0, 82), (0, 83), (0, 84), (0, 85), (0, 86), (0, 87), (0, 88), (0, 89), (0, 90), (0, 91), (0, 92), (0, 93), (0, 94), (0, 95), (0, 96), (0, 97), (0, 98), (0, 99), (0, 100), (0, 101), (0, 102), (0, 103), (0, 104), (0, 105), (0, 106), (0, 107), (0, 108), (0, 109), (0, 110), (0, 111), (0, 112), (0, 113)] (by decide +kernel)
theorem env_de : ∀ j, j < 100 → Cond.eq (.elem gTd (.int (Int32.ofNat j))) (.int (gDg j)) ∈ flatC lwT := fun j hj => env_de0 _ (List.mem_map.mpr ⟨j, List.mem_range.mpr hj, rfl⟩)
theorem env_tx0 : ∀ w ∈ gTx.map (fun q => Cond.exactly (.string RX5 q.1) "java/lang/String"), w ∈ flatC lwT := goodIn_m [flatC lwT] env_in _ [(0, 406), (0, 247), (0, 714), (0, 734), (0, 548), (0, 572), (0, 756), (0, 477), (0, 289), (0, 431), (0, 531), (0, 461), (0, 673), (0, 650), (0, 693), (0, 268), (0, 315), (0, 343)] (by decide +kernel)
theorem env_tx : ∀ q ∈ gTx, Cond.exactly (.string RX5 q.1) "java/lang/String" ∈ flatC lwT := fun q hq => env_tx0 _ (List.mem_map.mpr ⟨q, hq, rfl⟩)
theorem env_nc0 : ∀ w ∈ gNc.map (fun q => Cond.not (.castable q.1 q.2)), w ∈ flatC lwT := goodIn_m [flatC lwT] env_in _ [(0, 235), (0, 245), (0, 225), (0, 246), (0, 226), (0, 236)] (by decide +kernel)
theorem env_nc : ∀ q ∈ gNc, Cond.not (.castable q.1 q.2) ∈ flatC lwT := fun q hq => env_nc0 _ (List.mem_map.mpr ⟨q, hq, rfl⟩)
theorem env_first : ∀ i, i < 9 → ∀ j, j < 9 → (gByt.getD i []).getD 0 0 = (gByt.getD j []).getD 0 0 → (gByt.getD i []).getD 1 0 = (gByt.getD j []).getD 1 0 → i = j := by decide +kernel
theorem env_len : ∀ i, i < 9 → 1 < gLen.getD i 0 ∧ gLen.getD i 0 < 2 ^ 31 := by decide +kernel
theorem env_same {args : Array Value} {s : State} {t t' : Term} {a : Nat} (h : (Cond.eq t t').before args s = true) (h1 : t.eval args s none [] s = some (.ref a)) : t'.eval args s none [] s = some (.ref a) := by
  cases hv : t'.eval args s none [] s with
  | none => simp [Cond.before, Cond.holds, Cond.value, h1, hv] at h
  | some w =>
    simp only [Cond.before, Cond.holds, Cond.value, h1, hv] at h
    cases w <;> simp_all
theorem env_str {args : Array Value} {s : State} {A : Nat → Prop} (hs : ∀ w ∈ flatC lwT, w.before args s = true) (hA : ∀ a : Nat, a < s.heap.size → ¬ A a) :
    ∃ adK adV : Nat → Nat, vk_S 9 gLen gByt adK adV A s s.heap ∧ ∀ i : Nat, i < 9 → (gTm i).eval args s none [] s = some (.ref (adK i)) := by
  refine vk_Sof (tm := gTm) (fun i hi => (env_len i hi).2) (fun i hi => hs _ (env_ex i hi)) (fun i hi => hs _ (env_co i hi)) (fun i hi => hs _ (env_ar i hi)) (fun i hi => hs _ (env_le i hi)) (fun i hi j hj => hs _ (env_el i hi j hj)) (fun i j hi hj hij => Or.inl ?_) hA
  obtain ⟨a, c, cA, kA, q1, -⟩ := Cond.exactly_spec (args := args) (first := s) (o := none) (s := s) (idx := []) (t := gTm i) (cls := "java/lang/String") (hs _ (env_ex i hi))
  obtain ⟨a', c', cA', kA', q1', -⟩ := Cond.exactly_spec (args := args) (first := s) (o := none) (s := s) (idx := []) (t := gTm j) (cls := "java/lang/String") (hs _ (env_ex j hj))
  have hab : ¬ a = a' := by
    intro e
    have e1 : (gTm i).eval args s none [] s = (gTm j).eval args s none [] s := by rw [q1, q1', e]
    have key : ∀ k, k < gLen.getD i 0 → k < gLen.getD j 0 → (gByt.getD i []).getD k 0 = (gByt.getD j []).getD k 0 := by
      intro k h1 h2
      have e2 := va_eqt (hs _ (env_el i hi k h1))
      have e3 := va_eqt (hs _ (env_el j hj k h2))
      have e4 : (Term.elem (.field (gTm i) "java/lang/String" "value" "[B") (.int (Int32.ofNat k))).eval args s none [] s = (Term.elem (.field (gTm j) "java/lang/String" "value" "[B") (.int (Int32.ofNat k))).eval args s none [] s := by
        simp only [Term.eval, e1]
      rw [e2, e3] at e4
      exact Value.int.inj (Option.some.inj e4)
    have l1 := (env_len i hi).1
    have l2 := (env_len j hj).1
    exact hij (env_first i hi j hj (key 0 (by omega) (by omega)) (key 1 l1 l2))
  simp [Cond.before, Cond.holds, Cond.value, q1, q1', hab]
theorem env_arr {args : Array Value} {s : State} {ty : FieldType} (h : (Cond.arrayClass ty).before args s = true) : ∃ cA : ClassId, s.vm.findClass ("[" ++ ty.toString) = some cA ∧ ArrOfT s cA ty := by
  obtain ⟨c, k, comp, h1, h2, h3⟩ := Cond.arrayClass_spec h
  exact ⟨c, h1, fun n z => ⟨fun k h => (by cases h), k, h2, comp, h3⟩⟩
theorem env_obj {args : Array Value} {s : State} {C : String} (h : (Cond.arrayOver (.object C)).before args s = true) : ∃ cA : ClassId, ArrOfT s cA (.object C) ∧ va_RA s cA (.object C) := by
  obtain ⟨comp, c, k, h1, h2, h3, h4, h5⟩ := Cond.arrayOver_spec h
  exact ⟨c, fun n z => ⟨fun k h => (by cases h), k, h3, comp, h4⟩, k, comp, h3, h4, h1, h5⟩
theorem law_env {args : Array Value} {s : State} (hts : ∀ w ∈ lw_tbl2, w.before args s = true) (hs : ∀ w ∈ flatC lwT, w.before args s = true) :
    ∃ (D : va_G) (X : gX) (cI cZ cB cG : ClassId), va_K D vwCl (gT cI cZ cB cG) s ∧ gE X (fun q => s.heap.size ≤ q) s s.heap ∧ gN s ∧ va_AO "ParityGame$Game" s := by
  have hA : ∀ a : Nat, a < s.heap.size → ¬ s.heap.size ≤ a := fun a h => Nat.not_le.mpr h
  obtain ⟨adK, adV, hstr, hev⟩ := env_str (A := fun q => s.heap.size ≤ q) hs hA
  obtain ⟨c0, i0, hk0⟩ := u_known (C := RX0) (T := TX0) (N := 5) (n := 5) hts inX0 (hts _ (env_tb _ (List.mem_of_getElem? (i := 57) rfl)))
  obtain ⟨c1, i1, hk1⟩ := u_known (C := RX1) (T := TX1) (N := 9) (n := 9) hts inX1 (hts _ (env_tb _ (List.mem_of_getElem? (i := 58) rfl)))
  obtain ⟨c2, i2, hk2⟩ := u_known (C := RX2) (T := TX2) (N := 3) (n := 3) hts inX2 (hts _ (env_tb _ (List.mem_of_getElem? (i := 59) rfl)))
  obtain ⟨c3, i3, hk3⟩ := u_known (C := RX3) (T := TX3) (N := 5) (n := 5) hts inX3 (hts _ (env_tb _ (List.mem_of_getElem? (i := 60) rfl)))
  obtain ⟨c4, i4, hk4⟩ := u_known (C := RX4) (T := TX4) (N := 10) (n := 10) hts inX4 (hts _ (env_tb _ (List.mem_of_getElem? (i := 61) rfl)))
  obtain ⟨c5, i5, hk5⟩ := u_known (C := RX5) (T := TX5) (N := 12) (n := 12) hts inX5 (hts _ (env_tb _ (List.mem_of_getElem? (i := 62) rfl)))
  obtain ⟨c6, i6, hk6⟩ := u_known (C := RJ0) (T := TJ0) (N := 4) (n := 4) hts inJ0 (hts _ (env_tb _ (List.mem_of_getElem? (i := 63) rfl)))
  obtain ⟨c7, i7, hk7⟩ := u_known (C := RJ4) (T := TJ4) (N := 4) (n := 4) hts inJ4 (hts _ (env_tb _ (List.mem_of_getElem? (i := 64) rfl)))
  obtain ⟨dC, dI, hKc⟩ : ∃ (dC : Nat → ClassId) (dI : Nat → Nat → Nat), ∀ (k : Nat) (q : vw_C), vwCl[k]? = some q → u_Kn s q.1 q.2.1 q.2.2 (dC k) (dI k) := by
    refine ⟨fun k => match k with | 0 => c0 | 1 => c1 | 2 => c2 | 3 => c3 | 4 => c4 | 5 => c5 | 6 => c6 | _ => c7, fun k => match k with | 0 => i0 | 1 => i1 | 2 => i2 | 3 => i3 | 4 => i4 | 5 => i5 | 6 => i6 | _ => i7, ?_⟩
    intro k q hq
    match k, hq with
    | 0, hq => cases hq; exact hk0
    | 1, hq => cases hq; exact hk1
    | 2, hq => cases hq; exact hk2
    | 3, hq => cases hq; exact hk3
    | 4, hq => cases hq; exact hk4
    | 5, hq => cases hq; exact hk5
    | 6, hq => cases hq; exact hk6
    | 7, hq => cases hq; exact hk7
    | k + 8, hq => simp [vwCl] at hq
  obtain ⟨cI, nmI, aI⟩ := env_arr (hts _ (env_tb _ (List.mem_of_getElem? (i := 54) rfl)))
  obtain ⟨cZ, nZ, aZ⟩ := env_arr (hts _ (env_tb _ (List.mem_of_getElem? (i := 55) rfl)))
  obtain ⟨cB, nB, aB⟩ := env_arr (hts _ (env_tb _ (List.mem_of_getElem? (i := 56) rfl)))
  obtain ⟨cG, aG, rG⟩ := env_obj (hts _ (env_tb _ (List.mem_of_getElem? (i := 53) rfl)))
  refine ⟨(dC, dI), (adK, adV), cI, cZ, cB, cG, ⟨hKc, fun k q hq => ?_⟩, ?_, ?_, ?_⟩
  · match k, hq with
    | 0, hq => cases hq; exact ⟨aI, nmI⟩
    | 1, hq => cases hq; exact ⟨aZ, nZ⟩
    | 2, hq => cases hq; exact ⟨aB, nB⟩
    | 3, hq => cases hq; exact ⟨aG, rG⟩
    | k + 4, hq => simp at hq
  · refine ⟨?_, ?_, ?_, ?_, ?_, hstr, ?_, ?_, ?_, ?_, ?_, ?_, ?_⟩
    · intro q hq
      simp only [gNs, List.mem_cons, List.not_mem_nil, or_false] at hq
      rcases hq with rfl | rfl | rfl | rfl | rfl | rfl
      · exact va_tabs rfl rfl (hts _ (env_tb _ (List.mem_of_getElem? (i := 0) rfl)))
      · exact va_tabs rfl rfl (hts _ (env_tb _ (List.mem_of_getElem? (i := 1) rfl)))
      · exact va_tabs rfl rfl (hts _ (env_tb _ (List.mem_of_getElem? (i := 2) rfl)))
      · exact va_tabs rfl rfl (hts _ (env_tb _ (List.mem_of_getElem? (i := 3) rfl)))
      · exact va_tabs rfl rfl (hts _ (env_tb _ (List.mem_of_getElem? (i := 4) rfl)))
      · exact va_tabs rfl rfl (hts _ (env_tb _ (List.mem_of_getElem? (i := 5) rfl)))
    · exact vx_Zqof (hts _ (env_tb _ (List.mem_of_getElem? (i := 6) rfl))) (hts _ (env_tb _ (List.mem_of_getElem? (i := 11) rfl))) (hs (.isRef (.static "java/lang/Throwable" "UNASSIGNED_STACK" "[Ljava/lang/StackTraceElement;")) (by decide +kernel)) hA
    · exact vx_Zqof (hts _ (env_tb _ (List.mem_of_getElem? (i := 7) rfl))) (hts _ (env_tb _ (List.mem_of_getElem? (i := 11) rfl))) (hs (.isRef (.static "java/lang/Throwable" "SUPPRESSED_SENTINEL" "Ljava/util/List;")) (by decide +kernel)) hA
    · intro q hq
      simp only [gTx, List.mem_cons, List.not_mem_nil, or_false] at hq
      rcases hq with rfl | rfl | rfl | rfl | rfl | rfl | rfl | rfl | rfl | rfl | rfl | rfl | rfl | rfl | rfl | rfl | rfl | rfl
      · obtain ⟨a, _, _, _, q1, -⟩ := Cond.exactly_spec (args := args) (first := s) (o := none) (s := s) (idx := []) (t := .string RX5 101) (cls := "java/lang/String") (hs _ (env_tx (101, "the text has an error") (List.mem_of_getElem? (i := 0) rfl)))
        exact ⟨a, vk_R.of (hts _ (env_tb _ (List.mem_of_getElem? (i := 15) rfl))) q1⟩
      · obtain ⟨a, _, _, _, q1, -⟩ := Cond.exactly_spec (args := args) (first := s) (o := none) (s := s) (idx := []) (t := .string RX5 154) (cls := "java/lang/String") (hs _ (env_tx (154, "what out of range") (List.mem_of_getElem? (i := 1) rfl)))
        exact ⟨a, vk_R.of (hts _ (env_tb _ (List.mem_of_getElem? (i := 16) rfl))) q1⟩
      · obtain ⟨a, _, _, _, q1, -⟩ := Cond.exactly_spec (args := args) (first := s) (o := none) (s := s) (idx := []) (t := .string RX5 177) (cls := "java/lang/String") (hs _ (env_tx (177, "end out of range") (List.mem_of_getElem? (i := 2) rfl)))
        exact ⟨a, vk_R.of (hts _ (env_tb _ (List.mem_of_getElem? (i := 17) rfl))) q1⟩
      · obtain ⟨a, _, _, _, q1, -⟩ := Cond.exactly_spec (args := args) (first := s) (o := none) (s := s) (idx := []) (t := .string RX5 220) (cls := "java/lang/String") (hs _ (env_tx (220, "moves out of range") (List.mem_of_getElem? (i := 3) rfl)))
        exact ⟨a, vk_R.of (hts _ (env_tb _ (List.mem_of_getElem? (i := 18) rfl))) q1⟩
      · obtain ⟨a, _, _, _, q1, -⟩ := Cond.exactly_spec (args := args) (first := s) (o := none) (s := s) (idx := []) (t := .string RX5 283) (cls := "java/lang/String") (hs _ (env_tx (283, "there is such a move") (List.mem_of_getElem? (i := 4) rfl)))
        exact ⟨a, vk_R.of (hts _ (env_tb _ (List.mem_of_getElem? (i := 19) rfl))) q1⟩
      · obtain ⟨a, _, _, _, q1, -⟩ := Cond.exactly_spec (args := args) (first := s) (o := none) (s := s) (idx := []) (t := .string RX5 285) (cls := "java/lang/String") (hs _ (env_tx (285, "there are 60 moves") (List.mem_of_getElem? (i := 5) rfl)))
        exact ⟨a, vk_R.of (hts _ (env_tb _ (List.mem_of_getElem? (i := 20) rfl))) q1⟩
      · obtain ⟨a, _, _, _, q1, -⟩ := Cond.exactly_spec (args := args) (first := s) (o := none) (s := s) (idx := []) (t := .string RX5 293) (cls := "java/lang/String") (hs _ (env_tx (293, "a call is 9") (List.mem_of_getElem? (i := 6) rfl)))
        exact ⟨a, vk_R.of (hts _ (env_tb _ (List.mem_of_getElem? (i := 21) rfl))) q1⟩
      · obtain ⟨a, _, _, _, q1, -⟩ := Cond.exactly_spec (args := args) (first := s) (o := none) (s := s) (idx := []) (t := .string RX5 295) (cls := "java/lang/String") (hs _ (env_tx (295, "the move does not lead from the place of the token") (List.mem_of_getElem? (i := 7) rfl)))
        exact ⟨a, vk_R.of (hts _ (env_tb _ (List.mem_of_getElem? (i := 22) rfl))) q1⟩
      · obtain ⟨a, _, _, _, q1, -⟩ := Cond.exactly_spec (args := args) (first := s) (o := none) (s := s) (idx := []) (t := .string RX5 303) (cls := "java/lang/String") (hs _ (env_tx (303, "nothing is saved there") (List.mem_of_getElem? (i := 8) rfl)))
        exact ⟨a, vk_R.of (hts _ (env_tb _ (List.mem_of_getElem? (i := 23) rfl))) q1⟩
      · obtain ⟨a, _, _, _, q1, -⟩ := Cond.exactly_spec (args := args) (first := s) (o := none) (s := s) (idx := []) (t := .string RX5 308) (cls := "java/lang/String") (hs _ (env_tx (308, "there is no change to undo") (List.mem_of_getElem? (i := 9) rfl)))
        exact ⟨a, vk_R.of (hts _ (env_tb _ (List.mem_of_getElem? (i := 24) rfl))) q1⟩
      · obtain ⟨a, _, _, _, q1, -⟩ := Cond.exactly_spec (args := args) (first := s) (o := none) (s := s) (idx := []) (t := .string RX5 332) (cls := "java/lang/String") (hs _ (env_tx (332, "no such place") (List.mem_of_getElem? (i := 10) rfl)))
        exact ⟨a, vk_R.of (hts _ (env_tb _ (List.mem_of_getElem? (i := 25) rfl))) q1⟩
      · obtain ⟨a, _, _, _, q1, -⟩ := Cond.exactly_spec (args := args) (first := s) (o := none) (s := s) (idx := []) (t := .string RX5 335) (cls := "java/lang/String") (hs _ (env_tx (335, "no such move") (List.mem_of_getElem? (i := 11) rfl)))
        exact ⟨a, vk_R.of (hts _ (env_tb _ (List.mem_of_getElem? (i := 26) rfl))) q1⟩
      · obtain ⟨a, _, _, _, q1, -⟩ := Cond.exactly_spec (args := args) (first := s) (o := none) (s := s) (idx := []) (t := .string RX5 337) (cls := "java/lang/String") (hs _ (env_tx (337, "set out of range") (List.mem_of_getElem? (i := 12) rfl)))
        exact ⟨a, vk_R.of (hts _ (env_tb _ (List.mem_of_getElem? (i := 27) rfl))) q1⟩
      · obtain ⟨a, _, _, _, q1, -⟩ := Cond.exactly_spec (args := args) (first := s) (o := none) (s := s) (idx := []) (t := .string RX5 339) (cls := "java/lang/String") (hs _ (env_tx (339, "player out of range") (List.mem_of_getElem? (i := 13) rfl)))
        exact ⟨a, vk_R.of (hts _ (env_tb _ (List.mem_of_getElem? (i := 28) rfl))) q1⟩
      · obtain ⟨a, _, _, _, q1, -⟩ := Cond.exactly_spec (args := args) (first := s) (o := none) (s := s) (idx := []) (t := .string RX5 341) (cls := "java/lang/String") (hs _ (env_tx (341, "call out of range") (List.mem_of_getElem? (i := 14) rfl)))
        exact ⟨a, vk_R.of (hts _ (env_tb _ (List.mem_of_getElem? (i := 29) rfl))) q1⟩
      · obtain ⟨a, _, _, _, q1, -⟩ := Cond.exactly_spec (args := args) (first := s) (o := none) (s := s) (idx := []) (t := .string RX5 343) (cls := "java/lang/String") (hs _ (env_tx (343, "slot out of range") (List.mem_of_getElem? (i := 15) rfl)))
        exact ⟨a, vk_R.of (hts _ (env_tb _ (List.mem_of_getElem? (i := 30) rfl))) q1⟩
      · obtain ⟨a, _, _, _, q1, -⟩ := Cond.exactly_spec (args := args) (first := s) (o := none) (s := s) (idx := []) (t := .string RX5 84) (cls := "java/lang/String") (hs _ (env_tx (84, "the input buffer is full") (List.mem_of_getElem? (i := 16) rfl)))
        exact ⟨a, vk_R.of (hts _ (env_tb _ (List.mem_of_getElem? (i := 31) rfl))) q1⟩
      · obtain ⟨a, _, _, _, q1, -⟩ := Cond.exactly_spec (args := args) (first := s) (o := none) (s := s) (idx := []) (t := .string RX5 94) (cls := "java/lang/String") (hs _ (env_tx (94, "length out of range") (List.mem_of_getElem? (i := 17) rfl)))
        exact ⟨a, vk_R.of (hts _ (env_tb _ (List.mem_of_getElem? (i := 32) rfl))) q1⟩
    · intro q hq
      simp only [gWd, List.mem_cons, List.not_mem_nil, or_false] at hq
      rcases hq with rfl | rfl | rfl | rfl | rfl
      · exact vk_R.of (hts _ (env_tb _ (List.mem_of_getElem? (i := 33) rfl))) (hev 0 (by decide))
      · exact vk_R.of (hts _ (env_tb _ (List.mem_of_getElem? (i := 34) rfl))) (hev 1 (by decide))
      · exact vk_R.of (hts _ (env_tb _ (List.mem_of_getElem? (i := 35) rfl))) (hev 2 (by decide))
      · exact vk_R.of (hts _ (env_tb _ (List.mem_of_getElem? (i := 36) rfl))) (hev 3 (by decide))
      · exact vk_R.of (hts _ (env_tb _ (List.mem_of_getElem? (i := 37) rfl))) (hev 4 (by decide))
    · intro q hq
      simp only [gXc, List.mem_cons, List.not_mem_nil, or_false] at hq
      rcases hq with rfl | rfl | rfl
      · exact va_tabs rfl rfl (hts _ (env_tb _ (List.mem_of_getElem? (i := 43) rfl)))
      · exact va_tabs rfl rfl (hts _ (env_tb _ (List.mem_of_getElem? (i := 44) rfl)))
      · exact va_tabs rfl rfl (hts _ (env_tb _ (List.mem_of_getElem? (i := 45) rfl)))
    · intro q hq
      simp only [gXd, List.mem_cons, List.not_mem_nil, or_false] at hq
      rcases hq with rfl | rfl | rfl | rfl | rfl | rfl
      · exact va_tabs rfl rfl (hts _ (env_tb _ (List.mem_of_getElem? (i := 47) rfl)))
      · exact va_tabs rfl rfl (hts _ (env_tb _ (List.mem_of_getElem? (i := 48) rfl)))
      · exact va_tabs rfl rfl (hts _ (env_tb _ (List.mem_of_getElem? (i := 49) rfl)))
      · exact va_tabs rfl rfl (hts _ (env_tb _ (List.mem_of_getElem? (i := 50) rfl)))
      · exact va_tabs rfl rfl (hts _ (env_tb _ (List.mem_of_getElem? (i := 51) rfl)))
      · exact va_tabs rfl rfl (hts _ (env_tb _ (List.mem_of_getElem? (i := 52) rfl)))
    · exact va_Zof (hts _ (env_tb _ (List.mem_of_getElem? (i := 8) rfl))) (hts _ (env_tb _ (List.mem_of_getElem? (i := 12) rfl))) (va_eqt (hs (.eq (.static "java/lang/String" "COMPACT_STRINGS" "Z") (.int 1)) (by decide +kernel))) hA
    · exact va_Zqof (hts _ (env_tb _ (List.mem_of_getElem? (i := 9) rfl))) (hts _ (env_tb _ (List.mem_of_getElem? (i := 13) rfl))) (hs (.isRef (.static "jdk/internal/util/Preconditions" "SIOOBE_FORMATTER" "Ljava/util/function/BiFunction;")) (by decide +kernel)) hA
    · intro q hq
      simp only [gWl, List.mem_cons, List.not_mem_nil, or_false] at hq
      rcases hq with rfl | rfl | rfl | rfl | rfl
      · exact vk_R.of (hts _ (env_tb _ (List.mem_of_getElem? (i := 38) rfl))) (env_same (hs _ env_two) (hev 0 (by decide)))
      · exact vk_R.of (hts _ (env_tb _ (List.mem_of_getElem? (i := 39) rfl))) (hev 5 (by decide))
      · exact vk_R.of (hts _ (env_tb _ (List.mem_of_getElem? (i := 40) rfl))) (hev 6 (by decide))
      · exact vk_R.of (hts _ (env_tb _ (List.mem_of_getElem? (i := 41) rfl))) (hev 7 (by decide))
      · exact vk_R.of (hts _ (env_tb _ (List.mem_of_getElem? (i := 42) rfl))) (hev 8 (by decide))
    · exact va_tabs rfl rfl (hts _ (env_tb _ (List.mem_of_getElem? (i := 46) rfl)))
    · obtain ⟨qo, h1, h2⟩ := va_Tof (tm := gTd) (ty := .byte) (N := 100) (f := fun j => .int (gDg j)) (by decide) (hs _ env_da) (va_eqt (hs _ env_dl)) (fun j hj => va_eqt (hs _ (env_de j hj))) hA
      exact ⟨qo, va_Zof (hts _ (env_tb _ (List.mem_of_getElem? (i := 10) rfl))) (hts _ (env_tb _ (List.mem_of_getElem? (i := 14) rfl))) h1 hA, h2⟩
  · exact fun q hq => va_Nc.of (hs _ (env_nc q hq))
  · exact va_AO.of (hts _ (env_tb _ (List.mem_of_getElem? (i := 53) rfl)))
