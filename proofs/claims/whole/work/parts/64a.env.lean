/-! what the Statement gives of the start -/
def lwT : Cond := Jvm.Cond.and given_1 narrow_1
abbrev envW : List Cond := [.methodLinkNest RX5 11 yX1_init "ParityGame", .methodLinkNest RX4 11 yX1_init "ParityGame", .methodLinkNest RX2 17 yX1_init "ParityGame", .methodLinkNest RX5 46 yX0_init "ParityGame", .methodLinkNest RX3 51 yX5_has "ParityGame", .methodLinkNest RX0 54 yX5_has "ParityGame", .laysStatic "java/lang/Throwable" "UNASSIGNED_STACK" "[Ljava/lang/StackTraceElement;", .laysStatic "java/lang/Throwable" "SUPPRESSED_SENTINEL" "Ljava/util/List;", .laysStatic "java/lang/String" "COMPACT_STRINGS" "Z", .laysStatic "jdk/internal/util/Preconditions" "SIOOBE_FORMATTER" "Ljava/util/function/BiFunction;", .initialized "java/lang/Throwable", .initialized "java/lang/String", .initialized "jdk/internal/util/Preconditions", .stringRef RX5 101 "the text has an error", .stringRef RX5 154 "what out of range", .stringRef RX5 177 "end out of range", .stringRef RX5 220 "moves out of range", .stringRef RX5 270 "there are 20 places", .stringRef RX5 275 "it is the only place", .stringRef RX5 283 "there is such a move", .stringRef RX5 285 "there are 60 moves", .stringRef RX5 293 "a call is 9", .stringRef RX5 295 "the move does not lead from the place of the token", .stringRef RX5 303 "nothing is saved there", .stringRef RX5 308 "there is no change to undo", .stringRef RX5 324 "index out of range", .stringRef RX5 332 "no such place", .stringRef RX5 335 "no such move", .stringRef RX5 337 "set out of range", .stringRef RX5 339 "player out of range", .stringRef RX5 341 "call out of range", .stringRef RX5 343 "slot out of range", .stringRef RX5 84 "the input buffer is full", .stringRef RX5 94 "length out of range", .stringRef RX4 53 "game", .stringRef RX4 74 "even", .stringRef RX4 79 "odd", .stringRef RX4 81 "move", .stringRef RX4 86 "token", .castable "java/lang/IllegalArgumentException" "java/lang/IllegalArgumentException", .castable "java/lang/IllegalStateException" "java/lang/IllegalStateException", .castable "java/util/NoSuchElementException" "java/util/NoSuchElementException", .castable "java/lang/IndexOutOfBoundsException" "java/lang/IndexOutOfBoundsException", .declares ⟨"java/lang/RuntimeException", "<init>", "(Ljava/lang/String;)V"⟩, .declares ⟨"java/lang/Exception", "<init>", "(Ljava/lang/String;)V"⟩, .declares ⟨"java/lang/Throwable", "<init>", "(Ljava/lang/String;)V"⟩, .declares ⟨"java/lang/RuntimeException", "<init>", "()V"⟩, .declares ⟨"java/lang/Exception", "<init>", "()V"⟩, .declares ⟨"java/lang/Throwable", "<init>", "()V"⟩, .arrayOver (.object "ParityGame$Game"), .arrayClass .int, .arrayClass .boolean, .arrayClass .byte, .arrayClass .long, .arrayClass .double, .instantiable RX0 5, .instantiable RX1 9, .instantiable RX2 3, .instantiable RX3 5, .instantiable RX4 10, .instantiable RX5 12, .instantiable RX6 31]
theorem env_tb : ∀ w ∈ envW, w ∈ lw_tbl := goodIn_m lw_tC lw_tC_in _ [(5, 34), (5, 95), (5, 138), (5, 152), (6, 98), (8, 74), (6, 150), (6, 152), (7, 24), (7, 40), (5, 8), (5, 14), (5, 16), (7, 110), (7, 145), (7, 195), (8, 29), (8, 161), (8, 178), (8, 208), (8, 209), (8, 239), (9, 14), (9, 37), (9, 45), (9, 74), (7, 168), (7, 194), (8, 61), (7, 225), (7, 214), (9, 36), (6, 165), (6, 212), (7, 10), (7, 71), (7, 81), (7, 82), (7, 104), (6, 205), (6, 125), (7, 161), (9, 67), (6, 127), (6, 129), (6, 131), (6, 126), (6, 128), (6, 130), (5, 137), (5, 87), (5, 175), (6, 8), (11, 114), (11, 115), (5, 151), (5, 33), (5, 131), (5, 177), (5, 89), (5, 25), (9, 82)] (by decide +kernel)
def gTm (i : Nat) : Term := .string RX4 ([53, 74, 79, 81, 86].getD i 0)
theorem env_ex : ∀ i, i < 5 → Cond.exactly (gTm i) "java/lang/String" ∈ flatC lwT := by decide +kernel
theorem env_co : ∀ i, i < 5 → Cond.eq (.field (gTm i) "java/lang/String" "coder" "B") (.int 0) ∈ flatC lwT := by decide +kernel
theorem env_ar : ∀ i, i < 5 → Cond.arrayOf (.field (gTm i) "java/lang/String" "value" "[B") .byte ∈ flatC lwT := by decide +kernel
theorem env_le : ∀ i, i < 5 → Cond.eq (.length (.field (gTm i) "java/lang/String" "value" "[B")) (.int (Int32.ofNat (gLen.getD i 0))) ∈ flatC lwT := by decide +kernel
theorem env_el : ∀ i, i < 5 → ∀ j, j < gLen.getD i 0 → Cond.eq (.elem (.field (gTm i) "java/lang/String" "value" "[B") (.int (Int32.ofNat j))) (.int ((gByt.getD i []).getD j 0)) ∈ flatC lwT := by decide +kernel
theorem env_tx : ∀ q ∈ gTx, Cond.exactly (.string RX5 q.1) "java/lang/String" ∈ flatC lwT := by decide +kernel
theorem env_nc : ∀ q ∈ gNc, Cond.not (.castable q.1 q.2) ∈ flatC lwT := by decide +kernel
theorem env_first : ∀ i, i < 5 → ∀ j, j < 5 → (gByt.getD i []).getD 0 0 = (gByt.getD j []).getD 0 0 → i = j := by decide +kernel
theorem env_len : ∀ i, i < 5 → 0 < gLen.getD i 0 ∧ gLen.getD i 0 < 2 ^ 31 := by decide +kernel
theorem env_str {args : Array Value} {s : State} {A : Nat → Prop} (hs : ∀ w ∈ flatC lwT, w.before args s = true) (hA : ∀ a : Nat, a < s.heap.size → ¬ A a) :
    ∃ adK adV : Nat → Nat, vk_S 5 gLen gByt adK adV A s s.heap ∧ ∀ i : Nat, i < 5 → (gTm i).eval args s none [] s = some (.ref (adK i)) := by
  refine vk_Sof (tm := gTm) (fun i hi => (env_len i hi).2) (fun i hi => hs _ (env_ex i hi)) (fun i hi => hs _ (env_co i hi)) (fun i hi => hs _ (env_ar i hi)) (fun i hi => hs _ (env_le i hi)) (fun i hi j hj => hs _ (env_el i hi j hj)) (fun i j hi hj hij => Or.inl ?_) hA
  obtain ⟨a, c, cA, kA, q1, -⟩ := Cond.exactly_spec (args := args) (first := s) (o := none) (s := s) (idx := []) (t := gTm i) (cls := "java/lang/String") (hs _ (env_ex i hi))
  obtain ⟨a', c', cA', kA', q1', -⟩ := Cond.exactly_spec (args := args) (first := s) (o := none) (s := s) (idx := []) (t := gTm j) (cls := "java/lang/String") (hs _ (env_ex j hj))
  have hab : ¬ a = a' := by
    intro e
    have e1 : (gTm i).eval args s none [] s = (gTm j).eval args s none [] s := by rw [q1, q1', e]
    have e2 := va_eqt (hs _ (env_el i hi 0 (env_len i hi).1))
    have e3 := va_eqt (hs _ (env_el j hj 0 (env_len j hj).1))
    have e4 : (Term.elem (.field (gTm i) "java/lang/String" "value" "[B") (.int (Int32.ofNat 0))).eval args s none [] s = (Term.elem (.field (gTm j) "java/lang/String" "value" "[B") (.int (Int32.ofNat 0))).eval args s none [] s := by
      simp only [Term.eval, e1]
    rw [e2, e3] at e4
    have e5 : (gByt.getD i []).getD 0 0 = (gByt.getD j []).getD 0 0 := Value.int.inj (Option.some.inj e4)
    exact hij (env_first i hi j hj e5)
  simp [Cond.before, Cond.holds, Cond.value, q1, q1', hab]
theorem env_arr {args : Array Value} {s : State} {ty : FieldType} (h : (Cond.arrayClass ty).before args s = true) : ∃ cA : ClassId, s.vm.findClass ("[" ++ ty.toString) = some cA ∧ ArrOfT s cA ty := by
  obtain ⟨c, k, comp, h1, h2, h3⟩ := Cond.arrayClass_spec h
  exact ⟨c, h1, fun n z => ⟨fun k h => (by cases h), k, h2, comp, h3⟩⟩
theorem env_obj {args : Array Value} {s : State} {C : String} (h : (Cond.arrayOver (.object C)).before args s = true) : ∃ cA : ClassId, ArrOfT s cA (.object C) ∧ va_RA s cA (.object C) := by
  obtain ⟨comp, c, k, h1, h2, h3, h4, h5⟩ := Cond.arrayOver_spec h
  exact ⟨c, fun n z => ⟨fun k h => (by cases h), k, h3, comp, h4⟩, k, comp, h3, h4, h1, h5⟩
theorem law_env {args : Array Value} {s : State} (hts : ∀ w ∈ lw_tbl, w.before args s = true) (hs : ∀ w ∈ flatC lwT, w.before args s = true) :
    ∃ (D : va_G) (X : gX) (cI cZ cB cG cJ cD : ClassId), va_K D vwCl (gTL cI cZ cB cG cJ cD) s ∧ gE X (fun q => s.heap.size ≤ q) s s.heap ∧ gN s ∧ va_AO "ParityGame$Game" s := by
  have hA : ∀ a : Nat, a < s.heap.size → ¬ s.heap.size ≤ a := fun a h => Nat.not_le.mpr h
  obtain ⟨adK, adV, hstr, hev⟩ := env_str (A := fun q => s.heap.size ≤ q) hs hA
  obtain ⟨c0, i0, hk0⟩ := u_known (C := RX0) (T := TX0) (N := 5) (n := 5) hts inX0 (hts _ (env_tb _ (List.mem_of_getElem? (i := 55) rfl)))
  obtain ⟨c1, i1, hk1⟩ := u_known (C := RX1) (T := TX1) (N := 9) (n := 9) hts inX1 (hts _ (env_tb _ (List.mem_of_getElem? (i := 56) rfl)))
  obtain ⟨c2, i2, hk2⟩ := u_known (C := RX2) (T := TX2) (N := 3) (n := 3) hts inX2 (hts _ (env_tb _ (List.mem_of_getElem? (i := 57) rfl)))
  obtain ⟨c3, i3, hk3⟩ := u_known (C := RX3) (T := TX3) (N := 5) (n := 5) hts inX3 (hts _ (env_tb _ (List.mem_of_getElem? (i := 58) rfl)))
  obtain ⟨c4, i4, hk4⟩ := u_known (C := RX4) (T := TX4) (N := 10) (n := 10) hts inX4 (hts _ (env_tb _ (List.mem_of_getElem? (i := 59) rfl)))
  obtain ⟨c5, i5, hk5⟩ := u_known (C := RX5) (T := TX5) (N := 12) (n := 12) hts inX5 (hts _ (env_tb _ (List.mem_of_getElem? (i := 60) rfl)))
  obtain ⟨c6, i6, hk6⟩ := u_known (C := RX6) (T := TX6) (N := 31) (n := 31) hts inX6 (hts _ (env_tb _ (List.mem_of_getElem? (i := 61) rfl)))
  obtain ⟨dC, dI, hKc⟩ : ∃ (dC : Nat → ClassId) (dI : Nat → Nat → Nat), ∀ (k : Nat) (q : vw_C), vwCl[k]? = some q → u_Kn s q.1 q.2.1 q.2.2 (dC k) (dI k) := by
    refine ⟨fun k => match k with | 0 => c0 | 1 => c1 | 2 => c2 | 3 => c3 | 4 => c4 | 5 => c5 | _ => c6, fun k => match k with | 0 => i0 | 1 => i1 | 2 => i2 | 3 => i3 | 4 => i4 | 5 => i5 | _ => i6, ?_⟩
    intro k q hq
    match k, hq with
    | 0, hq => cases hq; exact hk0
    | 1, hq => cases hq; exact hk1
    | 2, hq => cases hq; exact hk2
    | 3, hq => cases hq; exact hk3
    | 4, hq => cases hq; exact hk4
    | 5, hq => cases hq; exact hk5
    | 6, hq => cases hq; exact hk6
    | k + 7, hq => simp [vwCl] at hq
  obtain ⟨cI, nmI, aI⟩ := env_arr (hts _ (env_tb _ (List.mem_of_getElem? (i := 50) rfl)))
  obtain ⟨cZ, nZ, aZ⟩ := env_arr (hts _ (env_tb _ (List.mem_of_getElem? (i := 51) rfl)))
  obtain ⟨cB, nB, aB⟩ := env_arr (hts _ (env_tb _ (List.mem_of_getElem? (i := 52) rfl)))
  obtain ⟨cJ, nJ, aJ⟩ := env_arr (hts _ (env_tb _ (List.mem_of_getElem? (i := 53) rfl)))
  obtain ⟨cD, nD, aD⟩ := env_arr (hts _ (env_tb _ (List.mem_of_getElem? (i := 54) rfl)))
  obtain ⟨cG, aG, rG⟩ := env_obj (hts _ (env_tb _ (List.mem_of_getElem? (i := 49) rfl)))
  refine ⟨(dC, dI), (adK, adV), cI, cZ, cB, cG, cJ, cD, ⟨hKc, fun k q hq => ?_⟩, ?_, ?_, ?_⟩
  · match k, hq with
    | 0, hq => cases hq; exact ⟨aI, nmI⟩
    | 1, hq => cases hq; exact ⟨aZ, nZ⟩
    | 2, hq => cases hq; exact ⟨aB, nB⟩
    | 3, hq => cases hq; exact ⟨aG, rG⟩
    | 4, hq => cases hq; exact ⟨aJ, nJ⟩
    | 5, hq => cases hq; exact ⟨aD, nD⟩
    | k + 6, hq => simp at hq
  · refine ⟨?_, ?_, ?_, ?_, ?_, hstr, ?_, ?_, ?_, ?_⟩
    · intro q hq
      simp only [gNs, List.mem_cons, List.not_mem_nil, or_false] at hq
      rcases hq with rfl | rfl | rfl | rfl | rfl | rfl
      · exact va_tabs rfl rfl (hts _ (env_tb _ (List.mem_of_getElem? (i := 0) rfl)))
      · exact va_tabs rfl rfl (hts _ (env_tb _ (List.mem_of_getElem? (i := 1) rfl)))
      · exact va_tabs rfl rfl (hts _ (env_tb _ (List.mem_of_getElem? (i := 2) rfl)))
      · exact va_tabs rfl rfl (hts _ (env_tb _ (List.mem_of_getElem? (i := 3) rfl)))
      · exact va_tabs rfl rfl (hts _ (env_tb _ (List.mem_of_getElem? (i := 4) rfl)))
      · exact va_tabs rfl rfl (hts _ (env_tb _ (List.mem_of_getElem? (i := 5) rfl)))
    · exact vx_Zqof (hts _ (env_tb _ (List.mem_of_getElem? (i := 6) rfl))) (hts _ (env_tb _ (List.mem_of_getElem? (i := 10) rfl))) (hs (.isRef (.static "java/lang/Throwable" "UNASSIGNED_STACK" "[Ljava/lang/StackTraceElement;")) (by decide +kernel)) hA
    · exact vx_Zqof (hts _ (env_tb _ (List.mem_of_getElem? (i := 7) rfl))) (hts _ (env_tb _ (List.mem_of_getElem? (i := 10) rfl))) (hs (.isRef (.static "java/lang/Throwable" "SUPPRESSED_SENTINEL" "Ljava/util/List;")) (by decide +kernel)) hA
    · intro q hq
      simp only [gTx, List.mem_cons, List.not_mem_nil, or_false] at hq
      rcases hq with rfl | rfl | rfl | rfl | rfl | rfl | rfl | rfl | rfl | rfl | rfl | rfl | rfl | rfl | rfl | rfl | rfl | rfl | rfl | rfl | rfl
      · obtain ⟨a, _, _, _, q1, -⟩ := Cond.exactly_spec (args := args) (first := s) (o := none) (s := s) (idx := []) (t := .string RX5 101) (cls := "java/lang/String") (hs _ (env_tx (101, "the text has an error") (List.mem_of_getElem? (i := 0) rfl)))
        exact ⟨a, vk_R.of (hts _ (env_tb _ (List.mem_of_getElem? (i := 13) rfl))) q1⟩
      · obtain ⟨a, _, _, _, q1, -⟩ := Cond.exactly_spec (args := args) (first := s) (o := none) (s := s) (idx := []) (t := .string RX5 154) (cls := "java/lang/String") (hs _ (env_tx (154, "what out of range") (List.mem_of_getElem? (i := 1) rfl)))
        exact ⟨a, vk_R.of (hts _ (env_tb _ (List.mem_of_getElem? (i := 14) rfl))) q1⟩
      · obtain ⟨a, _, _, _, q1, -⟩ := Cond.exactly_spec (args := args) (first := s) (o := none) (s := s) (idx := []) (t := .string RX5 177) (cls := "java/lang/String") (hs _ (env_tx (177, "end out of range") (List.mem_of_getElem? (i := 2) rfl)))
        exact ⟨a, vk_R.of (hts _ (env_tb _ (List.mem_of_getElem? (i := 15) rfl))) q1⟩
      · obtain ⟨a, _, _, _, q1, -⟩ := Cond.exactly_spec (args := args) (first := s) (o := none) (s := s) (idx := []) (t := .string RX5 220) (cls := "java/lang/String") (hs _ (env_tx (220, "moves out of range") (List.mem_of_getElem? (i := 3) rfl)))
        exact ⟨a, vk_R.of (hts _ (env_tb _ (List.mem_of_getElem? (i := 16) rfl))) q1⟩
      · obtain ⟨a, _, _, _, q1, -⟩ := Cond.exactly_spec (args := args) (first := s) (o := none) (s := s) (idx := []) (t := .string RX5 270) (cls := "java/lang/String") (hs _ (env_tx (270, "there are 20 places") (List.mem_of_getElem? (i := 4) rfl)))
        exact ⟨a, vk_R.of (hts _ (env_tb _ (List.mem_of_getElem? (i := 17) rfl))) q1⟩
      · obtain ⟨a, _, _, _, q1, -⟩ := Cond.exactly_spec (args := args) (first := s) (o := none) (s := s) (idx := []) (t := .string RX5 275) (cls := "java/lang/String") (hs _ (env_tx (275, "it is the only place") (List.mem_of_getElem? (i := 5) rfl)))
        exact ⟨a, vk_R.of (hts _ (env_tb _ (List.mem_of_getElem? (i := 18) rfl))) q1⟩
      · obtain ⟨a, _, _, _, q1, -⟩ := Cond.exactly_spec (args := args) (first := s) (o := none) (s := s) (idx := []) (t := .string RX5 283) (cls := "java/lang/String") (hs _ (env_tx (283, "there is such a move") (List.mem_of_getElem? (i := 6) rfl)))
        exact ⟨a, vk_R.of (hts _ (env_tb _ (List.mem_of_getElem? (i := 19) rfl))) q1⟩
      · obtain ⟨a, _, _, _, q1, -⟩ := Cond.exactly_spec (args := args) (first := s) (o := none) (s := s) (idx := []) (t := .string RX5 285) (cls := "java/lang/String") (hs _ (env_tx (285, "there are 60 moves") (List.mem_of_getElem? (i := 7) rfl)))
        exact ⟨a, vk_R.of (hts _ (env_tb _ (List.mem_of_getElem? (i := 20) rfl))) q1⟩
      · obtain ⟨a, _, _, _, q1, -⟩ := Cond.exactly_spec (args := args) (first := s) (o := none) (s := s) (idx := []) (t := .string RX5 293) (cls := "java/lang/String") (hs _ (env_tx (293, "a call is 9") (List.mem_of_getElem? (i := 8) rfl)))
        exact ⟨a, vk_R.of (hts _ (env_tb _ (List.mem_of_getElem? (i := 21) rfl))) q1⟩
      · obtain ⟨a, _, _, _, q1, -⟩ := Cond.exactly_spec (args := args) (first := s) (o := none) (s := s) (idx := []) (t := .string RX5 295) (cls := "java/lang/String") (hs _ (env_tx (295, "the move does not lead from the place of the token") (List.mem_of_getElem? (i := 9) rfl)))
        exact ⟨a, vk_R.of (hts _ (env_tb _ (List.mem_of_getElem? (i := 22) rfl))) q1⟩
      · obtain ⟨a, _, _, _, q1, -⟩ := Cond.exactly_spec (args := args) (first := s) (o := none) (s := s) (idx := []) (t := .string RX5 303) (cls := "java/lang/String") (hs _ (env_tx (303, "nothing is saved there") (List.mem_of_getElem? (i := 10) rfl)))
        exact ⟨a, vk_R.of (hts _ (env_tb _ (List.mem_of_getElem? (i := 23) rfl))) q1⟩
      · obtain ⟨a, _, _, _, q1, -⟩ := Cond.exactly_spec (args := args) (first := s) (o := none) (s := s) (idx := []) (t := .string RX5 308) (cls := "java/lang/String") (hs _ (env_tx (308, "there is no change to undo") (List.mem_of_getElem? (i := 11) rfl)))
        exact ⟨a, vk_R.of (hts _ (env_tb _ (List.mem_of_getElem? (i := 24) rfl))) q1⟩
      · obtain ⟨a, _, _, _, q1, -⟩ := Cond.exactly_spec (args := args) (first := s) (o := none) (s := s) (idx := []) (t := .string RX5 324) (cls := "java/lang/String") (hs _ (env_tx (324, "index out of range") (List.mem_of_getElem? (i := 12) rfl)))
        exact ⟨a, vk_R.of (hts _ (env_tb _ (List.mem_of_getElem? (i := 25) rfl))) q1⟩
      · obtain ⟨a, _, _, _, q1, -⟩ := Cond.exactly_spec (args := args) (first := s) (o := none) (s := s) (idx := []) (t := .string RX5 332) (cls := "java/lang/String") (hs _ (env_tx (332, "no such place") (List.mem_of_getElem? (i := 13) rfl)))
        exact ⟨a, vk_R.of (hts _ (env_tb _ (List.mem_of_getElem? (i := 26) rfl))) q1⟩
      · obtain ⟨a, _, _, _, q1, -⟩ := Cond.exactly_spec (args := args) (first := s) (o := none) (s := s) (idx := []) (t := .string RX5 335) (cls := "java/lang/String") (hs _ (env_tx (335, "no such move") (List.mem_of_getElem? (i := 14) rfl)))
        exact ⟨a, vk_R.of (hts _ (env_tb _ (List.mem_of_getElem? (i := 27) rfl))) q1⟩
      · obtain ⟨a, _, _, _, q1, -⟩ := Cond.exactly_spec (args := args) (first := s) (o := none) (s := s) (idx := []) (t := .string RX5 337) (cls := "java/lang/String") (hs _ (env_tx (337, "set out of range") (List.mem_of_getElem? (i := 15) rfl)))
        exact ⟨a, vk_R.of (hts _ (env_tb _ (List.mem_of_getElem? (i := 28) rfl))) q1⟩
      · obtain ⟨a, _, _, _, q1, -⟩ := Cond.exactly_spec (args := args) (first := s) (o := none) (s := s) (idx := []) (t := .string RX5 339) (cls := "java/lang/String") (hs _ (env_tx (339, "player out of range") (List.mem_of_getElem? (i := 16) rfl)))
        exact ⟨a, vk_R.of (hts _ (env_tb _ (List.mem_of_getElem? (i := 29) rfl))) q1⟩
      · obtain ⟨a, _, _, _, q1, -⟩ := Cond.exactly_spec (args := args) (first := s) (o := none) (s := s) (idx := []) (t := .string RX5 341) (cls := "java/lang/String") (hs _ (env_tx (341, "call out of range") (List.mem_of_getElem? (i := 17) rfl)))
        exact ⟨a, vk_R.of (hts _ (env_tb _ (List.mem_of_getElem? (i := 30) rfl))) q1⟩
      · obtain ⟨a, _, _, _, q1, -⟩ := Cond.exactly_spec (args := args) (first := s) (o := none) (s := s) (idx := []) (t := .string RX5 343) (cls := "java/lang/String") (hs _ (env_tx (343, "slot out of range") (List.mem_of_getElem? (i := 18) rfl)))
        exact ⟨a, vk_R.of (hts _ (env_tb _ (List.mem_of_getElem? (i := 31) rfl))) q1⟩
      · obtain ⟨a, _, _, _, q1, -⟩ := Cond.exactly_spec (args := args) (first := s) (o := none) (s := s) (idx := []) (t := .string RX5 84) (cls := "java/lang/String") (hs _ (env_tx (84, "the input buffer is full") (List.mem_of_getElem? (i := 19) rfl)))
        exact ⟨a, vk_R.of (hts _ (env_tb _ (List.mem_of_getElem? (i := 32) rfl))) q1⟩
      · obtain ⟨a, _, _, _, q1, -⟩ := Cond.exactly_spec (args := args) (first := s) (o := none) (s := s) (idx := []) (t := .string RX5 94) (cls := "java/lang/String") (hs _ (env_tx (94, "length out of range") (List.mem_of_getElem? (i := 20) rfl)))
        exact ⟨a, vk_R.of (hts _ (env_tb _ (List.mem_of_getElem? (i := 33) rfl))) q1⟩
    · intro q hq
      simp only [gWd, List.mem_cons, List.not_mem_nil, or_false] at hq
      rcases hq with rfl | rfl | rfl | rfl | rfl
      · exact vk_R.of (hts _ (env_tb _ (List.mem_of_getElem? (i := 34) rfl))) (hev 0 (by decide))
      · exact vk_R.of (hts _ (env_tb _ (List.mem_of_getElem? (i := 35) rfl))) (hev 1 (by decide))
      · exact vk_R.of (hts _ (env_tb _ (List.mem_of_getElem? (i := 36) rfl))) (hev 2 (by decide))
      · exact vk_R.of (hts _ (env_tb _ (List.mem_of_getElem? (i := 37) rfl))) (hev 3 (by decide))
      · exact vk_R.of (hts _ (env_tb _ (List.mem_of_getElem? (i := 38) rfl))) (hev 4 (by decide))
    · intro q hq
      simp only [gXc, List.mem_cons, List.not_mem_nil, or_false] at hq
      rcases hq with rfl | rfl | rfl | rfl
      · exact va_tabs rfl rfl (hts _ (env_tb _ (List.mem_of_getElem? (i := 39) rfl)))
      · exact va_tabs rfl rfl (hts _ (env_tb _ (List.mem_of_getElem? (i := 40) rfl)))
      · exact va_tabs rfl rfl (hts _ (env_tb _ (List.mem_of_getElem? (i := 41) rfl)))
      · exact va_tabs rfl rfl (hts _ (env_tb _ (List.mem_of_getElem? (i := 42) rfl)))
    · intro q hq
      simp only [gXd, List.mem_cons, List.not_mem_nil, or_false] at hq
      rcases hq with rfl | rfl | rfl | rfl | rfl | rfl
      · exact va_tabs rfl rfl (hts _ (env_tb _ (List.mem_of_getElem? (i := 43) rfl)))
      · exact va_tabs rfl rfl (hts _ (env_tb _ (List.mem_of_getElem? (i := 44) rfl)))
      · exact va_tabs rfl rfl (hts _ (env_tb _ (List.mem_of_getElem? (i := 45) rfl)))
      · exact va_tabs rfl rfl (hts _ (env_tb _ (List.mem_of_getElem? (i := 46) rfl)))
      · exact va_tabs rfl rfl (hts _ (env_tb _ (List.mem_of_getElem? (i := 47) rfl)))
      · exact va_tabs rfl rfl (hts _ (env_tb _ (List.mem_of_getElem? (i := 48) rfl)))
    · exact va_Zof (hts _ (env_tb _ (List.mem_of_getElem? (i := 8) rfl))) (hts _ (env_tb _ (List.mem_of_getElem? (i := 11) rfl))) (va_eqt (hs (.eq (.static "java/lang/String" "COMPACT_STRINGS" "Z") (.int 1)) (by decide +kernel))) hA
    · exact va_Zqof (hts _ (env_tb _ (List.mem_of_getElem? (i := 9) rfl))) (hts _ (env_tb _ (List.mem_of_getElem? (i := 12) rfl))) (hs (.isRef (.static "jdk/internal/util/Preconditions" "SIOOBE_FORMATTER" "Ljava/util/function/BiFunction;")) (by decide +kernel)) hA
  · exact fun q hq => va_Nc.of (hs _ (env_nc q hq))
  · exact va_AO.of (hts _ (env_tb _ (List.mem_of_getElem? (i := 49) rfl)))
