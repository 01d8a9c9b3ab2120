
/-! the text of a drawn game -/
def plCh (x : Nat × Nat) : List Nat := wT (if x.1 = 0 then 5 else 6) ++ [48 + x.2]
def mvCh (x : Nat × Nat) : List Nat := ((wT 7 ++ [48 + x.1]) ++ [32]) ++ [48 + x.2]
def gmT (pl mv : List (Nat × Nat)) : List Nat := (wT 0 ++ pl.flatMap plCh) ++ mv.flatMap mvCh
theorem plCh_len (x : Nat × Nat) : (plCh x).length ≤ 7 := by
  unfold plCh
  split <;> simp [wT, wN]
theorem mvCh_len (x : Nat × Nat) : (mvCh x).length = 9 := by
  unfold mvCh
  simp [wT, wN]
theorem plT_len : ∀ pl : List (Nat × Nat), (pl.flatMap plCh).length ≤ 7 * pl.length
  | [] => by simp
  | x :: pl => by
    have h1 := plCh_len x
    have h2 := plT_len pl
    rw [List.flatMap_cons, List.length_append, List.length_cons]
    omega
theorem mvT_len : ∀ mv : List (Nat × Nat), (mv.flatMap mvCh).length = 9 * mv.length
  | [] => by simp
  | x :: mv => by
    have h1 := mvCh_len x
    have h2 := mvT_len mv
    rw [List.flatMap_cons, List.length_append, List.length_cons]
    omega
theorem gmT_len (pl mv : List (Nat × Nat)) : (gmT pl mv).length ≤ 4 + 7 * pl.length + 9 * mv.length := by
  have h1 := plT_len pl
  have h2 := mvT_len mv
  have h3 : (wT 0).length = 4 := rfl
  unfold gmT
  rw [List.length_append, List.length_append]
  omega
theorem gmT_pl (pl : List (Nat × Nat)) (x : Nat × Nat) : gmT (pl ++ [x]) [] = gmT pl [] ++ plCh x := by
  unfold gmT
  simp [List.flatMap_append, List.append_assoc]
theorem gmT_mv (pl mv : List (Nat × Nat)) (x : Nat × Nat) : gmT pl (mv ++ [x]) = gmT pl mv ++ mvCh x := by
  unfold gmT
  simp [List.flatMap_append, List.append_assoc]
/-- a drawn game: its places, its moves (those of the places before p; at p those of the steps before k) -/
def gmPl (pl : List (Nat × Nat)) : Prop := ∀ x ∈ pl, x.1 < 2 ∧ x.2 < 10
def gmMv (n p : Nat) (mv : List (Nat × Nat)) : Prop := mv.Nodup ∧ (∀ x ∈ mv, x.1 < p ∧ x.2 < n) ∧ mv.length ≤ 3 * p
/-- the moves from p so far: of the steps before k -/
def gmAt (n p k to step : Nat) (mv : List (Nat × Nat)) : Prop := mv.Nodup ∧ (∀ x ∈ mv, (x.1 < p ∧ x.2 < n) ∨ (x.1 = p ∧ ∃ i, i < k ∧ x.2 = (to + i * step) % n ∧ (i * step % n ≠ 0 ∨ i = 0) ∧ (i < 2 ∨ 2 * step % n ≠ step % n))) ∧ mv.length ≤ 3 * p + k
theorem gmAt_0 {n p to step : Nat} {mv : List (Nat × Nat)} (h : gmMv n p mv) : gmAt n p 0 to step mv := ⟨h.1, fun x hx => Or.inl (h.2.1 x hx), by have := h.2.2; omega⟩
theorem gmAt_3 {n p k to step : Nat} {mv : List (Nat × Nat)} (hn : 0 < n) (hk : k ≤ 3) (h : gmAt n p k to step mv) : gmMv n (p + 1) mv := by
  refine ⟨h.1, fun x hx => ?_, by have := h.2.2; omega⟩
  rcases h.2.1 x hx with q | ⟨q, i, -, e, -⟩
  · exact ⟨by omega, q.2⟩
  · exact ⟨by omega, by rw [e]; exact Nat.mod_lt _ hn⟩
theorem gmAt_skip {n p k to step : Nat} {mv : List (Nat × Nat)} (h : gmAt n p k to step mv) : gmAt n p (k + 1) to step mv := by
  refine ⟨h.1, fun x hx => ?_, by have := h.2.2; omega⟩
  rcases h.2.1 x hx with q | ⟨q, i, hi, e⟩
  · exact Or.inl q
  · exact Or.inr ⟨q, i, by omega, e⟩
theorem gm_apart {n to step i k : Nat} (hi : i < k) (hk : k < 3) (hk1 : k * step % n ≠ 0 ∨ k = 0) (hk2 : k < 2 ∨ 2 * step % n ≠ step % n) : (to + i * step) % n ≠ (to + k * step) % n := by
  intro e
  have h := Nat.sub_mod_eq_zero_of_mod_eq e.symm
  rcases (show k = 1 ∨ k = 2 by omega) with rfl | rfl
  · obtain rfl : i = 0 := by omega
    rw [show to + 1 * step - (to + 0 * step) = 1 * step by omega] at h
    rcases hk1 with q | q
    · exact q h
    · omega
  · rcases (show i = 0 ∨ i = 1 by omega) with rfl | rfl
    · rw [show to + 2 * step - (to + 0 * step) = 2 * step by omega] at h
      rcases hk1 with q | q
      · exact q h
      · omega
    · rw [show to + 2 * step - (to + 1 * step) = step by omega] at h
      rcases hk2 with q | q
      · omega
      · apply q
        rw [Nat.mul_mod, h, Nat.mul_zero, Nat.zero_mod]
theorem gmAt_put {n p k to step : Nat} {mv : List (Nat × Nat)} (hk : k < 3) (hk1 : k * step % n ≠ 0 ∨ k = 0) (hk2 : k < 2 ∨ 2 * step % n ≠ step % n) (h : gmAt n p k to step mv) : gmAt n p (k + 1) to step (mv ++ [(p, (to + k * step) % n)]) := by
  refine ⟨?_, fun x hx => ?_, by rw [List.length_append]; have := h.2.2; simp; omega⟩
  · rw [List.nodup_append]
    refine ⟨h.1, by simp, fun a ha b hb => ?_⟩
    rw [List.mem_singleton] at hb
    subst hb
    intro e
    subst e
    rcases h.2.1 _ ha with q | ⟨_, i, hi, e, -⟩
    · exact absurd q.1 (Nat.lt_irrefl _)
    · exact gm_apart hi hk hk1 hk2 e.symm
  · rcases List.mem_append.mp hx with q | q
    · rcases h.2.1 x q with z | ⟨z, i, hi, e⟩
      · exact Or.inl z
      · exact Or.inr ⟨z, i, by omega, e⟩
    · rw [List.mem_singleton] at q
      subst q
      exact Or.inr ⟨rfl, k, Nat.lt_succ_self _, rfl, hk1, hk2⟩
theorem next_ok {o0 : Nat → Int32} {post : Int32 → (Nat → Int32) → Prop} (h : ∀ (j : Nat) (o : Nat → Int32), j < 8388608 → post (nI j) o) : wp_L_next o0 post := by
  unfold wp_L_next
  have key : ∀ x : Int32, ∃ j : Nat, j < 8388608 ∧ (x.toUInt32 >>> (((9 : Int32)).toUInt32 &&& Int32.toUInt32 31)).toInt32 = nI j := by
    intro x
    have e := pk_ushr x 9 9 (by decide)
    refine ⟨x.toBitVec.toNat / 2 ^ 9, ?_, ?_⟩
    · have := x.toBitVec.isLt
      omega
    · apply Int32.toBitVec_inj.mp
      apply BitVec.eq_of_toNat_eq
      have h0 := x.toBitVec.isLt
      rw [pk_tn (by omega)]
      exact e
  obtain ⟨j, hj, e⟩ := key _
  rw [e]
  exact h j _ hj
section GOLR
variable {l : Launch} {y : MethodName} {ws ws' : List Cond} {rm : Room} {D : va_G} {X : gX} {tys : List (ClassId × FieldType)} {sz : Nat} {av : List Value} {W0 : va_W} {S : Type} {cc : ByteArray} {maxL mc ms : Nat}
theorem g_ofLr {W1 : S → Nat → va_W} {post : S → Prop} {rt : FieldType} (hy : plainFor y = true) (hlen : (lg_sl av).length ≤ maxL) (hw : ws = Cond.code y cc maxL (some rt) :: ws') (hrt : (∃ n, rt = .object n) ∨ ∃ t, rt = .array t)
    (body : ∀ (p : Program) (e : Env) (s : State) (m : MethodId) (args : Array Value) (below : List Frame) (meth : Method) (c : Code) (A : Nat → Prop) (Q : State → Prop),
      p.tables.exec = Jvm.exec → c.code = cc → c.maxLocals = maxL → s.vm.findClass y.cls = some m.cls → (∀ w ∈ ws, w.before args s = true) → meth.name = y.name → (∀ q : Nat, s.heap.size ≤ q → A q) → va_K D vwCl tys s → gE X A s s.heap → gN s → ∀ H : Heap, va_P D vwCl W0 H → va_D A W0 → va_S A s.heap H [] →
      ∀ ls : Array Slot, lv_has ls maxL (lv_args 0 av) →
      (∀ {H : Heap} {locs : List Loc} {pc : Nat} {ls : Array Slot} {k n : Nat} (a : Nat) (u : S), k ≤ mc → n ≤ ms → post u → va_P D vwCl (W1 u a) H → va_D A (W1 u a) → va_S A s.heap H locs → decode cc pc = .ok (.areturn, 1) → W p l e rm s m args below meth c H locs k n Q (F0 m pc ls [.ref a])) →
      W p l e rm s m args below meth c H [] 0 0 Q (F0 m 0 ls [])) :
    Met l y ws rm (gPL D X tys sz av W0) (va_Qr post (fun u a t => gB D tys (va_A W0 sz) (W1 u a) t) (va_A W0 sz)) mc ms (va_A W0 sz) := by
  refine g_MetF (cc := cc) (maxL := maxL) (ret := some rt) hy hw ?_
  intro p e s m args below meth c s₁ B hml hv
  obtain ⟨rfl, hsz, hP, hK, hD0, hE, hN⟩ := hv
  have hts := atoms_spec (ws := ws) B.pre
  have hown : s.vm.findClass y.cls = some m.cls := findClass_of_methodNamed B.named
  subst hsz
  have hD := hD0.self (sz := s.heap.size)
  have hA : ∀ q : Nat, s.heap.size ≤ q → va_A W0 s.heap.size q := fun q h => Or.inr h
  have hl := lv_entry av (n := maxL) hlen
  rw [lg_entry_eq]
  generalize (lg_sl av ++ List.replicate (maxL - (lg_sl av).length) Slot.unset).toArray = ls at hl ⊢
  refine body p e s m _ below meth c _ _ B.exec B.bytes hml hown hts (name_of_methodNamed B.named B.method).1 hA hK hE hN _ hP hD va_S.rf ls hl ?_
  intro H locs pc ls k n a u hk hn hp hP hD hS hdg
  exact W.widen hk hn (W.aret B.exec B.bytes B.returns hrt (Or.inr ⟨a, rfl⟩) (fun t ht hW => ⟨⟨u, a, rfl, hp, by rw [ht]; exact hP, va_K.moved hW.alike hK, hD⟩, hS.F ht⟩) hS.2.2 hdg)
end GOLR
abbrev rm_L_game : Room := { frames := 9, cells := 150, slots := 120000, locals := 259 }
set_option maxHeartbeats 40000000 in
set_option maxRecDepth 100000 in
theorem c_L_game (l : Launch) (D : va_G) (X : gX) (cI cZ cB cG : ClassId) (sz : Nat) (q_r n cc : Nat) (rf : Nat → Int32) (hn0 : 0 < n) (hn9 : n ≤ 9) (hc0 : 0 < cc) (hc9 : cc ≤ 10) (hlf : l.stackTraces = false) : Met l yL_game wsL_game rm_L_game (gPL D X (gT cI cZ cB cG) sz [.int (nI n), .int (nI cc), .ref q_r] [(q_r, .inl (cI, 1, .inl rf))]) (va_Qr (fun (u : (Nat → Int32) × Nat × (Nat → Int32) × List (Nat × Nat) × List (Nat × Nat) × Nat) => gmPl u.2.2.2.1 ∧ u.2.2.2.1.length = n ∧ gmMv n n u.2.2.2.2.1 ∧ u.2.2.2.2.2 < n ∧ ∀ j, j < ((gmT u.2.2.2.1 u.2.2.2.2.1 ++ wT 8) ++ [48 + u.2.2.2.2.2]).length → u.2.2.1 j = nI (((gmT u.2.2.2.1 u.2.2.2.2.1 ++ wT 8) ++ [48 + u.2.2.2.2.2]).getD j 0)) (fun u a t => gB D (gT cI cZ cB cG) (va_A [(q_r, .inl (cI, 1, .inl rf))] sz) [(q_r, .inl (cI, 1, .inl u.1)), (a, .inr (6, [.ref u.2.1, .int (0 : Int32), .int (0 : Int32), .int (0 : Int32)])), (u.2.1, .inl (cB, ((gmT u.2.2.2.1 u.2.2.2.2.1 ++ wT 8) ++ [48 + u.2.2.2.2.2]).length, .inl u.2.2.1))] t) (va_A [(q_r, .inl (cI, 1, .inl rf))] sz)) 150 120000 (va_A [(q_r, .inl (cI, 1, .inl rf))] sz) := by
  refine g_ofLr (post := fun (u : (Nat → Int32) × Nat × (Nat → Int32) × List (Nat × Nat) × List (Nat × Nat) × Nat) => gmPl u.2.2.2.1 ∧ u.2.2.2.1.length = n ∧ gmMv n n u.2.2.2.2.1 ∧ u.2.2.2.2.2 < n ∧ ∀ j, j < ((gmT u.2.2.2.1 u.2.2.2.2.1 ++ wT 8) ++ [48 + u.2.2.2.2.2]).length → u.2.2.1 j = nI (((gmT u.2.2.2.1 u.2.2.2.2.1 ++ wT 8) ++ [48 + u.2.2.2.2.2]).getD j 0)) (W1 := fun (u : (Nat → Int32) × Nat × (Nat → Int32) × List (Nat × Nat) × List (Nat × Nat) × Nat) (a : Nat) => [(q_r, .inl (cI, 1, .inl u.1)), (a, .inr (6, [.ref u.2.1, .int (0 : Int32), .int (0 : Int32), .int (0 : Int32)])), (u.2.1, .inl (cB, ((gmT u.2.2.2.1 u.2.2.2.2.1 ++ wT 8) ++ [48 + u.2.2.2.2.2]).length, .inl u.2.2.1))]) (cc := cL_game) (maxL := 8) (by decide +kernel) (Nat.le_of_ble_eq_true rfl) rfl (by first | exact Or.inl ⟨_, rfl⟩ | exact Or.inr ⟨_, rfl⟩) ?_
  intro p e s m args below meth c A Q hx hb hml hown hts hini hA hK hE hN H hP hD hS ls hl hret
  have hl : lv_has ls 8 [(0, .int (nI n)), (1, .int (nI cc)), (2, .ref q_r)] := hl
  have hinJ4 : ∀ w ∈ u_ws RJ4 TJ4 4, w ∈ wsL_game := by decide +kernel
  refine va_new (ci := 7) (fs := [.null, .int 0, .int 0, .int 0]) (C := RJ4) (T := TJ4) (N := 4) hx hb hts hinJ4 tyJ4 tyJ4_ok hown (hts (.classLink RL 50 RJ4) (by decide +kernel)) (hts (.instantiable RJ4 4) (by decide +kernel)) (hts (.initialized RJ4) (by decide +kernel)) hK hP hD hS hA rfl (fun j hj => by rcases (show j = 0 ∨ j = 1 ∨ j = 2 ∨ j = 3 by omega) with rfl | rfl | rfl | rfl <;> rfl) (Nat.le_of_ble_eq_true rfl) (Nat.le_of_ble_eq_true rfl) dL_game_0 (fun q_b H hP hD hS => ?_)
  have G3 : ∀ (pl mv : List (Nat × Nat)) (rf : Nat → Int32) (q_v m9 : Nat) (f : Nat → Int32) (H : Heap) (locs : List Loc) (ls : Array Slot), gmPl pl → pl.length = n → gmMv n n mv → sbT (gmT pl mv) m9 f → va_P D vwCl [(q_r, .inl (cI, 1, .inl rf)), (q_b, .inr (7, [.ref q_v, .int (0 : Int32), .int (0 : Int32), .int (nI (gmT pl mv).length)])), (q_v, .inl (cB, m9, .inl f))] H → va_D A [(q_r, .inl (cI, 1, .inl rf)), (q_b, .inr (7, [.ref q_v, .int (0 : Int32), .int (0 : Int32), .int (nI (gmT pl mv).length)])), (q_v, .inl (cB, m9, .inl f))] → va_S A s.heap H locs → lv_has ls 8 [(0, .int (nI n)), (2, .ref q_r), (3, .ref q_b)] → W p l e rm_L_game s m args below meth c H locs (140) (110000) Q (F0 m 176 ls []) := by
    intro pl mv rf q_v m9 f H locs ls hpl hpn hmv hT hP hD hS hl
    have hlen := gmT_len pl mv
    have hml9 := hmv.2.2
    refine lv_aload_n hx hb dL_game_176 rfl (lv_at hl 2 rfl) ?_
    refine va_ldcS hx hb hown (hE.2.2.2.2.2.2.2.2.2.2.1 (77, ";token ", 8) (List.mem_of_getElem? (i := 4) rfl)) dL_game_177 ?_
    have hPc := hP.sub (ws' := [(q_b, .inr (7, [.ref q_v, .int (0 : Int32), .int (0 : Int32), .int (nI (gmT pl mv).length)])), (q_v, .inl (cB, m9, .inl f))]) [1, 2] rfl
    have hDc := hD.sub (ws' := [(q_b, .inr (7, [.ref q_v, .int (0 : Int32), .int (0 : Int32), .int (nI (gmT pl mv).length)])), (q_v, .inl (cB, m9, .inl f))]) [1, 2] (by decide +kernel) rfl
    have hFc := va_free (wc := [(q_b, .inr (7, [.ref q_v, .int (0 : Int32), .int (0 : Int32), .int (nI (gmT pl mv).length)])), (q_v, .inl (cB, m9, .inl f))]) hD hS hA [1, 2] rfl
    refine va_callr (va_runV (As := [.ref (X.1 8)]) (rest := []) ⟨hx, hb, hml, hown, hts⟩ (c_J4_append_15ec4t l D X cI cZ cB cG H.size 8 (by decide) q_b q_v m9 (gmT pl mv) f hT (by have : gLen.getD 8 0 = 7 := rfl; omega)) (cwV 1 hts gL_game_J4_append_15ec4 rfl rfl rfl (by decide +kernel) ⟨Nat.le_of_ble_eq_true rfl, Nat.le_of_ble_eq_true rfl⟩) ⟨g_blind, va_recv hK hP (ci := 7) (q0 := 1) rfl rfl, fun U hU hW => g_side hU hW hPc hK hDc hE hS hFc⟩ rfl rfl hl.1 rfl (lv_room (Nat.le_of_ble_eq_true rfl)) dL_game_179 ⟨show 140 + 1 ≤ 150 by omega, show 110000 + 802 ≤ 120000 by omega⟩) hS (fun q _ h => hFc q h) hFc (fun u r1 t H1 locs ht hvm h1 hB hz1 hk1 hS => ?_)
    obtain ⟨v1, m1, f1⟩ := u
    obtain ⟨hb9, hP1, hK1, hD1⟩ := hB; have hb9 := hb9.symm; subst hb9
    rw [ht] at hP1
    obtain ⟨hP, hD⟩ := va_join (wr := [(q_r, .inl (cI, 1, .inl rf))]) (w1 := [(q_b, .inr (7, [.ref v1, .int (0 : Int32), .int (0 : Int32), .int (nI (gmT pl mv ++ wT 8).length)])), (v1, .inl (cB, m1, .inl f1))]) hP hD [1, 2] [0] rfl rfl (by decide +kernel) (by decide +kernel) hk1 hFc hP1 hD1
    generalize H1 = H at hP hS ⊢
    have hP : va_P D vwCl [(q_r, .inl (cI, 1, .inl rf)), (q_b, .inr (7, [.ref v1, .int (0 : Int32), .int (0 : Int32), .int (nI (gmT pl mv ++ wT 8).length)])), (v1, .inl (cB, m1, .inl f1))] H := hP
    have hD : va_D A [(q_r, .inl (cI, 1, .inl rf)), (q_b, .inr (7, [.ref v1, .int (0 : Int32), .int (0 : Int32), .int (nI (gmT pl mv ++ wT 8).length)])), (v1, .inl (cB, m1, .inl f1))] := hD
    have hT : sbT (gmT pl mv ++ wT 8) m1 f1 := h1
    clear hP1 hD1 hPc hDc hFc hk1
    generalize v1 = q_v at hP hD
    generalize m1 = m9 at hP hD hT
    generalize f1 = f at hP hD hT
    have hP : va_P D vwCl [(q_r, .inl (cI, 1, .inl rf)), (q_b, .inr (7, [.ref q_v, .int (0 : Int32), .int (0 : Int32), .int (nI (gmT pl mv ++ wT 8).length)])), (q_v, .inl (cB, m9, .inl f))] H := hP
    have hD : va_D A [(q_r, .inl (cI, 1, .inl rf)), (q_b, .inr (7, [.ref q_v, .int (0 : Int32), .int (0 : Int32), .int (nI (gmT pl mv ++ wT 8).length)])), (q_v, .inl (cB, m9, .inl f))] := hD
    refine lv_aload_n hx hb dL_game_182 rfl (lv_at hl 1 rfl) ?_
    have hPc := hP.sub (ws' := [(q_r, .inl (cI, 1, .inl rf))]) [0] rfl
    have hDc := hD.sub (ws' := [(q_r, .inl (cI, 1, .inl rf))]) [0] (by decide +kernel) rfl
    have hFc := va_free (wc := [(q_r, .inl (cI, 1, .inl rf))]) hD hS hA [0] rfl
    refine va_calli (va_runS (As := [.ref q_r]) (rest := [.ref q_b]) ⟨hx, hb, hml, hown, hts⟩ (c_L_next l D X cI cZ cB cG H.size q_r rf (fun r u => ∃ j, j < 8388608 ∧ r = nI j) hlf (next_ok (fun j o hj => ⟨j, hj, rfl⟩))) (va_cwS 1 hts gL_game_L_next rfl rfl rfl (by decide +kernel) ⟨Nat.le_of_ble_eq_true rfl, Nat.le_of_ble_eq_true rfl⟩) ⟨gL_blind, fun U hU hW => gL_side hU hW hPc hK hDc hE hN hS hFc⟩ rfl rfl hl.1 rfl (lv_room (Nat.le_of_ble_eq_true rfl)) dL_game_183 ⟨show 140 + 1 + 0 ≤ 150 by omega, show 110000 + 802 + 0 ≤ 120000 by omega⟩) hS (fun q _ h => hFc q h) hFc (fun r2 u t H1 locs ht hvm h2 hB hz1 hk1 hS => ?_)
    obtain ⟨rf1, rfl⟩ : ∃ z, z = u := ⟨_, rfl⟩
    obtain ⟨hP1, hK1, hD1⟩ := hB
    rw [ht] at hP1
    obtain ⟨hP, hD⟩ := va_join (wr := [(q_b, .inr (7, [.ref q_v, .int (0 : Int32), .int (0 : Int32), .int (nI (gmT pl mv ++ wT 8).length)])), (q_v, .inl (cB, m9, .inl f))]) (w1 := [(q_r, .inl (cI, 1, .inl rf1))]) hP hD [0] [1, 2] rfl rfl (by decide +kernel) (by decide +kernel) hk1 hFc hP1 hD1
    generalize H1 = H at hP hS ⊢
    have hP : va_P D vwCl [(q_b, .inr (7, [.ref q_v, .int (0 : Int32), .int (0 : Int32), .int (nI (gmT pl mv ++ wT 8).length)])), (q_v, .inl (cB, m9, .inl f)), (q_r, .inl (cI, 1, .inl rf1))] H := hP
    have hD : va_D A [(q_b, .inr (7, [.ref q_v, .int (0 : Int32), .int (0 : Int32), .int (nI (gmT pl mv ++ wT 8).length)])), (q_v, .inl (cB, m9, .inl f)), (q_r, .inl (cI, 1, .inl rf1))] := hD
    obtain ⟨j1, hj1, ej1⟩ := h2
    subst ej1
    clear hP1 hD1 hPc hDc hFc hk1
    generalize rf1 = rf at hP hD
    have hP : va_P D vwCl [(q_b, .inr (7, [.ref q_v, .int (0 : Int32), .int (0 : Int32), .int (nI (gmT pl mv ++ wT 8).length)])), (q_v, .inl (cB, m9, .inl f)), (q_r, .inl (cI, 1, .inl rf))] H := hP
    have hD : va_D A [(q_b, .inr (7, [.ref q_v, .int (0 : Int32), .int (0 : Int32), .int (nI (gmT pl mv ++ wT 8).length)])), (q_v, .inl (cB, m9, .inl f)), (q_r, .inl (cI, 1, .inl rf))] := hD
    refine lv_iload_n hx hb dL_game_186 rfl (lv_at hl 0 rfl) ?_
    refine lv_irem hx hb dL_game_187 (nI_ne0 hn0 (by omega)) ?_
    refine W.eq (g2 := F0 m 188 ls [.int (nI (j1 % n)), .ref q_b]) (by rw [pk_rem (by omega) hn0 (by omega)]) ?_
    have hm1 : j1 % n < n := Nat.mod_lt _ hn0
    have hPc := hP.sub (ws' := [(q_b, .inr (7, [.ref q_v, .int (0 : Int32), .int (0 : Int32), .int (nI (gmT pl mv ++ wT 8).length)])), (q_v, .inl (cB, m9, .inl f))]) [0, 1] rfl
    have hDc := hD.sub (ws' := [(q_b, .inr (7, [.ref q_v, .int (0 : Int32), .int (0 : Int32), .int (nI (gmT pl mv ++ wT 8).length)])), (q_v, .inl (cB, m9, .inl f))]) [0, 1] (by decide +kernel) rfl
    have hFc := va_free (wc := [(q_b, .inr (7, [.ref q_v, .int (0 : Int32), .int (0 : Int32), .int (nI (gmT pl mv ++ wT 8).length)])), (q_v, .inl (cB, m9, .inl f))]) hD hS hA [0, 1] rfl
    refine va_callr (va_runV (As := [.int (nI (j1 % n))]) (rest := []) ⟨hx, hb, hml, hown, hts⟩ (c_J4_append_bf812t l D X cI cZ cB cG H.size (j1 % n) (by omega) q_b q_v m9 (gmT pl mv ++ wT 8) f hT (by rw [List.length_append]; have : (wT 8).length = 7 := rfl; omega)) (cwV 1 hts gL_game_J4_append_bf812 rfl rfl rfl (by decide +kernel) ⟨Nat.le_of_ble_eq_true rfl, Nat.le_of_ble_eq_true rfl⟩) ⟨g_blind, va_recv hK hP (ci := 7) (q0 := 0) rfl rfl, fun U hU hW => g_side hU hW hPc hK hDc hE hS hFc⟩ rfl rfl hl.1 rfl (lv_room (Nat.le_of_ble_eq_true rfl)) dL_game_188 ⟨show 140 + 1 + 0 + 1 ≤ 150 by omega, show 110000 + 802 + 0 + 802 ≤ 120000 by omega⟩) hS (fun q _ h => hFc q h) hFc (fun u r3 t H1 locs ht hvm h3 hB hz1 hk1 hS => ?_)
    obtain ⟨v1, m1, f1⟩ := u
    obtain ⟨hb9, hP1, hK1, hD1⟩ := hB; have hb9 := hb9.symm; subst hb9
    rw [ht] at hP1
    obtain ⟨hP, hD⟩ := va_join (wr := [(q_r, .inl (cI, 1, .inl rf))]) (w1 := [(q_b, .inr (7, [.ref v1, .int (0 : Int32), .int (0 : Int32), .int (nI ((gmT pl mv ++ wT 8) ++ [48 + j1 % n]).length)])), (v1, .inl (cB, m1, .inl f1))]) hP hD [0, 1] [2] rfl rfl (by decide +kernel) (by decide +kernel) hk1 hFc hP1 hD1
    generalize H1 = H at hP hS ⊢
    have hP : va_P D vwCl [(q_r, .inl (cI, 1, .inl rf)), (q_b, .inr (7, [.ref v1, .int (0 : Int32), .int (0 : Int32), .int (nI ((gmT pl mv ++ wT 8) ++ [48 + j1 % n]).length)])), (v1, .inl (cB, m1, .inl f1))] H := hP
    have hD : va_D A [(q_r, .inl (cI, 1, .inl rf)), (q_b, .inr (7, [.ref v1, .int (0 : Int32), .int (0 : Int32), .int (nI ((gmT pl mv ++ wT 8) ++ [48 + j1 % n]).length)])), (v1, .inl (cB, m1, .inl f1))] := hD
    have hT : sbT ((gmT pl mv ++ wT 8) ++ [48 + j1 % n]) m1 f1 := h3
    clear hP1 hD1 hPc hDc hFc hk1
    generalize v1 = q_v at hP hD
    generalize m1 = m9 at hP hD hT
    generalize f1 = f at hP hD hT
    have hP : va_P D vwCl [(q_r, .inl (cI, 1, .inl rf)), (q_b, .inr (7, [.ref q_v, .int (0 : Int32), .int (0 : Int32), .int (nI ((gmT pl mv ++ wT 8) ++ [48 + j1 % n]).length)])), (q_v, .inl (cB, m9, .inl f))] H := hP
    have hD : va_D A [(q_r, .inl (cI, 1, .inl rf)), (q_b, .inr (7, [.ref q_v, .int (0 : Int32), .int (0 : Int32), .int (nI ((gmT pl mv ++ wT 8) ++ [48 + j1 % n]).length)])), (q_v, .inl (cB, m9, .inl f))] := hD
    have hPc := hP.sub (ws' := [(q_b, .inr (7, [.ref q_v, .int (0 : Int32), .int (0 : Int32), .int (nI ((gmT pl mv ++ wT 8) ++ [48 + j1 % n]).length)])), (q_v, .inl (cB, m9, .inl f))]) [1, 2] rfl
    have hDc := hD.sub (ws' := [(q_b, .inr (7, [.ref q_v, .int (0 : Int32), .int (0 : Int32), .int (nI ((gmT pl mv ++ wT 8) ++ [48 + j1 % n]).length)])), (q_v, .inl (cB, m9, .inl f))]) [1, 2] (by decide +kernel) rfl
    have hFc := va_free (wc := [(q_b, .inr (7, [.ref q_v, .int (0 : Int32), .int (0 : Int32), .int (nI ((gmT pl mv ++ wT 8) ++ [48 + j1 % n]).length)])), (q_v, .inl (cB, m9, .inl f))]) hD hS hA [1, 2] rfl
    refine va_callr (va_runV (As := []) (rest := []) ⟨hx, hb, hml, hown, hts⟩ (c_J4_toString_0e30d l D X cI cZ cB cG H.size q_b q_v m9 ((gmT pl mv ++ wT 8) ++ [48 + j1 % n]).length f hT.2.2.1 hT.1 hT.2.1) (cwV 0 hts gL_game_J4_toString_0e30d rfl rfl rfl (by decide +kernel) ⟨Nat.le_of_ble_eq_true rfl, Nat.le_of_ble_eq_true rfl⟩) ⟨g_blind, va_recv hK hP (ci := 7) (q0 := 1) rfl rfl, fun U hU hW => g_side hU hW hPc hK hDc hE hS hFc⟩ rfl rfl hl.1 rfl (lv_room (Nat.le_of_ble_eq_true rfl)) dL_game_191 ⟨show 140 + 1 + 0 + 1 + 2 ≤ 150 by omega, show 110000 + 802 + 0 + 802 + 806 ≤ 120000 by omega⟩) hS (fun q _ h => hFc q h) hFc (fun u r4 t H1 locs ht hvm h4 hB hz1 hk1 hS => ?_)
    obtain ⟨v1, f1⟩ := u
    obtain ⟨hP1, hK1, hD1⟩ := hB
    rw [ht] at hP1
    obtain ⟨hP, hD⟩ := va_join (wr := [(q_r, .inl (cI, 1, .inl rf))]) (w1 := [(q_b, .inr (7, [.ref q_v, .int (0 : Int32), .int (0 : Int32), .int (nI ((gmT pl mv ++ wT 8) ++ [48 + j1 % n]).length)])), (q_v, .inl (cB, m9, .inl f)), (r4, .inr (6, [.ref v1, .int (0 : Int32), .int (0 : Int32), .int (0 : Int32)])), (v1, .inl (cB, ((gmT pl mv ++ wT 8) ++ [48 + j1 % n]).length, .inl f1))]) hP hD [1, 2] [0] rfl rfl (by decide +kernel) (by decide +kernel) hk1 hFc hP1 hD1
    generalize H1 = H at hP hS ⊢
    have hP : va_P D vwCl [(q_r, .inl (cI, 1, .inl rf)), (q_b, .inr (7, [.ref q_v, .int (0 : Int32), .int (0 : Int32), .int (nI ((gmT pl mv ++ wT 8) ++ [48 + j1 % n]).length)])), (q_v, .inl (cB, m9, .inl f)), (r4, .inr (6, [.ref v1, .int (0 : Int32), .int (0 : Int32), .int (0 : Int32)])), (v1, .inl (cB, ((gmT pl mv ++ wT 8) ++ [48 + j1 % n]).length, .inl f1))] H := hP
    have hD : va_D A [(q_r, .inl (cI, 1, .inl rf)), (q_b, .inr (7, [.ref q_v, .int (0 : Int32), .int (0 : Int32), .int (nI ((gmT pl mv ++ wT 8) ++ [48 + j1 % n]).length)])), (q_v, .inl (cB, m9, .inl f)), (r4, .inr (6, [.ref v1, .int (0 : Int32), .int (0 : Int32), .int (0 : Int32)])), (v1, .inl (cB, ((gmT pl mv ++ wT 8) ++ [48 + j1 % n]).length, .inl f1))] := hD
    have hP := hP.sub (ws' := [(q_r, .inl (cI, 1, .inl rf)), (r4, .inr (6, [.ref v1, .int (0 : Int32), .int (0 : Int32), .int (0 : Int32)])), (v1, .inl (cB, ((gmT pl mv ++ wT 8) ++ [48 + j1 % n]).length, .inl f1))]) [0, 3, 4] rfl
    have hD := hD.sub (ws' := [(q_r, .inl (cI, 1, .inl rf)), (r4, .inr (6, [.ref v1, .int (0 : Int32), .int (0 : Int32), .int (0 : Int32)])), (v1, .inl (cB, ((gmT pl mv ++ wT 8) ++ [48 + j1 % n]).length, .inl f1))]) [0, 3, 4] (by decide +kernel) rfl
    exact hret r4 (rf, v1, f1, pl, mv, j1 % n) (show 140 + 1 + 0 + 1 + 2 ≤ 150 by omega) (show 110000 + 802 + 0 + 802 + 806 ≤ 120000 by omega) ⟨hpl, hpn, hmv, hm1, fun j hj => (h4 j hj).trans (hT.2.2.2 j hj)⟩ hP hD hS dL_game_194
  have G2i : ∀ (i9 k7 p9 to9 st9 k9 n9 kk9 nn9 : Nat) (pl mv : List (Nat × Nat)) (rf : Nat → Int32) (q_v m9 : Nat) (f : Nat → Int32) (H : Heap) (locs : List Loc) (ls : Array Slot), p9 + 1 ≤ n → k7 + i9 = 3 → to9 < n → 1 ≤ st9 ∧ st9 ≤ n → k9 + 4 * i9 ≤ kk9 → n9 + 3208 * i9 ≤ nn9 → kk9 ≤ 140 → nn9 ≤ 110000 → gmPl pl → pl.length = n → gmAt n p9 k7 to9 st9 mv → (∀ (mv : List (Nat × Nat)) (rf : Nat → Int32) (q_v m9 : Nat) (f : Nat → Int32) (H : Heap) (locs : List Loc) (ls : Array Slot), gmMv n (p9 + 1) mv → sbT (gmT pl mv) m9 f → va_P D vwCl [(q_r, .inl (cI, 1, .inl rf)), (q_b, .inr (7, [.ref q_v, .int (0 : Int32), .int (0 : Int32), .int (nI (gmT pl mv).length)])), (q_v, .inl (cB, m9, .inl f))] H → va_D A [(q_r, .inl (cI, 1, .inl rf)), (q_b, .inr (7, [.ref q_v, .int (0 : Int32), .int (0 : Int32), .int (nI (gmT pl mv).length)])), (q_v, .inl (cB, m9, .inl f))] → va_S A s.heap H locs → lv_has ls 8 [(0, .int (nI n)), (1, .int (nI cc)), (2, .ref q_r), (3, .ref q_b), (4, .int (nI p9))] → W p l e rm_L_game s m args below meth c H locs (kk9) (nn9) Q (F0 m 170 ls [])) → sbT (gmT pl mv) m9 f → va_P D vwCl [(q_r, .inl (cI, 1, .inl rf)), (q_b, .inr (7, [.ref q_v, .int (0 : Int32), .int (0 : Int32), .int (nI (gmT pl mv).length)])), (q_v, .inl (cB, m9, .inl f))] H → va_D A [(q_r, .inl (cI, 1, .inl rf)), (q_b, .inr (7, [.ref q_v, .int (0 : Int32), .int (0 : Int32), .int (nI (gmT pl mv).length)])), (q_v, .inl (cB, m9, .inl f))] → va_S A s.heap H locs → lv_has ls 8 [(0, .int (nI n)), (1, .int (nI cc)), (2, .ref q_r), (3, .ref q_b), (4, .int (nI p9)), (5, .int (nI to9)), (6, .int (nI st9)), (7, .int (nI k7))] → W p l e rm_L_game s m args below meth c H locs (k9) (n9) Q (F0 m 85 ls []) := by
    intro i9
    induction i9 with
    | zero =>
      intro k7 p9 to9 st9 k9 n9 kk9 nn9 pl mv rf q_v m9 f H locs ls hp9 hk7 hto hst hk9 hn9 hkk hnn hpl hpn hmv hgo hT hP hD hS hl
      obtain rfl : k7 = 3 := by omega
      refine lv_iload hx hb dL_game_85 (lv_at hl 7 rfl) ?_
      refine lv_iconst (v := (3 : Int32)) hx hb dL_game_87 (by decide) ?_
      refine lv_icmp_ge (tgt := 170) hx hb dL_game_88 (by decide) (fun _ => ?_) (fun hbr => absurd ((show nI 3 ≤ nI 3 from nI_le (by omega) (by omega))) hbr)
      refine W.widen (k := kk9) (n := nn9) (by omega) (by omega) ?_
      exact hgo mv rf q_v m9 f H locs ls (gmAt_3 hn0 (by omega) hmv) hT hP hD hS (lv_sub hl [0, 1, 2, 3, 4] rfl)
    | succ i9 ih =>
      intro k7 p9 to9 st9 k9 n9 kk9 nn9 pl mv rf q_v m9 f H locs ls hp9 hk7 hto hst hk9 hn9 hkk hnn hpl hpn hmv hgo hT hP hD hS hl
      have hlen := gmT_len pl mv
      have hml9 := hmv.2.2
      have hk2 : k7 < 3 := by omega
      have hks : k7 * st9 ≤ 2 * 9 := Nat.mul_le_mul (by omega) (by omega)
      refine lv_iload hx hb dL_game_85 (lv_at hl 7 rfl) ?_
      refine lv_iconst (v := (3 : Int32)) hx hb dL_game_87 (by decide) ?_
      refine lv_icmp_ge (tgt := 170) hx hb dL_game_88 (by decide) (fun hbr => absurd hbr ((show ¬ nI 3 ≤ nI k7 from nI_ge hk2 (by omega)))) (fun _ => ?_)
      refine lv_aload_n hx hb dL_game_91 rfl (lv_at hl 2 rfl) ?_
      have hPc := hP.sub (ws' := [(q_r, .inl (cI, 1, .inl rf))]) [0] rfl
      have hDc := hD.sub (ws' := [(q_r, .inl (cI, 1, .inl rf))]) [0] (by decide +kernel) rfl
      have hFc := va_free (wc := [(q_r, .inl (cI, 1, .inl rf))]) hD hS hA [0] rfl
      refine va_calli (va_runS (As := [.ref q_r]) (rest := []) ⟨hx, hb, hml, hown, hts⟩ (c_L_next l D X cI cZ cB cG H.size q_r rf (fun r u => ∃ j, j < 8388608 ∧ r = nI j) hlf (next_ok (fun j o hj => ⟨j, hj, rfl⟩))) (va_cwS 1 hts gL_game_L_next rfl rfl rfl (by decide +kernel) ⟨Nat.le_of_ble_eq_true rfl, Nat.le_of_ble_eq_true rfl⟩) ⟨gL_blind, fun U hU hW => gL_side hU hW hPc hK hDc hE hN hS hFc⟩ rfl rfl hl.1 rfl (lv_room (Nat.le_of_ble_eq_true rfl)) dL_game_92 ⟨show k9 + 0 ≤ 150 by omega, show n9 + 0 ≤ 120000 by omega⟩) hS (fun q _ h => hFc q h) hFc (fun r1 u t H1 locs ht hvm h1 hB hz1 hk1 hS => ?_)
      obtain ⟨rf1, rfl⟩ : ∃ z, z = u := ⟨_, rfl⟩
      obtain ⟨hP1, hK1, hD1⟩ := hB
      rw [ht] at hP1
      obtain ⟨hP, hD⟩ := va_join (wr := [(q_b, .inr (7, [.ref q_v, .int (0 : Int32), .int (0 : Int32), .int (nI (gmT pl mv).length)])), (q_v, .inl (cB, m9, .inl f))]) (w1 := [(q_r, .inl (cI, 1, .inl rf1))]) hP hD [0] [1, 2] rfl rfl (by decide +kernel) (by decide +kernel) hk1 hFc hP1 hD1
      generalize H1 = H at hP hS ⊢
      have hP : va_P D vwCl [(q_b, .inr (7, [.ref q_v, .int (0 : Int32), .int (0 : Int32), .int (nI (gmT pl mv).length)])), (q_v, .inl (cB, m9, .inl f)), (q_r, .inl (cI, 1, .inl rf1))] H := hP
      have hD : va_D A [(q_b, .inr (7, [.ref q_v, .int (0 : Int32), .int (0 : Int32), .int (nI (gmT pl mv).length)])), (q_v, .inl (cB, m9, .inl f)), (q_r, .inl (cI, 1, .inl rf1))] := hD
      obtain ⟨j1, hj1, ej1⟩ := h1
      subst ej1
      clear hP1 hD1 hPc hDc hFc hk1
      generalize rf1 = rf at hP hD
      have hP : va_P D vwCl [(q_b, .inr (7, [.ref q_v, .int (0 : Int32), .int (0 : Int32), .int (nI (gmT pl mv).length)])), (q_v, .inl (cB, m9, .inl f)), (q_r, .inl (cI, 1, .inl rf))] H := hP
      have hD : va_D A [(q_b, .inr (7, [.ref q_v, .int (0 : Int32), .int (0 : Int32), .int (nI (gmT pl mv).length)])), (q_v, .inl (cB, m9, .inl f)), (q_r, .inl (cI, 1, .inl rf))] := hD
      refine lv_iconst (v := (4 : Int32)) hx hb dL_game_95 (by decide) ?_
      refine lv_irem hx hb dL_game_96 (by decide) ?_
      refine W.eq (g2 := F0 m 97 ls [.int (nI (j1 % 4))]) (by rw [show nI j1 - nI j1 / 4 * 4 = nI (j1 % 4) from pk_rem (d := 4) (by omega) (by omega) (by omega)]) ?_
      have SK : ∀ (rf : Nat → Int32) (H : Heap) (locs : List Loc) (ls : Array Slot), va_P D vwCl [(q_r, .inl (cI, 1, .inl rf)), (q_b, .inr (7, [.ref q_v, .int (0 : Int32), .int (0 : Int32), .int (nI (gmT pl mv).length)])), (q_v, .inl (cB, m9, .inl f))] H → va_D A [(q_r, .inl (cI, 1, .inl rf)), (q_b, .inr (7, [.ref q_v, .int (0 : Int32), .int (0 : Int32), .int (nI (gmT pl mv).length)])), (q_v, .inl (cB, m9, .inl f))] → va_S A s.heap H locs → lv_has ls 8 [(0, .int (nI n)), (1, .int (nI cc)), (2, .ref q_r), (3, .ref q_b), (4, .int (nI p9)), (5, .int (nI to9)), (6, .int (nI st9)), (7, .int (nI k7))] → W p l e rm_L_game s m args below meth c H locs (k9 + 0) (n9 + 0) Q (F0 m 164 ls []) := by
        intro rf H locs ls hP hD hS hl
        refine lv_iinc (v := nI (k7 + 1)) (lv' := [(7, .int (nI (k7 + 1))), (0, .int (nI n)), (1, .int (nI cc)), (2, .ref q_r), (3, .ref q_b), (4, .int (nI p9)), (5, .int (nI to9)), (6, .int (nI st9))]) hx hb dL_game_164 hl (k := 7) rfl (nI_1 k7) (by decide) rfl (fun ls hl => ?_)
        refine lv_goto (tgt := 85) hx hb dL_game_167 (by decide) ?_
        exact ih (k7 + 1) p9 to9 st9 (k9 + 0) (n9 + 0) kk9 nn9 pl mv rf q_v m9 f H locs ls hp9 (by omega) hto hst (by omega) (by omega) hkk hnn hpl hpn (gmAt_skip hmv) hgo hT hP hD hS (lv_sub hl [1, 2, 3, 4, 5, 6, 7, 0] rfl)
      have hP := hP.sub (ws' := [(q_r, .inl (cI, 1, .inl rf)), (q_b, .inr (7, [.ref q_v, .int (0 : Int32), .int (0 : Int32), .int (nI (gmT pl mv).length)])), (q_v, .inl (cB, m9, .inl f))]) [2, 0, 1] rfl
      have hD := hD.sub (ws' := [(q_r, .inl (cI, 1, .inl rf)), (q_b, .inr (7, [.ref q_v, .int (0 : Int32), .int (0 : Int32), .int (nI (gmT pl mv).length)])), (q_v, .inl (cB, m9, .inl f))]) [2, 0, 1] (by decide +kernel) rfl
      refine lv_if_le (tgt := 164) hx hb dL_game_97 (by decide) (fun hc => ?_) (fun hc => ?_)
      · exact SK _ _ _ _ hP hD hS (lv_sub hl [0, 1, 2, 3, 4, 5, 6, 7] rfl)
      · skip
        refine lv_iload hx hb dL_game_100 (lv_at hl 7 rfl) ?_
        refine lv_iload hx hb dL_game_102 (lv_at hl 6 rfl) ?_
        refine lv_imul hx hb dL_game_104 ?_
        refine W.eq (g2 := F0 m 105 ls [.int (nI (k7 * st9))]) (by rw [pk_mul]) ?_
        refine lv_iload_n hx hb dL_game_105 rfl (lv_at hl 0 rfl) ?_
        refine lv_irem hx hb dL_game_106 (nI_ne0 hn0 (by omega)) ?_
        refine W.eq (g2 := F0 m 107 ls [.int (nI ((k7 * st9) % n))]) (by rw [pk_rem (by omega) hn0 (by omega)]) ?_
        have A5 : (k7 * st9 % n ≠ 0 ∨ k7 = 0) → ∀ (ls : Array Slot), lv_has ls 8 [(0, .int (nI n)), (1, .int (nI cc)), (2, .ref q_r), (3, .ref q_b), (4, .int (nI p9)), (5, .int (nI to9)), (6, .int (nI st9)), (7, .int (nI k7))] → W p l e rm_L_game s m args below meth c H locs (k9 + 0) (n9 + 0) Q (F0 m 115 ls []) := by
          intro hk1 ls hl
          have A6 : (k7 < 2 ∨ 2 * st9 % n ≠ st9 % n) → ∀ (ls : Array Slot), lv_has ls 8 [(0, .int (nI n)), (1, .int (nI cc)), (2, .ref q_r), (3, .ref q_b), (4, .int (nI p9)), (5, .int (nI to9)), (6, .int (nI st9)), (7, .int (nI k7))] → W p l e rm_L_game s m args below meth c H locs (k9 + 0) (n9 + 0) Q (F0 m 134 ls []) := by
            intro hk3 ls hl
            refine lv_aload_n hx hb dL_game_134 rfl (lv_at hl 3 rfl) ?_
            refine va_ldcS hx hb hown (hE.2.2.2.2.2.2.2.2.2.2.1 (72, ";move ", 7) (List.mem_of_getElem? (i := 3) rfl)) dL_game_135 ?_
            have hPc := hP.sub (ws' := [(q_b, .inr (7, [.ref q_v, .int (0 : Int32), .int (0 : Int32), .int (nI (gmT pl mv).length)])), (q_v, .inl (cB, m9, .inl f))]) [1, 2] rfl
            have hDc := hD.sub (ws' := [(q_b, .inr (7, [.ref q_v, .int (0 : Int32), .int (0 : Int32), .int (nI (gmT pl mv).length)])), (q_v, .inl (cB, m9, .inl f))]) [1, 2] (by decide +kernel) rfl
            have hFc := va_free (wc := [(q_b, .inr (7, [.ref q_v, .int (0 : Int32), .int (0 : Int32), .int (nI (gmT pl mv).length)])), (q_v, .inl (cB, m9, .inl f))]) hD hS hA [1, 2] rfl
            refine va_callr (va_runV (As := [.ref (X.1 7)]) (rest := []) ⟨hx, hb, hml, hown, hts⟩ (c_J4_append_15ec4t l D X cI cZ cB cG H.size 7 (by decide) q_b q_v m9 (gmT pl mv) f hT (by have : gLen.getD 7 0 = 6 := rfl; omega)) (cwV 1 hts gL_game_J4_append_15ec4 rfl rfl rfl (by decide +kernel) ⟨Nat.le_of_ble_eq_true rfl, Nat.le_of_ble_eq_true rfl⟩) ⟨g_blind, va_recv hK hP (ci := 7) (q0 := 1) rfl rfl, fun U hU hW => g_side hU hW hPc hK hDc hE hS hFc⟩ rfl rfl hl.1 rfl (lv_room (Nat.le_of_ble_eq_true rfl)) dL_game_137 ⟨show k9 + 0 + 1 ≤ 150 by omega, show n9 + 0 + 802 ≤ 120000 by omega⟩) hS (fun q _ h => hFc q h) hFc (fun u r1 t H1 locs ht hvm h1 hB hz1 hk1 hS => ?_)
            obtain ⟨v1, m1, f1⟩ := u
            obtain ⟨hb9, hP1, hK1, hD1⟩ := hB; have hb9 := hb9.symm; subst hb9
            rw [ht] at hP1
            obtain ⟨hP, hD⟩ := va_join (wr := [(q_r, .inl (cI, 1, .inl rf))]) (w1 := [(q_b, .inr (7, [.ref v1, .int (0 : Int32), .int (0 : Int32), .int (nI (gmT pl mv ++ wT 7).length)])), (v1, .inl (cB, m1, .inl f1))]) hP hD [1, 2] [0] rfl rfl (by decide +kernel) (by decide +kernel) hk1 hFc hP1 hD1
            generalize H1 = H at hP hS ⊢
            have hP : va_P D vwCl [(q_r, .inl (cI, 1, .inl rf)), (q_b, .inr (7, [.ref v1, .int (0 : Int32), .int (0 : Int32), .int (nI (gmT pl mv ++ wT 7).length)])), (v1, .inl (cB, m1, .inl f1))] H := hP
            have hD : va_D A [(q_r, .inl (cI, 1, .inl rf)), (q_b, .inr (7, [.ref v1, .int (0 : Int32), .int (0 : Int32), .int (nI (gmT pl mv ++ wT 7).length)])), (v1, .inl (cB, m1, .inl f1))] := hD
            have hT : sbT (gmT pl mv ++ wT 7) m1 f1 := h1
            clear hP1 hD1 hPc hDc hFc hk1
            generalize v1 = q_v at hP hD
            generalize m1 = m9 at hP hD hT
            generalize f1 = f at hP hD hT
            have hP : va_P D vwCl [(q_r, .inl (cI, 1, .inl rf)), (q_b, .inr (7, [.ref q_v, .int (0 : Int32), .int (0 : Int32), .int (nI (gmT pl mv ++ wT 7).length)])), (q_v, .inl (cB, m9, .inl f))] H := hP
            have hD : va_D A [(q_r, .inl (cI, 1, .inl rf)), (q_b, .inr (7, [.ref q_v, .int (0 : Int32), .int (0 : Int32), .int (nI (gmT pl mv ++ wT 7).length)])), (q_v, .inl (cB, m9, .inl f))] := hD
            refine lv_iload hx hb dL_game_140 (lv_at hl 4 rfl) ?_
            have hPc := hP.sub (ws' := [(q_b, .inr (7, [.ref q_v, .int (0 : Int32), .int (0 : Int32), .int (nI (gmT pl mv ++ wT 7).length)])), (q_v, .inl (cB, m9, .inl f))]) [1, 2] rfl
            have hDc := hD.sub (ws' := [(q_b, .inr (7, [.ref q_v, .int (0 : Int32), .int (0 : Int32), .int (nI (gmT pl mv ++ wT 7).length)])), (q_v, .inl (cB, m9, .inl f))]) [1, 2] (by decide +kernel) rfl
            have hFc := va_free (wc := [(q_b, .inr (7, [.ref q_v, .int (0 : Int32), .int (0 : Int32), .int (nI (gmT pl mv ++ wT 7).length)])), (q_v, .inl (cB, m9, .inl f))]) hD hS hA [1, 2] rfl
            refine va_callr (va_runV (As := [.int (nI p9)]) (rest := []) ⟨hx, hb, hml, hown, hts⟩ (c_J4_append_bf812t l D X cI cZ cB cG H.size p9 (by omega) q_b q_v m9 (gmT pl mv ++ wT 7) f hT (by rw [List.length_append]; have : (wT 7).length = 6 := rfl; omega)) (cwV 1 hts gL_game_J4_append_bf812 rfl rfl rfl (by decide +kernel) ⟨Nat.le_of_ble_eq_true rfl, Nat.le_of_ble_eq_true rfl⟩) ⟨g_blind, va_recv hK hP (ci := 7) (q0 := 1) rfl rfl, fun U hU hW => g_side hU hW hPc hK hDc hE hS hFc⟩ rfl rfl hl.1 rfl (lv_room (Nat.le_of_ble_eq_true rfl)) dL_game_142 ⟨show k9 + 0 + 1 + 1 ≤ 150 by omega, show n9 + 0 + 802 + 802 ≤ 120000 by omega⟩) hS (fun q _ h => hFc q h) hFc (fun u r2 t H1 locs ht hvm h2 hB hz1 hk1 hS => ?_)
            obtain ⟨v1, m1, f1⟩ := u
            obtain ⟨hb9, hP1, hK1, hD1⟩ := hB; have hb9 := hb9.symm; subst hb9
            rw [ht] at hP1
            obtain ⟨hP, hD⟩ := va_join (wr := [(q_r, .inl (cI, 1, .inl rf))]) (w1 := [(q_b, .inr (7, [.ref v1, .int (0 : Int32), .int (0 : Int32), .int (nI ((gmT pl mv ++ wT 7) ++ [48 + p9]).length)])), (v1, .inl (cB, m1, .inl f1))]) hP hD [1, 2] [0] rfl rfl (by decide +kernel) (by decide +kernel) hk1 hFc hP1 hD1
            generalize H1 = H at hP hS ⊢
            have hP : va_P D vwCl [(q_r, .inl (cI, 1, .inl rf)), (q_b, .inr (7, [.ref v1, .int (0 : Int32), .int (0 : Int32), .int (nI ((gmT pl mv ++ wT 7) ++ [48 + p9]).length)])), (v1, .inl (cB, m1, .inl f1))] H := hP
            have hD : va_D A [(q_r, .inl (cI, 1, .inl rf)), (q_b, .inr (7, [.ref v1, .int (0 : Int32), .int (0 : Int32), .int (nI ((gmT pl mv ++ wT 7) ++ [48 + p9]).length)])), (v1, .inl (cB, m1, .inl f1))] := hD
            have hT : sbT ((gmT pl mv ++ wT 7) ++ [48 + p9]) m1 f1 := h2
            clear hP1 hD1 hPc hDc hFc hk1
            generalize v1 = q_v at hP hD
            generalize m1 = m9 at hP hD hT
            generalize f1 = f at hP hD hT
            have hP : va_P D vwCl [(q_r, .inl (cI, 1, .inl rf)), (q_b, .inr (7, [.ref q_v, .int (0 : Int32), .int (0 : Int32), .int (nI ((gmT pl mv ++ wT 7) ++ [48 + p9]).length)])), (q_v, .inl (cB, m9, .inl f))] H := hP
            have hD : va_D A [(q_r, .inl (cI, 1, .inl rf)), (q_b, .inr (7, [.ref q_v, .int (0 : Int32), .int (0 : Int32), .int (nI ((gmT pl mv ++ wT 7) ++ [48 + p9]).length)])), (q_v, .inl (cB, m9, .inl f))] := hD
            refine lv_bipush (v := (32 : Int32)) hx hb dL_game_145 (by decide) ?_
            refine W.eq (g2 := F0 m 147 ls [.int (nI 32), .ref q_b]) rfl ?_
            have hPc := hP.sub (ws' := [(q_b, .inr (7, [.ref q_v, .int (0 : Int32), .int (0 : Int32), .int (nI ((gmT pl mv ++ wT 7) ++ [48 + p9]).length)])), (q_v, .inl (cB, m9, .inl f))]) [1, 2] rfl
            have hDc := hD.sub (ws' := [(q_b, .inr (7, [.ref q_v, .int (0 : Int32), .int (0 : Int32), .int (nI ((gmT pl mv ++ wT 7) ++ [48 + p9]).length)])), (q_v, .inl (cB, m9, .inl f))]) [1, 2] (by decide +kernel) rfl
            have hFc := va_free (wc := [(q_b, .inr (7, [.ref q_v, .int (0 : Int32), .int (0 : Int32), .int (nI ((gmT pl mv ++ wT 7) ++ [48 + p9]).length)])), (q_v, .inl (cB, m9, .inl f))]) hD hS hA [1, 2] rfl
            refine va_callr (va_runV (As := [.int (nI 32)]) (rest := []) ⟨hx, hb, hml, hown, hts⟩ (c_J4_append_cf468t l D X cI cZ cB cG H.size 32 (by decide) q_b q_v m9 ((gmT pl mv ++ wT 7) ++ [48 + p9]) f hT (by rw [List.length_append, List.length_append]; have : (wT 7).length = 6 := rfl; simp only [List.length_singleton]; omega)) (cwV 1 hts gL_game_J4_append_cf468 rfl rfl rfl (by decide +kernel) ⟨Nat.le_of_ble_eq_true rfl, Nat.le_of_ble_eq_true rfl⟩) ⟨g_blind, va_recv hK hP (ci := 7) (q0 := 1) rfl rfl, fun U hU hW => g_side hU hW hPc hK hDc hE hS hFc⟩ rfl rfl hl.1 rfl (lv_room (Nat.le_of_ble_eq_true rfl)) dL_game_147 ⟨show k9 + 0 + 1 + 1 + 1 ≤ 150 by omega, show n9 + 0 + 802 + 802 + 802 ≤ 120000 by omega⟩) hS (fun q _ h => hFc q h) hFc (fun u r3 t H1 locs ht hvm h3 hB hz1 hk1 hS => ?_)
            obtain ⟨v1, m1, f1⟩ := u
            obtain ⟨hb9, hP1, hK1, hD1⟩ := hB; have hb9 := hb9.symm; subst hb9
            rw [ht] at hP1
            obtain ⟨hP, hD⟩ := va_join (wr := [(q_r, .inl (cI, 1, .inl rf))]) (w1 := [(q_b, .inr (7, [.ref v1, .int (0 : Int32), .int (0 : Int32), .int (nI (((gmT pl mv ++ wT 7) ++ [48 + p9]) ++ [32]).length)])), (v1, .inl (cB, m1, .inl f1))]) hP hD [1, 2] [0] rfl rfl (by decide +kernel) (by decide +kernel) hk1 hFc hP1 hD1
            generalize H1 = H at hP hS ⊢
            have hP : va_P D vwCl [(q_r, .inl (cI, 1, .inl rf)), (q_b, .inr (7, [.ref v1, .int (0 : Int32), .int (0 : Int32), .int (nI (((gmT pl mv ++ wT 7) ++ [48 + p9]) ++ [32]).length)])), (v1, .inl (cB, m1, .inl f1))] H := hP
            have hD : va_D A [(q_r, .inl (cI, 1, .inl rf)), (q_b, .inr (7, [.ref v1, .int (0 : Int32), .int (0 : Int32), .int (nI (((gmT pl mv ++ wT 7) ++ [48 + p9]) ++ [32]).length)])), (v1, .inl (cB, m1, .inl f1))] := hD
            have hT : sbT (((gmT pl mv ++ wT 7) ++ [48 + p9]) ++ [32]) m1 f1 := h3
            clear hP1 hD1 hPc hDc hFc hk1
            generalize v1 = q_v at hP hD
            generalize m1 = m9 at hP hD hT
            generalize f1 = f at hP hD hT
            have hP : va_P D vwCl [(q_r, .inl (cI, 1, .inl rf)), (q_b, .inr (7, [.ref q_v, .int (0 : Int32), .int (0 : Int32), .int (nI (((gmT pl mv ++ wT 7) ++ [48 + p9]) ++ [32]).length)])), (q_v, .inl (cB, m9, .inl f))] H := hP
            have hD : va_D A [(q_r, .inl (cI, 1, .inl rf)), (q_b, .inr (7, [.ref q_v, .int (0 : Int32), .int (0 : Int32), .int (nI (((gmT pl mv ++ wT 7) ++ [48 + p9]) ++ [32]).length)])), (q_v, .inl (cB, m9, .inl f))] := hD
            refine lv_iload hx hb dL_game_150 (lv_at hl 5 rfl) ?_
            refine lv_iload hx hb dL_game_152 (lv_at hl 7 rfl) ?_
            refine lv_iload hx hb dL_game_154 (lv_at hl 6 rfl) ?_
            refine lv_imul hx hb dL_game_156 ?_
            refine W.eq (g2 := F0 m 157 ls [.int (nI (k7 * st9)), .int (nI to9), .ref q_b]) (by rw [pk_mul]) ?_
            refine lv_iadd hx hb dL_game_157 ?_
            refine W.eq (g2 := F0 m 158 ls [.int (nI (to9 + k7 * st9)), .ref q_b]) (by rw [nI_add]) ?_
            refine lv_iload_n hx hb dL_game_158 rfl (lv_at hl 0 rfl) ?_
            refine lv_irem hx hb dL_game_159 (nI_ne0 hn0 (by omega)) ?_
            refine W.eq (g2 := F0 m 160 ls [.int (nI ((to9 + k7 * st9) % n)), .ref q_b]) (by rw [pk_rem (by omega) hn0 (by omega)]) ?_
            have hm1 : (to9 + k7 * st9) % n < n := Nat.mod_lt _ hn0
            have hPc := hP.sub (ws' := [(q_b, .inr (7, [.ref q_v, .int (0 : Int32), .int (0 : Int32), .int (nI (((gmT pl mv ++ wT 7) ++ [48 + p9]) ++ [32]).length)])), (q_v, .inl (cB, m9, .inl f))]) [1, 2] rfl
            have hDc := hD.sub (ws' := [(q_b, .inr (7, [.ref q_v, .int (0 : Int32), .int (0 : Int32), .int (nI (((gmT pl mv ++ wT 7) ++ [48 + p9]) ++ [32]).length)])), (q_v, .inl (cB, m9, .inl f))]) [1, 2] (by decide +kernel) rfl
            have hFc := va_free (wc := [(q_b, .inr (7, [.ref q_v, .int (0 : Int32), .int (0 : Int32), .int (nI (((gmT pl mv ++ wT 7) ++ [48 + p9]) ++ [32]).length)])), (q_v, .inl (cB, m9, .inl f))]) hD hS hA [1, 2] rfl
            refine va_callr (va_runV (As := [.int (nI ((to9 + k7 * st9) % n))]) (rest := []) ⟨hx, hb, hml, hown, hts⟩ (c_J4_append_bf812t l D X cI cZ cB cG H.size ((to9 + k7 * st9) % n) (by omega) q_b q_v m9 (((gmT pl mv ++ wT 7) ++ [48 + p9]) ++ [32]) f hT (by rw [List.length_append, List.length_append, List.length_append]; have : (wT 7).length = 6 := rfl; simp only [List.length_singleton]; omega)) (cwV 1 hts gL_game_J4_append_bf812 rfl rfl rfl (by decide +kernel) ⟨Nat.le_of_ble_eq_true rfl, Nat.le_of_ble_eq_true rfl⟩) ⟨g_blind, va_recv hK hP (ci := 7) (q0 := 1) rfl rfl, fun U hU hW => g_side hU hW hPc hK hDc hE hS hFc⟩ rfl rfl hl.1 rfl (lv_room (Nat.le_of_ble_eq_true rfl)) dL_game_160 ⟨show k9 + 0 + 1 + 1 + 1 + 1 ≤ 150 by omega, show n9 + 0 + 802 + 802 + 802 + 802 ≤ 120000 by omega⟩) hS (fun q _ h => hFc q h) hFc (fun u r4 t H1 locs ht hvm h4 hB hz1 hk1 hS => ?_)
            obtain ⟨v1, m1, f1⟩ := u
            obtain ⟨hb9, hP1, hK1, hD1⟩ := hB; have hb9 := hb9.symm; subst hb9
            rw [ht] at hP1
            obtain ⟨hP, hD⟩ := va_join (wr := [(q_r, .inl (cI, 1, .inl rf))]) (w1 := [(q_b, .inr (7, [.ref v1, .int (0 : Int32), .int (0 : Int32), .int (nI ((((gmT pl mv ++ wT 7) ++ [48 + p9]) ++ [32]) ++ [48 + (to9 + k7 * st9) % n]).length)])), (v1, .inl (cB, m1, .inl f1))]) hP hD [1, 2] [0] rfl rfl (by decide +kernel) (by decide +kernel) hk1 hFc hP1 hD1
            generalize H1 = H at hP hS ⊢
            have hP : va_P D vwCl [(q_r, .inl (cI, 1, .inl rf)), (q_b, .inr (7, [.ref v1, .int (0 : Int32), .int (0 : Int32), .int (nI ((((gmT pl mv ++ wT 7) ++ [48 + p9]) ++ [32]) ++ [48 + (to9 + k7 * st9) % n]).length)])), (v1, .inl (cB, m1, .inl f1))] H := hP
            have hD : va_D A [(q_r, .inl (cI, 1, .inl rf)), (q_b, .inr (7, [.ref v1, .int (0 : Int32), .int (0 : Int32), .int (nI ((((gmT pl mv ++ wT 7) ++ [48 + p9]) ++ [32]) ++ [48 + (to9 + k7 * st9) % n]).length)])), (v1, .inl (cB, m1, .inl f1))] := hD
            have hT : sbT ((((gmT pl mv ++ wT 7) ++ [48 + p9]) ++ [32]) ++ [48 + (to9 + k7 * st9) % n]) m1 f1 := h4
            clear hP1 hD1 hPc hDc hFc hk1
            generalize v1 = q_v at hP hD
            generalize m1 = m9 at hP hD hT
            generalize f1 = f at hP hD hT
            have hP : va_P D vwCl [(q_r, .inl (cI, 1, .inl rf)), (q_b, .inr (7, [.ref q_v, .int (0 : Int32), .int (0 : Int32), .int (nI ((((gmT pl mv ++ wT 7) ++ [48 + p9]) ++ [32]) ++ [48 + (to9 + k7 * st9) % n]).length)])), (q_v, .inl (cB, m9, .inl f))] H := hP
            have hD : va_D A [(q_r, .inl (cI, 1, .inl rf)), (q_b, .inr (7, [.ref q_v, .int (0 : Int32), .int (0 : Int32), .int (nI ((((gmT pl mv ++ wT 7) ++ [48 + p9]) ++ [32]) ++ [48 + (to9 + k7 * st9) % n]).length)])), (q_v, .inl (cB, m9, .inl f))] := hD
            refine lv_pop hx hb dL_game_163 rfl ?_
            refine lv_iinc (v := nI (k7 + 1)) (lv' := [(7, .int (nI (k7 + 1))), (0, .int (nI n)), (1, .int (nI cc)), (2, .ref q_r), (3, .ref q_b), (4, .int (nI p9)), (5, .int (nI to9)), (6, .int (nI st9))]) hx hb dL_game_164 hl (k := 7) rfl (nI_1 k7) (by decide) rfl (fun ls hl => ?_)
            refine lv_goto (tgt := 85) hx hb dL_game_167 (by decide) ?_
            have eT : (((gmT pl mv ++ wT 7) ++ [48 + p9]) ++ [32]) ++ [48 + (to9 + k7 * st9) % n] = gmT pl (mv ++ [(p9, (to9 + k7 * st9) % n)]) := by rw [gmT_mv]; simp only [mvCh, List.append_assoc]
            rw [eT] at hT hP hD
            exact ih (k7 + 1) p9 to9 st9 (k9 + 0 + 1 + 1 + 1 + 1) (n9 + 0 + 802 + 802 + 802 + 802) kk9 nn9 pl (mv ++ [(p9, (to9 + k7 * st9) % n)]) rf q_v m9 f H locs ls hp9 (by omega) hto hst (by omega) (by omega) hkk hnn hpl hpn (gmAt_put hk2 hk1 hk3 hmv) hgo hT hP hD hS (lv_sub hl [1, 2, 3, 4, 5, 6, 7, 0] rfl)
          refine lv_iload hx hb dL_game_115 (lv_at hl 7 rfl) ?_
          refine lv_iconst (v := (2 : Int32)) hx hb dL_game_117 (by decide) ?_
          by_cases hk3 : k7 < 2
          · refine lv_icmp_lt (tgt := 134) hx hb dL_game_118 (by decide) (fun _ => ?_) (fun hbr => absurd ((show nI k7 < nI 2 from nI_lt hk3 (by omega))) hbr)
            exact A6 (Or.inl hk3) ls (lv_sub hl [0, 1, 2, 3, 4, 5, 6, 7] rfl)
          · refine lv_icmp_lt (tgt := 134) hx hb dL_game_118 (by decide) (fun hbr => absurd hbr ((show ¬ nI k7 < nI 2 from nI_nlt (by omega) (by omega)))) (fun _ => ?_)
            refine lv_iconst (v := (2 : Int32)) hx hb dL_game_121 (by decide) ?_
            refine lv_iload hx hb dL_game_122 (lv_at hl 6 rfl) ?_
            refine lv_imul hx hb dL_game_124 ?_
            refine W.eq (g2 := F0 m 125 ls [.int (nI (2 * st9))]) (by rw [show (2 : Int32) * nI st9 = nI (2 * st9) from pk_mul 2 st9]) ?_
            refine lv_iload_n hx hb dL_game_125 rfl (lv_at hl 0 rfl) ?_
            refine lv_irem hx hb dL_game_126 (nI_ne0 hn0 (by omega)) ?_
            refine W.eq (g2 := F0 m 127 ls [.int (nI ((2 * st9) % n))]) (by rw [pk_rem (by omega) hn0 (by omega)]) ?_
            refine lv_iload hx hb dL_game_127 (lv_at hl 6 rfl) ?_
            refine lv_iload_n hx hb dL_game_129 rfl (lv_at hl 0 rfl) ?_
            refine lv_irem hx hb dL_game_130 (nI_ne0 hn0 (by omega)) ?_
            refine W.eq (g2 := F0 m 131 ls [.int (nI (st9 % n)), .int (nI ((2 * st9) % n))]) (by rw [pk_rem (by omega) hn0 (by omega)]) ?_
            have hmA : 2 * st9 % n < n := Nat.mod_lt _ hn0
            have hmB : st9 % n < n := Nat.mod_lt _ hn0
            by_cases hk4 : 2 * st9 % n = st9 % n
            · refine lv_icmp_eq (tgt := 164) hx hb dL_game_131 (by decide) (fun _ => ?_) (fun hbr => absurd (by rw [hk4]) hbr)
              exact SK _ _ _ _ hP hD hS (lv_sub hl [0, 1, 2, 3, 4, 5, 6, 7] rfl)
            · refine lv_icmp_eq (tgt := 164) hx hb dL_game_131 (by decide) (fun hbr => absurd hbr ((nI_ne (by omega) (by omega) hk4))) (fun _ => ?_)
              exact A6 (Or.inr hk4) ls (lv_sub hl [0, 1, 2, 3, 4, 5, 6, 7] rfl)
        refine lv_if_ne (tgt := 115) hx hb dL_game_107 (by decide) (fun hc => ?_) (fun hc => ?_)
        · exact A5 (Or.inl (fun z => hc (by rw [z]; rfl))) ls (lv_sub hl [0, 1, 2, 3, 4, 5, 6, 7] rfl)
        · refine lv_iload hx hb dL_game_110 (lv_at hl 7 rfl) ?_
          by_cases hk0 : k7 = 0
          · refine lv_if_ne (tgt := 164) hx hb dL_game_112 (by decide) (fun hbr => absurd (show nI k7 = 0 by rw [hk0]; rfl) hbr) (fun _ => ?_)
            exact A5 (Or.inr hk0) ls (lv_sub hl [0, 1, 2, 3, 4, 5, 6, 7] rfl)
          · refine lv_if_ne (tgt := 164) hx hb dL_game_112 (by decide) (fun _ => ?_) (fun hbr => absurd hbr ((show ¬ nI k7 = 0 from nI_ne0 (by omega) (by omega))))
            exact SK _ _ _ _ hP hD hS (lv_sub hl [0, 1, 2, 3, 4, 5, 6, 7] rfl)
  have G2 : ∀ (j9 p9 k9 n9 : Nat) (pl mv : List (Nat × Nat)) (rf : Nat → Int32) (q_v m9 : Nat) (f : Nat → Int32) (H : Heap) (locs : List Loc) (ls : Array Slot), p9 + j9 = n → k9 + 12 * j9 ≤ 140 → n9 + 9624 * j9 ≤ 110000 → gmPl pl → pl.length = n → gmMv n p9 mv → sbT (gmT pl mv) m9 f → va_P D vwCl [(q_r, .inl (cI, 1, .inl rf)), (q_b, .inr (7, [.ref q_v, .int (0 : Int32), .int (0 : Int32), .int (nI (gmT pl mv).length)])), (q_v, .inl (cB, m9, .inl f))] H → va_D A [(q_r, .inl (cI, 1, .inl rf)), (q_b, .inr (7, [.ref q_v, .int (0 : Int32), .int (0 : Int32), .int (nI (gmT pl mv).length)])), (q_v, .inl (cB, m9, .inl f))] → va_S A s.heap H locs → lv_has ls 8 [(0, .int (nI n)), (1, .int (nI cc)), (2, .ref q_r), (3, .ref q_b), (4, .int (nI p9))] → W p l e rm_L_game s m args below meth c H locs (k9) (n9) Q (F0 m 58 ls []) := by
    intro j9
    induction j9 with
    | zero =>
      intro p9 k9 n9 pl mv rf q_v m9 f H locs ls hp9 hk9 hn9 hpl hpn hmv hT hP hD hS hl
      refine lv_iload hx hb dL_game_58 (lv_at hl 4 rfl) ?_
      refine lv_iload_n hx hb dL_game_60 rfl (lv_at hl 0 rfl) ?_
      refine lv_icmp_ge (tgt := 176) hx hb dL_game_61 (by decide) (fun _ => ?_) (fun hbr => absurd ((show nI n ≤ nI p9 from nI_le (by omega) (by omega))) hbr)
      obtain rfl : p9 = n := by omega
      refine W.widen (k := 140) (n := 110000) (by omega) (by omega) ?_
      exact G3 pl mv rf q_v m9 f H locs ls hpl hpn hmv hT hP hD hS (lv_sub hl [0, 2, 3] rfl)
    | succ j9 ih =>
      intro p9 k9 n9 pl mv rf q_v m9 f H locs ls hp9 hk9 hn9 hpl hpn hmv hT hP hD hS hl
      refine lv_iload hx hb dL_game_58 (lv_at hl 4 rfl) ?_
      refine lv_iload_n hx hb dL_game_60 rfl (lv_at hl 0 rfl) ?_
      refine lv_icmp_ge (tgt := 176) hx hb dL_game_61 (by decide) (fun hbr => absurd hbr ((show ¬ nI n ≤ nI p9 from nI_ge (by omega) (by omega)))) (fun _ => ?_)
      refine lv_aload_n hx hb dL_game_64 rfl (lv_at hl 2 rfl) ?_
      have hPc := hP.sub (ws' := [(q_r, .inl (cI, 1, .inl rf))]) [0] rfl
      have hDc := hD.sub (ws' := [(q_r, .inl (cI, 1, .inl rf))]) [0] (by decide +kernel) rfl
      have hFc := va_free (wc := [(q_r, .inl (cI, 1, .inl rf))]) hD hS hA [0] rfl
      refine va_calli (va_runS (As := [.ref q_r]) (rest := []) ⟨hx, hb, hml, hown, hts⟩ (c_L_next l D X cI cZ cB cG H.size q_r rf (fun r u => ∃ j, j < 8388608 ∧ r = nI j) hlf (next_ok (fun j o hj => ⟨j, hj, rfl⟩))) (va_cwS 1 hts gL_game_L_next rfl rfl rfl (by decide +kernel) ⟨Nat.le_of_ble_eq_true rfl, Nat.le_of_ble_eq_true rfl⟩) ⟨gL_blind, fun U hU hW => gL_side hU hW hPc hK hDc hE hN hS hFc⟩ rfl rfl hl.1 rfl (lv_room (Nat.le_of_ble_eq_true rfl)) dL_game_65 ⟨show k9 + 0 ≤ 150 by omega, show n9 + 0 ≤ 120000 by omega⟩) hS (fun q _ h => hFc q h) hFc (fun r1 u t H1 locs ht hvm h1 hB hz1 hk1 hS => ?_)
      obtain ⟨rf1, rfl⟩ : ∃ z, z = u := ⟨_, rfl⟩
      obtain ⟨hP1, hK1, hD1⟩ := hB
      rw [ht] at hP1
      obtain ⟨hP, hD⟩ := va_join (wr := [(q_b, .inr (7, [.ref q_v, .int (0 : Int32), .int (0 : Int32), .int (nI (gmT pl mv).length)])), (q_v, .inl (cB, m9, .inl f))]) (w1 := [(q_r, .inl (cI, 1, .inl rf1))]) hP hD [0] [1, 2] rfl rfl (by decide +kernel) (by decide +kernel) hk1 hFc hP1 hD1
      generalize H1 = H at hP hS ⊢
      have hP : va_P D vwCl [(q_b, .inr (7, [.ref q_v, .int (0 : Int32), .int (0 : Int32), .int (nI (gmT pl mv).length)])), (q_v, .inl (cB, m9, .inl f)), (q_r, .inl (cI, 1, .inl rf1))] H := hP
      have hD : va_D A [(q_b, .inr (7, [.ref q_v, .int (0 : Int32), .int (0 : Int32), .int (nI (gmT pl mv).length)])), (q_v, .inl (cB, m9, .inl f)), (q_r, .inl (cI, 1, .inl rf1))] := hD
      obtain ⟨j1, hj1, ej1⟩ := h1
      subst ej1
      clear hP1 hD1 hPc hDc hFc hk1
      generalize rf1 = rf at hP hD
      have hP : va_P D vwCl [(q_b, .inr (7, [.ref q_v, .int (0 : Int32), .int (0 : Int32), .int (nI (gmT pl mv).length)])), (q_v, .inl (cB, m9, .inl f)), (q_r, .inl (cI, 1, .inl rf))] H := hP
      have hD : va_D A [(q_b, .inr (7, [.ref q_v, .int (0 : Int32), .int (0 : Int32), .int (nI (gmT pl mv).length)])), (q_v, .inl (cB, m9, .inl f)), (q_r, .inl (cI, 1, .inl rf))] := hD
      refine lv_iload_n hx hb dL_game_68 rfl (lv_at hl 0 rfl) ?_
      refine lv_irem hx hb dL_game_69 (nI_ne0 hn0 (by omega)) ?_
      refine W.eq (g2 := F0 m 70 ls [.int (nI (j1 % n))]) (by rw [pk_rem (by omega) hn0 (by omega)]) ?_
      refine lv_istore (lv' := [(5, .int (nI (j1 % n))), (0, .int (nI n)), (1, .int (nI cc)), (2, .ref q_r), (3, .ref q_b), (4, .int (nI p9))]) hx hb dL_game_70 hl (by decide) rfl (fun ls hl => ?_)
      refine lv_iconst (v := (1 : Int32)) hx hb dL_game_72 (by decide) ?_
      refine lv_aload_n hx hb dL_game_73 rfl (lv_at hl 3 rfl) ?_
      have hPc := hP.sub (ws' := [(q_r, .inl (cI, 1, .inl rf))]) [2] rfl
      have hDc := hD.sub (ws' := [(q_r, .inl (cI, 1, .inl rf))]) [2] (by decide +kernel) rfl
      have hFc := va_free (wc := [(q_r, .inl (cI, 1, .inl rf))]) hD hS hA [2] rfl
      refine va_calli (va_runS (As := [.ref q_r]) (rest := [.int (1 : Int32)]) ⟨hx, hb, hml, hown, hts⟩ (c_L_next l D X cI cZ cB cG H.size q_r rf (fun r u => ∃ j, j < 8388608 ∧ r = nI j) hlf (next_ok (fun j o hj => ⟨j, hj, rfl⟩))) (va_cwS 1 hts gL_game_L_next rfl rfl rfl (by decide +kernel) ⟨Nat.le_of_ble_eq_true rfl, Nat.le_of_ble_eq_true rfl⟩) ⟨gL_blind, fun U hU hW => gL_side hU hW hPc hK hDc hE hN hS hFc⟩ rfl rfl hl.1 rfl (lv_room (Nat.le_of_ble_eq_true rfl)) dL_game_74 ⟨show k9 + 0 + 0 ≤ 150 by omega, show n9 + 0 + 0 ≤ 120000 by omega⟩) hS (fun q _ h => hFc q h) hFc (fun r2 u t H1 locs ht hvm h2 hB hz1 hk1 hS => ?_)
      obtain ⟨rf1, rfl⟩ : ∃ z, z = u := ⟨_, rfl⟩
      obtain ⟨hP1, hK1, hD1⟩ := hB
      rw [ht] at hP1
      obtain ⟨hP, hD⟩ := va_join (wr := [(q_b, .inr (7, [.ref q_v, .int (0 : Int32), .int (0 : Int32), .int (nI (gmT pl mv).length)])), (q_v, .inl (cB, m9, .inl f))]) (w1 := [(q_r, .inl (cI, 1, .inl rf1))]) hP hD [2] [0, 1] rfl rfl (by decide +kernel) (by decide +kernel) hk1 hFc hP1 hD1
      generalize H1 = H at hP hS ⊢
      have hP : va_P D vwCl [(q_b, .inr (7, [.ref q_v, .int (0 : Int32), .int (0 : Int32), .int (nI (gmT pl mv).length)])), (q_v, .inl (cB, m9, .inl f)), (q_r, .inl (cI, 1, .inl rf1))] H := hP
      have hD : va_D A [(q_b, .inr (7, [.ref q_v, .int (0 : Int32), .int (0 : Int32), .int (nI (gmT pl mv).length)])), (q_v, .inl (cB, m9, .inl f)), (q_r, .inl (cI, 1, .inl rf1))] := hD
      obtain ⟨j2, hj2, ej2⟩ := h2
      subst ej2
      clear hP1 hD1 hPc hDc hFc hk1
      generalize rf1 = rf at hP hD
      have hP : va_P D vwCl [(q_b, .inr (7, [.ref q_v, .int (0 : Int32), .int (0 : Int32), .int (nI (gmT pl mv).length)])), (q_v, .inl (cB, m9, .inl f)), (q_r, .inl (cI, 1, .inl rf))] H := hP
      have hD : va_D A [(q_b, .inr (7, [.ref q_v, .int (0 : Int32), .int (0 : Int32), .int (nI (gmT pl mv).length)])), (q_v, .inl (cB, m9, .inl f)), (q_r, .inl (cI, 1, .inl rf))] := hD
      refine lv_iload_n hx hb dL_game_77 rfl (lv_at hl 1 rfl) ?_
      refine lv_irem hx hb dL_game_78 (nI_ne0 hn0 (by omega)) ?_
      refine W.eq (g2 := F0 m 79 ls [.int (nI (j2 % n)), .int (1 : Int32)]) (by rw [pk_rem (by omega) hn0 (by omega)]) ?_
      have hm1 : j1 % n < n := Nat.mod_lt _ hn0
      have hm2 : j2 % n < n := Nat.mod_lt _ hn0
      refine lv_iadd hx hb dL_game_79 ?_
      refine W.eq (g2 := F0 m 80 ls [.int (nI (1 + j2 % n))]) (by rw [show (1 : Int32) + nI (j2 % n) = nI (1 + j2 % n) from nI_add 1 _]) ?_
      refine lv_istore (lv' := [(6, .int (nI (1 + j2 % n))), (5, .int (nI (j1 % n))), (0, .int (nI n)), (1, .int (nI cc)), (2, .ref q_r), (3, .ref q_b), (4, .int (nI p9))]) hx hb dL_game_80 hl (by decide) rfl (fun ls hl => ?_)
      refine lv_iconst (v := (0 : Int32)) hx hb dL_game_82 (by decide) ?_
      refine lv_istore (lv' := [(7, .int (0 : Int32)), (6, .int (nI (1 + j2 % n))), (5, .int (nI (j1 % n))), (0, .int (nI n)), (1, .int (nI cc)), (2, .ref q_r), (3, .ref q_b), (4, .int (nI p9))]) hx hb dL_game_83 hl (by decide) rfl (fun ls hl => ?_)
      have hP := hP.sub (ws' := [(q_r, .inl (cI, 1, .inl rf)), (q_b, .inr (7, [.ref q_v, .int (0 : Int32), .int (0 : Int32), .int (nI (gmT pl mv).length)])), (q_v, .inl (cB, m9, .inl f))]) [2, 0, 1] rfl
      have hD := hD.sub (ws' := [(q_r, .inl (cI, 1, .inl rf)), (q_b, .inr (7, [.ref q_v, .int (0 : Int32), .int (0 : Int32), .int (nI (gmT pl mv).length)])), (q_v, .inl (cB, m9, .inl f))]) [2, 0, 1] (by decide +kernel) rfl
      refine G2i 3 0 p9 (j1 % n) (1 + j2 % n) (k9 + 0 + 0) (n9 + 0 + 0) (k9 + 12) (n9 + 9624) pl mv rf q_v m9 f H locs ls (by omega) rfl hm1 ⟨by omega, by omega⟩ (by omega) (by omega) (by omega) (by omega) hpl hpn (gmAt_0 hmv) ?_ hT hP hD hS (lv_sub hl [3, 4, 5, 6, 7, 2, 1, 0] rfl)
      intro mv rf q_v m9 f H locs ls hmv hT hP hD hS hl
      refine lv_iinc (v := nI (p9 + 1)) (lv' := [(4, .int (nI (p9 + 1))), (0, .int (nI n)), (1, .int (nI cc)), (2, .ref q_r), (3, .ref q_b)]) hx hb dL_game_170 hl (k := 4) rfl (nI_1 p9) (by decide) rfl (fun ls hl => ?_)
      refine lv_goto (tgt := 58) hx hb dL_game_173 (by decide) ?_
      exact ih (p9 + 1) (k9 + 12) (n9 + 9624) pl mv rf q_v m9 f H locs ls (by omega) (by omega) (by omega) hpl hpn hmv hT hP hD hS (lv_sub hl [1, 2, 3, 4, 0] rfl)
  have G1 : ∀ (j9 p9 k9 n9 : Nat) (pl : List (Nat × Nat)) (rf : Nat → Int32) (q_v m9 : Nat) (f : Nat → Int32) (H : Heap) (locs : List Loc) (ls : Array Slot), p9 + j9 = n → k9 + 2 * j9 ≤ 30 → n9 + 1604 * j9 ≤ 20000 → gmPl pl → pl.length = p9 → sbT (gmT pl []) m9 f → va_P D vwCl [(q_r, .inl (cI, 1, .inl rf)), (q_b, .inr (7, [.ref q_v, .int (0 : Int32), .int (0 : Int32), .int (nI (gmT pl []).length)])), (q_v, .inl (cB, m9, .inl f))] H → va_D A [(q_r, .inl (cI, 1, .inl rf)), (q_b, .inr (7, [.ref q_v, .int (0 : Int32), .int (0 : Int32), .int (nI (gmT pl []).length)])), (q_v, .inl (cB, m9, .inl f))] → va_S A s.heap H locs → lv_has ls 8 [(0, .int (nI n)), (1, .int (nI cc)), (2, .ref q_r), (3, .ref q_b), (4, .int (nI p9))] → W p l e rm_L_game s m args below meth c H locs (k9) (n9) Q (F0 m 13 ls []) := by
    intro j9
    induction j9 with
    | zero =>
      intro p9 k9 n9 pl rf q_v m9 f H locs ls hp9 hk9 hn9 hpl hpn hT hP hD hS hl
      refine lv_iload hx hb dL_game_13 (lv_at hl 4 rfl) ?_
      refine lv_iload_n hx hb dL_game_15 rfl (lv_at hl 0 rfl) ?_
      refine lv_icmp_ge (tgt := 55) hx hb dL_game_16 (by decide) (fun _ => ?_) (fun hbr => absurd ((show nI n ≤ nI p9 from nI_le (by omega) (by omega))) hbr)
      obtain rfl : n = p9 := by omega
      refine lv_iconst (v := (0 : Int32)) hx hb dL_game_55 (by decide) ?_
      refine lv_istore (lv' := [(4, .int (0 : Int32)), (0, .int (nI n)), (1, .int (nI cc)), (2, .ref q_r), (3, .ref q_b)]) hx hb dL_game_56 hl (by decide) rfl (fun ls hl => ?_)
      refine W.widen (k := 32) (n := 23384) (by omega) (by omega) ?_
      exact G2 n 0 32 23384 pl [] rf q_v m9 f H locs ls (by omega) (by omega) (by omega) hpl hpn ⟨List.nodup_nil, fun x hx => absurd hx List.not_mem_nil, Nat.zero_le _⟩ hT hP hD hS (lv_sub hl [1, 2, 3, 4, 0] rfl)
    | succ j9 ih =>
      intro p9 k9 n9 pl rf q_v m9 f H locs ls hp9 hk9 hn9 hpl hpn hT hP hD hS hl
      refine lv_iload hx hb dL_game_13 (lv_at hl 4 rfl) ?_
      refine lv_iload_n hx hb dL_game_15 rfl (lv_at hl 0 rfl) ?_
      refine lv_icmp_ge (tgt := 55) hx hb dL_game_16 (by decide) (fun hbr => absurd hbr ((show ¬ nI n ≤ nI p9 from nI_ge (by omega) (by omega)))) (fun _ => ?_)
      refine lv_aload_n hx hb dL_game_19 rfl (lv_at hl 3 rfl) ?_
      refine lv_aload_n hx hb dL_game_20 rfl (lv_at hl 2 rfl) ?_
      have hPc := hP.sub (ws' := [(q_r, .inl (cI, 1, .inl rf))]) [0] rfl
      have hDc := hD.sub (ws' := [(q_r, .inl (cI, 1, .inl rf))]) [0] (by decide +kernel) rfl
      have hFc := va_free (wc := [(q_r, .inl (cI, 1, .inl rf))]) hD hS hA [0] rfl
      refine va_calli (va_runS (As := [.ref q_r]) (rest := [.ref q_b]) ⟨hx, hb, hml, hown, hts⟩ (c_L_next l D X cI cZ cB cG H.size q_r rf (fun r u => ∃ j, j < 8388608 ∧ r = nI j) hlf (next_ok (fun j o hj => ⟨j, hj, rfl⟩))) (va_cwS 1 hts gL_game_L_next rfl rfl rfl (by decide +kernel) ⟨Nat.le_of_ble_eq_true rfl, Nat.le_of_ble_eq_true rfl⟩) ⟨gL_blind, fun U hU hW => gL_side hU hW hPc hK hDc hE hN hS hFc⟩ rfl rfl hl.1 rfl (lv_room (Nat.le_of_ble_eq_true rfl)) dL_game_21 ⟨show k9 + 0 ≤ 150 by omega, show n9 + 0 ≤ 120000 by omega⟩) hS (fun q _ h => hFc q h) hFc (fun r1 u t H1 locs ht hvm h1 hB hz1 hk1 hS => ?_)
      obtain ⟨rf1, rfl⟩ : ∃ z, z = u := ⟨_, rfl⟩
      obtain ⟨hP1, hK1, hD1⟩ := hB
      rw [ht] at hP1
      obtain ⟨hP, hD⟩ := va_join (wr := [(q_b, .inr (7, [.ref q_v, .int (0 : Int32), .int (0 : Int32), .int (nI (gmT pl []).length)])), (q_v, .inl (cB, m9, .inl f))]) (w1 := [(q_r, .inl (cI, 1, .inl rf1))]) hP hD [0] [1, 2] rfl rfl (by decide +kernel) (by decide +kernel) hk1 hFc hP1 hD1
      generalize H1 = H at hP hS ⊢
      have hP : va_P D vwCl [(q_b, .inr (7, [.ref q_v, .int (0 : Int32), .int (0 : Int32), .int (nI (gmT pl []).length)])), (q_v, .inl (cB, m9, .inl f)), (q_r, .inl (cI, 1, .inl rf1))] H := hP
      have hD : va_D A [(q_b, .inr (7, [.ref q_v, .int (0 : Int32), .int (0 : Int32), .int (nI (gmT pl []).length)])), (q_v, .inl (cB, m9, .inl f)), (q_r, .inl (cI, 1, .inl rf1))] := hD
      obtain ⟨j1, hj1, ej1⟩ := h1
      subst ej1
      clear hP1 hD1 hPc hDc hFc hk1
      generalize rf1 = rf at hP hD
      have hP : va_P D vwCl [(q_b, .inr (7, [.ref q_v, .int (0 : Int32), .int (0 : Int32), .int (nI (gmT pl []).length)])), (q_v, .inl (cB, m9, .inl f)), (q_r, .inl (cI, 1, .inl rf))] H := hP
      have hD : va_D A [(q_b, .inr (7, [.ref q_v, .int (0 : Int32), .int (0 : Int32), .int (nI (gmT pl []).length)])), (q_v, .inl (cB, m9, .inl f)), (q_r, .inl (cI, 1, .inl rf))] := hD
      refine lv_iconst (v := (2 : Int32)) hx hb dL_game_24 (by decide) ?_
      refine lv_irem hx hb dL_game_25 (by decide) ?_
      refine W.eq (g2 := F0 m 26 ls [.int (nI (j1 % 2)), .ref q_b]) (by rw [show nI j1 - nI j1 / 2 * 2 = nI (j1 % 2) from pk_rem (d := 2) (by omega) (by omega) (by omega)]) ?_
      have hlen := gmT_len pl []
      have hj12 : j1 % 2 < 2 := Nat.mod_lt _ (by omega)
      have A5 : ∀ (w : Nat), w < 9 → w = (if j1 % 2 = 0 then 5 else 6) → ∀ (ls : Array Slot), lv_has ls 8 [(0, .int (nI n)), (1, .int (nI cc)), (2, .ref q_r), (3, .ref q_b), (4, .int (nI p9))] → W p l e rm_L_game s m args below meth c H locs (k9 + 0) (n9 + 0) Q (F0 m 36 ls [.ref (X.1 w), .ref q_b]) := by
        intro w hw ew ls hl
        have hw7 : gLen.getD w 0 ≤ 6 ∧ (wT w).length = gLen.getD w 0 := ⟨by rw [ew]; split <;> decide, (wT_ok w hw).1.symm⟩
        have hPc := hP.sub (ws' := [(q_b, .inr (7, [.ref q_v, .int (0 : Int32), .int (0 : Int32), .int (nI (gmT pl []).length)])), (q_v, .inl (cB, m9, .inl f))]) [0, 1] rfl
        have hDc := hD.sub (ws' := [(q_b, .inr (7, [.ref q_v, .int (0 : Int32), .int (0 : Int32), .int (nI (gmT pl []).length)])), (q_v, .inl (cB, m9, .inl f))]) [0, 1] (by decide +kernel) rfl
        have hFc := va_free (wc := [(q_b, .inr (7, [.ref q_v, .int (0 : Int32), .int (0 : Int32), .int (nI (gmT pl []).length)])), (q_v, .inl (cB, m9, .inl f))]) hD hS hA [0, 1] rfl
        refine va_callr (va_runV (As := [.ref (X.1 w)]) (rest := []) ⟨hx, hb, hml, hown, hts⟩ (c_J4_append_15ec4t l D X cI cZ cB cG H.size w hw q_b q_v m9 (gmT pl []) f hT (by simp only [List.length_nil] at hlen; omega)) (cwV 1 hts gL_game_J4_append_15ec4 rfl rfl rfl (by decide +kernel) ⟨Nat.le_of_ble_eq_true rfl, Nat.le_of_ble_eq_true rfl⟩) ⟨g_blind, va_recv hK hP (ci := 7) (q0 := 0) rfl rfl, fun U hU hW => g_side hU hW hPc hK hDc hE hS hFc⟩ rfl rfl hl.1 rfl (lv_room (Nat.le_of_ble_eq_true rfl)) dL_game_36 ⟨show k9 + 0 + 1 ≤ 150 by omega, show n9 + 0 + 802 ≤ 120000 by omega⟩) hS (fun q _ h => hFc q h) hFc (fun u r1 t H1 locs ht hvm h1 hB hz1 hk1 hS => ?_)
        obtain ⟨v1, m1, f1⟩ := u
        obtain ⟨hb9, hP1, hK1, hD1⟩ := hB; have hb9 := hb9.symm; subst hb9
        rw [ht] at hP1
        obtain ⟨hP, hD⟩ := va_join (wr := [(q_r, .inl (cI, 1, .inl rf))]) (w1 := [(q_b, .inr (7, [.ref v1, .int (0 : Int32), .int (0 : Int32), .int (nI (gmT pl [] ++ wT w).length)])), (v1, .inl (cB, m1, .inl f1))]) hP hD [0, 1] [2] rfl rfl (by decide +kernel) (by decide +kernel) hk1 hFc hP1 hD1
        generalize H1 = H at hP hS ⊢
        have hP : va_P D vwCl [(q_r, .inl (cI, 1, .inl rf)), (q_b, .inr (7, [.ref v1, .int (0 : Int32), .int (0 : Int32), .int (nI (gmT pl [] ++ wT w).length)])), (v1, .inl (cB, m1, .inl f1))] H := hP
        have hD : va_D A [(q_r, .inl (cI, 1, .inl rf)), (q_b, .inr (7, [.ref v1, .int (0 : Int32), .int (0 : Int32), .int (nI (gmT pl [] ++ wT w).length)])), (v1, .inl (cB, m1, .inl f1))] := hD
        have hT : sbT (gmT pl [] ++ wT w) m1 f1 := h1
        clear hP1 hD1 hPc hDc hFc hk1
        generalize v1 = q_v at hP hD
        generalize m1 = m9 at hP hD hT
        generalize f1 = f at hP hD hT
        have hP : va_P D vwCl [(q_r, .inl (cI, 1, .inl rf)), (q_b, .inr (7, [.ref q_v, .int (0 : Int32), .int (0 : Int32), .int (nI (gmT pl [] ++ wT w).length)])), (q_v, .inl (cB, m9, .inl f))] H := hP
        have hD : va_D A [(q_r, .inl (cI, 1, .inl rf)), (q_b, .inr (7, [.ref q_v, .int (0 : Int32), .int (0 : Int32), .int (nI (gmT pl [] ++ wT w).length)])), (q_v, .inl (cB, m9, .inl f))] := hD
        refine lv_aload_n hx hb dL_game_39 rfl (lv_at hl 2 rfl) ?_
        have hPc := hP.sub (ws' := [(q_r, .inl (cI, 1, .inl rf))]) [0] rfl
        have hDc := hD.sub (ws' := [(q_r, .inl (cI, 1, .inl rf))]) [0] (by decide +kernel) rfl
        have hFc := va_free (wc := [(q_r, .inl (cI, 1, .inl rf))]) hD hS hA [0] rfl
        refine va_calli (va_runS (As := [.ref q_r]) (rest := [.ref q_b]) ⟨hx, hb, hml, hown, hts⟩ (c_L_next l D X cI cZ cB cG H.size q_r rf (fun r u => ∃ j, j < 8388608 ∧ r = nI j) hlf (next_ok (fun j o hj => ⟨j, hj, rfl⟩))) (va_cwS 1 hts gL_game_L_next rfl rfl rfl (by decide +kernel) ⟨Nat.le_of_ble_eq_true rfl, Nat.le_of_ble_eq_true rfl⟩) ⟨gL_blind, fun U hU hW => gL_side hU hW hPc hK hDc hE hN hS hFc⟩ rfl rfl hl.1 rfl (lv_room (Nat.le_of_ble_eq_true rfl)) dL_game_40 ⟨show k9 + 0 + 1 + 0 ≤ 150 by omega, show n9 + 0 + 802 + 0 ≤ 120000 by omega⟩) hS (fun q _ h => hFc q h) hFc (fun r2 u t H1 locs ht hvm h2 hB hz1 hk1 hS => ?_)
        obtain ⟨rf1, rfl⟩ : ∃ z, z = u := ⟨_, rfl⟩
        obtain ⟨hP1, hK1, hD1⟩ := hB
        rw [ht] at hP1
        obtain ⟨hP, hD⟩ := va_join (wr := [(q_b, .inr (7, [.ref q_v, .int (0 : Int32), .int (0 : Int32), .int (nI (gmT pl [] ++ wT w).length)])), (q_v, .inl (cB, m9, .inl f))]) (w1 := [(q_r, .inl (cI, 1, .inl rf1))]) hP hD [0] [1, 2] rfl rfl (by decide +kernel) (by decide +kernel) hk1 hFc hP1 hD1
        generalize H1 = H at hP hS ⊢
        have hP : va_P D vwCl [(q_b, .inr (7, [.ref q_v, .int (0 : Int32), .int (0 : Int32), .int (nI (gmT pl [] ++ wT w).length)])), (q_v, .inl (cB, m9, .inl f)), (q_r, .inl (cI, 1, .inl rf1))] H := hP
        have hD : va_D A [(q_b, .inr (7, [.ref q_v, .int (0 : Int32), .int (0 : Int32), .int (nI (gmT pl [] ++ wT w).length)])), (q_v, .inl (cB, m9, .inl f)), (q_r, .inl (cI, 1, .inl rf1))] := hD
        obtain ⟨j2, hj2, ej2⟩ := h2
        subst ej2
        clear hP1 hD1 hPc hDc hFc hk1
        generalize rf1 = rf at hP hD
        have hP : va_P D vwCl [(q_b, .inr (7, [.ref q_v, .int (0 : Int32), .int (0 : Int32), .int (nI (gmT pl [] ++ wT w).length)])), (q_v, .inl (cB, m9, .inl f)), (q_r, .inl (cI, 1, .inl rf))] H := hP
        have hD : va_D A [(q_b, .inr (7, [.ref q_v, .int (0 : Int32), .int (0 : Int32), .int (nI (gmT pl [] ++ wT w).length)])), (q_v, .inl (cB, m9, .inl f)), (q_r, .inl (cI, 1, .inl rf))] := hD
        refine lv_iload_n hx hb dL_game_43 rfl (lv_at hl 1 rfl) ?_
        refine lv_irem hx hb dL_game_44 (nI_ne0 hc0 (by omega)) ?_
        refine W.eq (g2 := F0 m 45 ls [.int (nI (j2 % cc)), .ref q_b]) (by rw [pk_rem (by omega) hc0 (by omega)]) ?_
        have hm2 : j2 % cc < cc := Nat.mod_lt _ hc0
        have hPc := hP.sub (ws' := [(q_b, .inr (7, [.ref q_v, .int (0 : Int32), .int (0 : Int32), .int (nI (gmT pl [] ++ wT w).length)])), (q_v, .inl (cB, m9, .inl f))]) [0, 1] rfl
        have hDc := hD.sub (ws' := [(q_b, .inr (7, [.ref q_v, .int (0 : Int32), .int (0 : Int32), .int (nI (gmT pl [] ++ wT w).length)])), (q_v, .inl (cB, m9, .inl f))]) [0, 1] (by decide +kernel) rfl
        have hFc := va_free (wc := [(q_b, .inr (7, [.ref q_v, .int (0 : Int32), .int (0 : Int32), .int (nI (gmT pl [] ++ wT w).length)])), (q_v, .inl (cB, m9, .inl f))]) hD hS hA [0, 1] rfl
        refine va_callr (va_runV (As := [.int (nI (j2 % cc))]) (rest := []) ⟨hx, hb, hml, hown, hts⟩ (c_J4_append_bf812t l D X cI cZ cB cG H.size (j2 % cc) (by omega) q_b q_v m9 (gmT pl [] ++ wT w) f hT (by rw [List.length_append]; simp only [List.length_nil] at hlen; omega)) (cwV 1 hts gL_game_J4_append_bf812 rfl rfl rfl (by decide +kernel) ⟨Nat.le_of_ble_eq_true rfl, Nat.le_of_ble_eq_true rfl⟩) ⟨g_blind, va_recv hK hP (ci := 7) (q0 := 0) rfl rfl, fun U hU hW => g_side hU hW hPc hK hDc hE hS hFc⟩ rfl rfl hl.1 rfl (lv_room (Nat.le_of_ble_eq_true rfl)) dL_game_45 ⟨show k9 + 0 + 1 + 0 + 1 ≤ 150 by omega, show n9 + 0 + 802 + 0 + 802 ≤ 120000 by omega⟩) hS (fun q _ h => hFc q h) hFc (fun u r3 t H1 locs ht hvm h3 hB hz1 hk1 hS => ?_)
        obtain ⟨v1, m1, f1⟩ := u
        obtain ⟨hb9, hP1, hK1, hD1⟩ := hB; have hb9 := hb9.symm; subst hb9
        rw [ht] at hP1
        obtain ⟨hP, hD⟩ := va_join (wr := [(q_r, .inl (cI, 1, .inl rf))]) (w1 := [(q_b, .inr (7, [.ref v1, .int (0 : Int32), .int (0 : Int32), .int (nI ((gmT pl [] ++ wT w) ++ [48 + j2 % cc]).length)])), (v1, .inl (cB, m1, .inl f1))]) hP hD [0, 1] [2] rfl rfl (by decide +kernel) (by decide +kernel) hk1 hFc hP1 hD1
        generalize H1 = H at hP hS ⊢
        have hP : va_P D vwCl [(q_r, .inl (cI, 1, .inl rf)), (q_b, .inr (7, [.ref v1, .int (0 : Int32), .int (0 : Int32), .int (nI ((gmT pl [] ++ wT w) ++ [48 + j2 % cc]).length)])), (v1, .inl (cB, m1, .inl f1))] H := hP
        have hD : va_D A [(q_r, .inl (cI, 1, .inl rf)), (q_b, .inr (7, [.ref v1, .int (0 : Int32), .int (0 : Int32), .int (nI ((gmT pl [] ++ wT w) ++ [48 + j2 % cc]).length)])), (v1, .inl (cB, m1, .inl f1))] := hD
        have hT : sbT ((gmT pl [] ++ wT w) ++ [48 + j2 % cc]) m1 f1 := h3
        clear hP1 hD1 hPc hDc hFc hk1
        generalize v1 = q_v at hP hD
        generalize m1 = m9 at hP hD hT
        generalize f1 = f at hP hD hT
        have hP : va_P D vwCl [(q_r, .inl (cI, 1, .inl rf)), (q_b, .inr (7, [.ref q_v, .int (0 : Int32), .int (0 : Int32), .int (nI ((gmT pl [] ++ wT w) ++ [48 + j2 % cc]).length)])), (q_v, .inl (cB, m9, .inl f))] H := hP
        have hD : va_D A [(q_r, .inl (cI, 1, .inl rf)), (q_b, .inr (7, [.ref q_v, .int (0 : Int32), .int (0 : Int32), .int (nI ((gmT pl [] ++ wT w) ++ [48 + j2 % cc]).length)])), (q_v, .inl (cB, m9, .inl f))] := hD
        refine lv_pop hx hb dL_game_48 rfl ?_
        refine lv_iinc (v := nI (p9 + 1)) (lv' := [(4, .int (nI (p9 + 1))), (0, .int (nI n)), (1, .int (nI cc)), (2, .ref q_r), (3, .ref q_b)]) hx hb dL_game_49 hl (k := 4) rfl (nI_1 p9) (by decide) rfl (fun ls hl => ?_)
        refine lv_goto (tgt := 13) hx hb dL_game_52 (by decide) ?_
        have hP := hP.sub (ws' := [(q_r, .inl (cI, 1, .inl rf)), (q_b, .inr (7, [.ref q_v, .int (0 : Int32), .int (0 : Int32), .int (nI ((gmT pl [] ++ wT w) ++ [48 + j2 % cc]).length)])), (q_v, .inl (cB, m9, .inl f))]) [0, 1, 2] rfl
        have hD := hD.sub (ws' := [(q_r, .inl (cI, 1, .inl rf)), (q_b, .inr (7, [.ref q_v, .int (0 : Int32), .int (0 : Int32), .int (nI ((gmT pl [] ++ wT w) ++ [48 + j2 % cc]).length)])), (q_v, .inl (cB, m9, .inl f))]) [0, 1, 2] (by decide +kernel) rfl
        have eT : (gmT pl [] ++ wT w) ++ [48 + j2 % cc] = gmT (pl ++ [(j1 % 2, j2 % cc)]) [] := by rw [gmT_pl]; simp only [plCh, List.append_assoc]; rw [ew]
        rw [eT] at hT hP hD
        exact ih (p9 + 1) (k9 + 0 + 1 + 0 + 1) (n9 + 0 + 802 + 0 + 802) (pl ++ [(j1 % 2, j2 % cc)]) rf q_v m9 f H locs ls (by omega) (by omega) (by omega) (fun x hx => (List.mem_append.mp hx).elim (hpl x) (fun q => by rw [List.mem_singleton] at q; subst q; exact ⟨hj12, by omega⟩)) (by rw [List.length_append, hpn]; rfl) hT hP hD hS (lv_sub hl [1, 2, 3, 4, 0] rfl)
      by_cases hj0 : j1 % 2 = 0
      · refine lv_if_ne (tgt := 34) hx hb dL_game_26 (by decide) (fun hbr => absurd ((show nI (j1 % 2) = 0 by rw [hj0]; rfl)) hbr) (fun _ => ?_)
        refine va_ldcS hx hb hown (hE.2.2.2.2.2.2.2.2.2.2.1 (61, ";even ", 5) (List.mem_of_getElem? (i := 1) rfl)) dL_game_29 ?_
        refine lv_goto (tgt := 36) hx hb dL_game_31 (by decide) ?_
        exact A5 5 (by decide) (by rw [if_pos hj0]) ls (lv_sub hl [0, 1, 2, 3, 4] rfl)
      · refine lv_if_ne (tgt := 34) hx hb dL_game_26 (by decide) (fun _ => ?_) (fun hbr => absurd hbr ((show ¬ nI (j1 % 2) = 0 from nI_ne0 (by omega) (by omega))))
        refine va_ldcS hx hb hown (hE.2.2.2.2.2.2.2.2.2.2.1 (63, ";odd ", 6) (List.mem_of_getElem? (i := 2) rfl)) dL_game_34 ?_
        exact A5 6 (by decide) (by rw [if_neg hj0]) ls (lv_sub hl [0, 1, 2, 3, 4] rfl)
  have hP : va_P D vwCl [(q_r, .inl (cI, 1, .inl rf)), (q_b, .inr (7, [.null, .int (0 : Int32), .int (0 : Int32), .int (0 : Int32)]))] H := hP
  have hD : va_D A [(q_r, .inl (cI, 1, .inl rf)), (q_b, .inr (7, [.null, .int (0 : Int32), .int (0 : Int32), .int (0 : Int32)]))] := hD
  refine lv_dup hx hb dL_game_3 rfl ?_
  refine va_ldcS hx hb hown (hE.2.2.2.2.2.2.2.2.2.2.1 (52, "game", 0) (List.mem_of_getElem? (i := 0) rfl)) dL_game_4 ?_
  have hPc := hP.sub (ws' := [(q_b, .inr (7, [.null, .int (0 : Int32), .int (0 : Int32), .int (0 : Int32)]))]) [1] rfl
  have hDc := hD.sub (ws' := [(q_b, .inr (7, [.null, .int (0 : Int32), .int (0 : Int32), .int (0 : Int32)]))]) [1] (by decide +kernel) rfl
  have hFc := va_free (wc := [(q_b, .inr (7, [.null, .int (0 : Int32), .int (0 : Int32), .int (0 : Int32)]))]) hD hS hA [1] rfl
  refine va_callv (va_runI (As := [.ref (X.1 0)]) (rest := [.ref q_b]) ⟨hx, hb, hml, hown, hts⟩ (c_J4_init_a7421t l D X cI cZ cB cG H.size 0 (by decide) q_b) (cwI 1 hts gL_game_J4_init_a7421 rfl rfl rfl (hts (.initialized RJ4) (by decide +kernel)) (hts (.methodLink RL 54 yJ4_init_a7421) (by decide +kernel)) (hts (.instanceMethod yJ4_init_a7421) (by decide +kernel)) rfl (by decide +kernel) ⟨Nat.le_of_ble_eq_true rfl, Nat.le_of_ble_eq_true rfl⟩) ⟨g_blind, fun U hU hW => g_side hU hW hPc hK hDc hE hS hFc⟩ rfl rfl hl.1 rfl (lv_room (Nat.le_of_ble_eq_true rfl)) dL_game_6 ⟨show 0 + 1 + 2 ≤ 150 by omega, show 0 + 4 + 830 ≤ 120000 by omega⟩) hS (fun q _ h => hFc q h) hFc (fun u t H1 locs ht hvm h1 hB hz1 hk1 hS => ?_)
  obtain ⟨v1, m1, f1⟩ := u
  obtain ⟨hP1, hK1, hD1⟩ := hB
  rw [ht] at hP1
  obtain ⟨hP, hD⟩ := va_join (wr := [(q_r, .inl (cI, 1, .inl rf))]) (w1 := [(q_b, .inr (7, [.ref v1, .int (0 : Int32), .int (0 : Int32), .int (nI (wT 0).length)])), (v1, .inl (cB, m1, .inl f1))]) hP hD [1] [0] rfl rfl (by decide +kernel) (by decide +kernel) hk1 hFc hP1 hD1
  generalize H1 = H at hP hS ⊢
  have hP : va_P D vwCl [(q_r, .inl (cI, 1, .inl rf)), (q_b, .inr (7, [.ref v1, .int (0 : Int32), .int (0 : Int32), .int (nI (wT 0).length)])), (v1, .inl (cB, m1, .inl f1))] H := hP
  have hD : va_D A [(q_r, .inl (cI, 1, .inl rf)), (q_b, .inr (7, [.ref v1, .int (0 : Int32), .int (0 : Int32), .int (nI (wT 0).length)])), (v1, .inl (cB, m1, .inl f1))] := hD
  refine lv_astore_n (lv' := [(3, .ref q_b), (0, .int (nI n)), (1, .int (nI cc)), (2, .ref q_r)]) hx hb dL_game_9 rfl hl (by decide) rfl (fun ls hl => ?_)
  refine lv_iconst (v := (0 : Int32)) hx hb dL_game_10 (by decide) ?_
  refine lv_istore (lv' := [(4, .int (0 : Int32)), (3, .ref q_b), (0, .int (nI n)), (1, .int (nI cc)), (2, .ref q_r)]) hx hb dL_game_11 hl (by decide) rfl (fun ls hl => ?_)
  exact G1 n 0 (0 + 1 + 2) (0 + 4 + 830) [] rf v1 m1 f1 H locs ls (by omega) (by omega) (by omega) (fun x hx => absurd hx List.not_mem_nil) rfl h1 hP hD hS (lv_sub hl [2, 3, 4, 1, 0] rfl)
