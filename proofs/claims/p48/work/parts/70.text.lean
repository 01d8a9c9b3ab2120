/-! a text made by the law: the methods of String over it -/
def gSt (q qv n : Nat) (f : Nat → Int32) (A : Nat → Prop) (U : State) (H : Heap) : Prop :=
  va_O "java/lang/String" q A U H ∧ va_OF "java/lang/String" "coder" "B" (.int 0) q A U H ∧ va_OF "java/lang/String" "value" "[B" (.ref qv) q A U H ∧ va_T .byte qv n (fun j => .int (f j)) A U H
theorem gSt.moved {q qv n : Nat} {f : Nat → Int32} {A : Nat → Prop} {u U : State} {H : Heap} (hvm : u.vm.Alike U.vm) (h : gSt q qv n f A u H) : gSt q qv n f A U H :=
  ⟨va_O.moved hvm h.1, va_OF.moved hvm h.2.1, va_OF.moved hvm h.2.2.1, va_T.moved hvm h.2.2.2⟩
theorem gSt.kept {q qv n : Nat} {f : Nat → Int32} {A : Nat → Prop} {U : State} {H H1 : Heap} (h : gSt q qv n f A U H) (hq : ∀ a : Nat, a < H.size → ¬ A a → H1[a]? = H[a]?) : gSt q qv n f A U H1 :=
  ⟨h.1.kept hq, h.2.1.kept hq, h.2.2.1.kept hq, h.2.2.2.kept hq⟩
theorem gSt.narrow {q qv n : Nat} {f : Nat → Int32} {A B : Nat → Prop} {U : State} {H : Heap} (h : gSt q qv n f A U H) (hAB : ∀ q, B q → A q) : gSt q qv n f B U H :=
  ⟨h.1.narrow hAB, h.2.1.narrow hAB, h.2.2.1.narrow hAB, h.2.2.2.narrow hAB⟩
theorem gSt.recv {q qv n : Nat} {f : Nat → Int32} {A : Nat → Prop} {s : State} {H : Heap} {locs : List Loc} (h : gSt q qv n f A s s.heap) (hS : va_S A s.heap H locs) : ∃ cell : Cell, H[q]? = some cell ∧ cell.vm.isStatics = false ∧ s.vm.findClass "java/lang/String" = some cell.cls := by
  obtain ⟨cell, h1, h2, h3, -⟩ := h.1.kept hS.2.1
  exact ⟨cell, h1, h2, h3⟩
/-- what the bytes of such a text are -/
def gAs (n : Nat) (f : Nat → Int32) : Prop := n ≤ 4000 ∧ ∀ j, j < n → ∃ c, c < 128 ∧ f j = nI c
theorem c16 : ∀ c, c < 128 → ((nI c &&& 255).toUInt32 % 65536).toInt32 = nI c ∧ narrow .char (.int (nI c)) = .int (nI c) := by decide +kernel
theorem gAs.ch {n : Nat} {f : Nat → Int32} (h : gAs n f) {j : Nat} (hj : j < n) : ((f j &&& 255).toUInt32 % 65536).toInt32 = f j ∧ narrow .char (.int (f j)) = .int (f j) := by
  obtain ⟨c, h1, h2⟩ := h.2 j hj
  rw [h2]
  exact c16 c h1
abbrev gPs (q qv n : Nat) (f : Nat → Int32) (D : va_G) (X : gX) (tys : List (ClassId × FieldType)) (sz : Nat) (av : List Value) (ws : va_W) : Array Value → State → Prop := va_Pc av (fun U => (U.heap.size = sz ∧ va_P D vwCl ws U.heap ∧ va_K D vwCl tys U ∧ va_D (fun _ => True) ws ∧ gE X (va_A ws sz) U U.heap) ∧ gSt q qv n f (va_A ws sz) U U.heap)
theorem gs_blind {q qv n : Nat} {f : Nat → Int32} {D : va_G} {X : gX} {tys : List (ClassId × FieldType)} {sz : Nat} {av : List Value} {ws : va_W} : FrameBlind (gPs q qv n f D X tys sz av ws) := fun a U g mk w => by
  obtain ⟨q0, ⟨q1, qP, qK, qD, qE⟩, qT⟩ := w
  exact ⟨q0, ⟨q1, qP, va_K.moved (u := U) (U := U.calling g mk a) (Vm.Alike.refl U.vm) qK, qD, qE.calling g mk a⟩, gSt.moved (u := U) (U := U.calling g mk a) (Vm.Alike.refl U.vm) qT⟩
theorem gs_side {q qv n : Nat} {f : Nat → Int32} {D : va_G} {X : gX} {tys : List (ClassId × FieldType)} {av : List Value} {ws : va_W} {A A0 : Nat → Prop} {s U : State} {H : Heap} {locs : List Loc} (hU : U.heap = H) (hW : s.WarmedH U.vm) (hP : va_P D vwCl ws H) (hK : va_K D vwCl tys s) (hD : va_D A ws)
    (hE : gE X A0 s s.heap) (hT : gSt q qv n f A0 s s.heap) (hS : va_S A0 s.heap H locs) (hF : ∀ q, va_A ws H.size q → A0 q) : gPs q qv n f D X tys H.size av ws av.toArray U :=
  ⟨rfl, ⟨by rw [hU], by rw [hU]; exact hP, va_K.moved hW.alike hK, hD.weaken (fun _ _ _ _ => trivial), by rw [hU]; exact ((hE.kept hS.2.1).narrow hF).warm hW⟩, by rw [hU]; exact ((hT.kept hS.2.1).narrow hF).moved hW.alike⟩
section GST
variable {q qv n : Nat} {f : Nat → Int32} {l : Launch} {y : MethodName} {ws ws' : List Cond} {rm : Room} {D : va_G} {X : gX} {tys : List (ClassId × FieldType)} {sz : Nat} {av : List Value} {W0 : va_W} {S : Type} {W1 : S → va_W} {cc : ByteArray} {maxL : Nat}
theorem g_ofSx (ty : FieldType) {post : Int32 → S → Prop} (hy : plainFor y = true) (hlen : (lg_sl av).length ≤ maxL) (hw : ws = Cond.code y cc maxL (some ty) :: ws')
    (body : ∀ (p : Program) (e : Env) (s : State) (m : MethodId) (args : Array Value) (below : List Frame) (meth : Method) (c : Code) (A : Nat → Prop) (Q : State → Prop),
      p.tables.exec = Jvm.exec → c.code = cc → c.maxLocals = maxL → s.vm.findClass y.cls = some m.cls → (∀ w ∈ ws, w.before args s = true) → (∀ q : Nat, s.heap.size ≤ q → A q) → va_K D vwCl tys s → gE X A s s.heap → gSt q qv n f A s s.heap → ∀ H : Heap, va_P D vwCl W0 H → va_D A W0 → va_S A s.heap H [] →
      ∀ ls : Array Slot, lv_has ls maxL (lv_args 0 av) →
      (∀ {H : Heap} {locs : List Loc} {pc : Nat} {ls : Array Slot} (r : Int32) (u : S), narrow ty (.int r) = .int r → post r u → va_P D vwCl (W1 u) H → va_D A (W1 u) → va_S A s.heap H locs → decode cc pc = .ok (.ireturn, 1) → W p l e rm s m args below meth c H locs 0 0 Q (F0 m pc ls [.int r])) →
      W p l e rm s m args below meth c H [] 0 0 Q (F0 m 0 ls [])) :
    Met l y ws rm (gPs q qv n f D X tys sz av W0) (va_Qi (fun r u => narrow ty (.int r) = .int r ∧ post r u) (fun u t => gB D tys (va_A W0 sz) (W1 u) t) (va_A W0 sz)) 0 0 (va_A W0 sz) := by
  refine g_MetF (cc := cc) (maxL := maxL) (ret := some ty) hy hw ?_
  intro p e s m args below meth c s₁ B hml hv
  obtain ⟨rfl, ⟨hsz, hP, hK, hD0, hE⟩, hT⟩ := hv
  have hts := atoms_spec (ws := ws) B.pre
  have hown : s.vm.findClass y.cls = some m.cls := findClass_of_methodNamed B.named
  have hlocks := B.notSynchronized
  subst hsz
  have hD := hD0.self (sz := s.heap.size)
  have hA : ∀ q : Nat, s.heap.size ≤ q → va_A W0 s.heap.size q := fun q h => Or.inr h
  have hl := lv_entry av (n := maxL) hlen
  rw [lg_entry_eq]
  generalize (lg_sl av ++ List.replicate (maxL - (lg_sl av).length) Slot.unset).toArray = ls at hl ⊢
  refine body p e s m _ below meth c _ _ B.exec B.bytes hml hown hts hA hK hE hT _ hP hD va_S.rf ls hl ?_
  intro H locs pc ls r u hn hp hP hD hS hdg
  exact W.zret B.exec B.bytes B.returns hn (fun t ht hW => ⟨⟨r, u, rfl, ⟨hn, hp⟩, by rw [ht]; exact hP, va_K.moved hW.alike hK, hD⟩, hS.F ht⟩) hS.2.2 hdg
theorem g_ofSi {post : Int32 → S → Prop} (hy : plainFor y = true) (hlen : (lg_sl av).length ≤ maxL) (hw : ws = Cond.code y cc maxL (some .int) :: ws')
    (body : ∀ (p : Program) (e : Env) (s : State) (m : MethodId) (args : Array Value) (below : List Frame) (meth : Method) (c : Code) (A : Nat → Prop) (Q : State → Prop),
      p.tables.exec = Jvm.exec → c.code = cc → c.maxLocals = maxL → s.vm.findClass y.cls = some m.cls → (∀ w ∈ ws, w.before args s = true) → (∀ q : Nat, s.heap.size ≤ q → A q) → va_K D vwCl tys s → gE X A s s.heap → gSt q qv n f A s s.heap → ∀ H : Heap, va_P D vwCl W0 H → va_D A W0 → va_S A s.heap H [] →
      ∀ ls : Array Slot, lv_has ls maxL (lv_args 0 av) →
      (∀ {H : Heap} {locs : List Loc} {pc : Nat} {ls : Array Slot} (r : Int32) (u : S), post r u → va_P D vwCl (W1 u) H → va_D A (W1 u) → va_S A s.heap H locs → decode cc pc = .ok (.ireturn, 1) → W p l e rm s m args below meth c H locs 0 0 Q (F0 m pc ls [.int r])) →
      W p l e rm s m args below meth c H [] 0 0 Q (F0 m 0 ls [])) :
    Met l y ws rm (gPs q qv n f D X tys sz av W0) (va_Qi post (fun u t => gB D tys (va_A W0 sz) (W1 u) t) (va_A W0 sz)) 0 0 (va_A W0 sz) := by
  refine g_MetF (cc := cc) (maxL := maxL) (ret := some .int) hy hw ?_
  intro p e s m args below meth c s₁ B hml hv
  obtain ⟨rfl, ⟨hsz, hP, hK, hD0, hE⟩, hT⟩ := hv
  have hts := atoms_spec (ws := ws) B.pre
  have hown : s.vm.findClass y.cls = some m.cls := findClass_of_methodNamed B.named
  have hlocks := B.notSynchronized
  subst hsz
  have hD := hD0.self (sz := s.heap.size)
  have hA : ∀ q : Nat, s.heap.size ≤ q → va_A W0 s.heap.size q := fun q h => Or.inr h
  have hl := lv_entry av (n := maxL) hlen
  rw [lg_entry_eq]
  generalize (lg_sl av ++ List.replicate (maxL - (lg_sl av).length) Slot.unset).toArray = ls at hl ⊢
  refine body p e s m _ below meth c _ _ B.exec B.bytes hml hown hts hA hK hE hT _ hP hD va_S.rf ls hl ?_
  intro H locs pc ls r u hp hP hD hS hdg
  exact W.iret B.exec B.bytes B.returns (fun t ht hW => ⟨⟨r, u, rfl, hp, by rw [ht]; exact hP, va_K.moved hW.alike hK, hD⟩, hS.F ht⟩) hS.2.2 hdg
end GST
set_option maxHeartbeats 4000000 in
theorem ct_J0_coder_7d493 (l : Launch) (D : va_G) (X : gX) (cI cZ cB cG : ClassId) (sz : Nat) (q qv n : Nat) (f : Nat → Int32) (hn : gAs n f) : Met l yJ0_coder_7d493 wsJ0_coder_7d493 rm_J0_coder_7d493 (gPs q qv n f D X (gT cI cZ cB cG) sz [.ref q] ([] : va_W)) (va_Qi (fun (r : Int32) (u : Unit) => narrow .byte (.int r) = .int r ∧ (r = 0)) (fun u t => gB D (gT cI cZ cB cG) (va_A ([] : va_W) sz) ([] : va_W) t) (va_A ([] : va_W) sz)) 0 0 (va_A ([] : va_W) sz) := by
  refine g_ofSx .byte (cc := cJ0_coder_7d493) (maxL := 1) (post := fun (r : Int32) (u : Unit) => r = 0) (W1 := fun (_ : Unit) => ([] : va_W)) (by decide +kernel) (Nat.le_of_ble_eq_true rfl) rfl ?_
  intro p e s m args below meth c A Q hx hb hml hown hts hA hK hE hT H hP hD hS ls hl hret
  have hl : lv_has ls 1 [(0, .ref q)] := hl
  refine va_gets hx hb hE.2.2.2.2.2.2.2.2.1 hS hown (hts (.fieldLink RJ0 38 "java/lang/String" "COMPACT_STRINGS" "Z") (by decide +kernel)) (fun _ h => h) dJ0_coder_7d493_0 ?_
  refine lv_if_eq (tgt := 13) hx hb dJ0_coder_7d493_3 (by decide) (fun hc => absurd hc (by decide)) (fun _ => ?_)
  refine lv_aload_n hx hb dJ0_coder_7d493_6 rfl (lv_at hl 0 rfl) ?_
  refine vk_getf hx hb hT.2.1 hS hown (hts (.fieldLink RJ0 15 "java/lang/String" "coder" "B") (by decide +kernel)) (fun _ h => h) dJ0_coder_7d493_7 ?_
  refine lv_goto (tgt := 14) hx hb dJ0_coder_7d493_10 (by decide) ?_
  exact hret (0 : Int32) () (by decide) rfl hP hD hS dJ0_coder_7d493_14
set_option maxHeartbeats 4000000 in
theorem ct_J0_isLatin1_aae02 (l : Launch) (D : va_G) (X : gX) (cI cZ cB cG : ClassId) (sz : Nat) (q qv n : Nat) (f : Nat → Int32) (hn : gAs n f) : Met l yJ0_isLatin1_aae02 wsJ0_isLatin1_aae02 rm_J0_isLatin1_aae02 (gPs q qv n f D X (gT cI cZ cB cG) sz [.ref q] ([] : va_W)) (va_Qi (fun (r : Int32) (u : Unit) => narrow .boolean (.int r) = .int r ∧ (r = 1)) (fun u t => gB D (gT cI cZ cB cG) (va_A ([] : va_W) sz) ([] : va_W) t) (va_A ([] : va_W) sz)) 0 0 (va_A ([] : va_W) sz) := by
  refine g_ofSx .boolean (cc := cJ0_isLatin1_aae02) (maxL := 1) (post := fun (r : Int32) (u : Unit) => r = 1) (W1 := fun (_ : Unit) => ([] : va_W)) (by decide +kernel) (Nat.le_of_ble_eq_true rfl) rfl ?_
  intro p e s m args below meth c A Q hx hb hml hown hts hA hK hE hT H hP hD hS ls hl hret
  have hl : lv_has ls 1 [(0, .ref q)] := hl
  refine va_gets hx hb hE.2.2.2.2.2.2.2.2.1 hS hown (hts (.fieldLink RJ0 38 "java/lang/String" "COMPACT_STRINGS" "Z") (by decide +kernel)) (fun _ h => h) dJ0_isLatin1_aae02_0 ?_
  refine lv_if_eq (tgt := 17) hx hb dJ0_isLatin1_aae02_3 (by decide) (fun hc => absurd hc (by decide)) (fun _ => ?_)
  refine lv_aload_n hx hb dJ0_isLatin1_aae02_6 rfl (lv_at hl 0 rfl) ?_
  refine vk_getf hx hb hT.2.1 hS hown (hts (.fieldLink RJ0 15 "java/lang/String" "coder" "B") (by decide +kernel)) (fun _ h => h) dJ0_isLatin1_aae02_7 ?_
  refine lv_if_ne (tgt := 17) hx hb dJ0_isLatin1_aae02_10 (by decide) (fun hc => absurd rfl hc) (fun _ => ?_)
  refine lv_iconst (v := (1 : Int32)) hx hb dJ0_isLatin1_aae02_13 (by decide) ?_
  refine lv_goto (tgt := 18) hx hb dJ0_isLatin1_aae02_14 (by decide) ?_
  exact hret (1 : Int32) () (by decide) rfl hP hD hS dJ0_isLatin1_aae02_18
set_option maxHeartbeats 4000000 in
theorem ct_J0_length_8abf5 (l : Launch) (D : va_G) (X : gX) (cI cZ cB cG : ClassId) (sz : Nat) (q qv n : Nat) (f : Nat → Int32) (hn : gAs n f) : Met l yJ0_length_8abf5 wsJ0_length_8abf5 rm_J0_length_8abf5 (gPs q qv n f D X (gT cI cZ cB cG) sz [.ref q] ([] : va_W)) (va_Qi (fun (r : Int32) (u : Unit) => r = nI (n)) (fun u t => gB D (gT cI cZ cB cG) (va_A ([] : va_W) sz) ([] : va_W) t) (va_A ([] : va_W) sz)) 0 0 (va_A ([] : va_W) sz) := by
  refine g_ofSi (cc := cJ0_length_8abf5) (maxL := 1) (post := fun (r : Int32) (u : Unit) => r = nI (n)) (W1 := fun (_ : Unit) => ([] : va_W)) (by decide +kernel) (Nat.le_of_ble_eq_true rfl) rfl ?_
  intro p e s m args below meth c A Q hx hb hml hown hts hA hK hE hT H hP hD hS ls hl hret
  have hl : lv_has ls 1 [(0, .ref q)] := hl
  refine lv_aload_n hx hb dJ0_length_8abf5_0 rfl (lv_at hl 0 rfl) ?_
  refine vk_getf hx hb hT.2.2.1 hS hown (hts (.fieldLink RJ0 9 "java/lang/String" "value" "[B") (by decide +kernel)) (fun _ h => h) dJ0_length_8abf5_1 ?_
  refine va_tlen hx hb hT.2.2.2 hS rfl dJ0_length_8abf5_4 ?_
  refine lv_aload_n hx hb dJ0_length_8abf5_5 rfl (lv_at hl 0 rfl) ?_
  have hPc := hP.sub (ws' := ([] : va_W)) [] rfl
  have hDc := hD.sub (ws' := ([] : va_W)) [] (by decide +kernel) rfl
  have hFc := va_free (wc := ([] : va_W)) hD hS hA [] rfl
  refine va_calli (va_runV (As := []) (rest := [.int (Int32.ofNat (n))]) ⟨hx, hb, hml, hown, hts⟩ (ct_J0_coder_7d493 l D X cI cZ cB cG H.size q qv n f hn) (cwV 0 hts gJ0_length_8abf5_J0_coder_7d493 rfl rfl rfl (by decide +kernel) ⟨Nat.le_of_ble_eq_true rfl, Nat.le_of_ble_eq_true rfl⟩) ⟨gs_blind, gSt.recv hT hS, fun U hU hW => gs_side hU hW hPc hK hDc hE hT hS hFc⟩ rfl rfl hl.1 rfl (lv_room (Nat.le_of_ble_eq_true rfl)) dJ0_length_8abf5_6 ⟨Nat.zero_le _, Nat.zero_le _⟩) hS (fun q _ h => hFc q h) hFc (fun r_2 u t H1 locs ht hvm hw9 hB hz1 hk1 hS => ?_)
  obtain ⟨hP1, hK1, hD1⟩ := hB
  rw [ht] at hP1
  obtain ⟨hP, hD⟩ := g_back (wc := ([] : va_W)) (w1 := ([] : va_W)) hP hD [] rfl rfl hk1 hP1
  have hP : va_P D vwCl ([] : va_W) H1 := hP
  have hD : va_D A ([] : va_W) := hD
  generalize H1 = H at hP hS ⊢
  obtain ⟨_, hr0⟩ := hw9
  subst hr0
  refine lv_ishr hx hb dJ0_length_8abf5_9 ?_
  exact hret _ () (show Int32.ofNat n >>> ((0 : Int32) &&& 31) = nI n from sb_shr0 _) hP hD hS dJ0_length_8abf5_10
set_option maxHeartbeats 4000000 in
theorem ct_J1_charAt_3b067 (l : Launch) (D : va_G) (X : gX) (cI cZ cB cG : ClassId) (sz : Nat) (q qv n : Nat) (f : Nat → Int32) (hn : gAs n f) (v : Int32) (hv : vp_in v n) : Met l yJ1_charAt_3b067 wsJ1_charAt_3b067 rm_J1_charAt_3b067 (gPs q qv n f D X (gT cI cZ cB cG) sz [.ref qv, .int v] ([] : va_W)) (va_Qi (fun (r : Int32) (u : Unit) => narrow .char (.int r) = .int r ∧ (r = (f v.toNatClampNeg))) (fun u t => gB D (gT cI cZ cB cG) (va_A ([] : va_W) sz) ([] : va_W) t) (va_A ([] : va_W) sz)) 0 0 (va_A ([] : va_W) sz) := by
  refine g_ofSx .char (cc := cJ1_charAt_3b067) (maxL := 2) (post := fun (r : Int32) (u : Unit) => r = (f v.toNatClampNeg)) (W1 := fun (_ : Unit) => ([] : va_W)) (by decide +kernel) (Nat.le_of_ble_eq_true rfl) rfl ?_
  intro p e s m args below meth c A Q hx hb hml hown hts hA hK hE hT H hP hD hS ls hl hret
  have hl : lv_has ls 2 [(0, .ref qv), (1, .int v)] := hl
  have h5 := hn.1
  obtain ⟨h0, h1⟩ := in_lt hv (by omega)
  have h7 := hn.ch (j := v.toNatClampNeg) (Nat.lt_of_not_le (fun z => hv (Or.inr z)))
  refine lv_iload_n hx hb dJ1_charAt_3b067_0 rfl (lv_at hl 1 rfl) ?_
  refine lv_aload_n hx hb dJ1_charAt_3b067_1 rfl (lv_at hl 0 rfl) ?_
  refine va_tlen hx hb hT.2.2.2 hS rfl dJ1_charAt_3b067_2 ?_
  have hPc := hP.sub (ws' := ([] : va_W)) [] rfl
  have hDc := hD.sub (ws' := ([] : va_W)) [] (by decide +kernel) rfl
  have hFc := va_free (wc := ([] : va_W)) hD hS hA [] rfl
  refine va_callv (va_runS (As := [.int v, .int (Int32.ofNat (n))]) (rest := []) ⟨hx, hb, hml, hown, hts⟩ (c_J0_checkIndex_df160 l D X cI cZ cB cG H.size v (Int32.ofNat (n)) h0 h1) (va_cwS 2 hts gJ1_charAt_3b067_J0_checkIndex_df160 rfl rfl rfl (by decide +kernel) ⟨Nat.le_of_ble_eq_true rfl, Nat.le_of_ble_eq_true rfl⟩) ⟨g_blind, fun U hU hW => g_side hU hW hPc hK hDc hE hS hFc⟩ rfl rfl hl.1 rfl (lv_room (Nat.le_of_ble_eq_true rfl)) dJ1_charAt_3b067_3 ⟨Nat.zero_le _, Nat.zero_le _⟩) hS (fun q _ h => hFc q h) hFc (fun u t H1 locs ht hvm hw9 hB hz1 hk1 hS => ?_)
  obtain ⟨hP1, hK1, hD1⟩ := hB
  rw [ht] at hP1
  obtain ⟨hP, hD⟩ := g_back (wc := ([] : va_W)) (w1 := ([] : va_W)) hP hD [] rfl rfl hk1 hP1
  have hP : va_P D vwCl ([] : va_W) H1 := hP
  have hD : va_D A ([] : va_W) := hD
  generalize H1 = H at hP hS ⊢
  refine lv_aload_n hx hb dJ1_charAt_3b067_6 rfl (lv_at hl 0 rfl) ?_
  refine lv_iload_n hx hb dJ1_charAt_3b067_7 rfl (lv_at hl 1 rfl) ?_
  refine va_tb hx hb hT.2.2.2 hS hv (v := .int ((f v.toNatClampNeg))) rfl dJ1_charAt_3b067_8 ?_
  refine lv_sipush (v := (255 : Int32)) hx hb dJ1_charAt_3b067_9 (by decide) ?_
  refine lv_iand hx hb dJ1_charAt_3b067_12 ?_
  refine lv_i2c (v := (f v.toNatClampNeg)) hx hb dJ1_charAt_3b067_13 h7.1 ?_
  exact hret ((f v.toNatClampNeg)) () h7.2 rfl hP hD hS dJ1_charAt_3b067_14
set_option maxHeartbeats 4000000 in
theorem ct_J0_charAt_5068e (l : Launch) (D : va_G) (X : gX) (cI cZ cB cG : ClassId) (sz : Nat) (q qv n : Nat) (f : Nat → Int32) (hn : gAs n f) (v : Int32) (hv : vp_in v n) : Met l yJ0_charAt_5068e wsJ0_charAt_5068e rm_J0_charAt_5068e (gPs q qv n f D X (gT cI cZ cB cG) sz [.ref q, .int v] ([] : va_W)) (va_Qi (fun (r : Int32) (u : Unit) => narrow .char (.int r) = .int r ∧ (r = (f v.toNatClampNeg))) (fun u t => gB D (gT cI cZ cB cG) (va_A ([] : va_W) sz) ([] : va_W) t) (va_A ([] : va_W) sz)) 0 0 (va_A ([] : va_W) sz) := by
  refine g_ofSx .char (cc := cJ0_charAt_5068e) (maxL := 2) (post := fun (r : Int32) (u : Unit) => r = (f v.toNatClampNeg)) (W1 := fun (_ : Unit) => ([] : va_W)) (by decide +kernel) (Nat.le_of_ble_eq_true rfl) rfl ?_
  intro p e s m args below meth c A Q hx hb hml hown hts hA hK hE hT H hP hD hS ls hl hret
  have hl : lv_has ls 2 [(0, .ref q), (1, .int v)] := hl
  refine lv_aload_n hx hb dJ0_charAt_5068e_0 rfl (lv_at hl 0 rfl) ?_
  have hPc := hP.sub (ws' := ([] : va_W)) [] rfl
  have hDc := hD.sub (ws' := ([] : va_W)) [] (by decide +kernel) rfl
  have hFc := va_free (wc := ([] : va_W)) hD hS hA [] rfl
  refine va_calli (va_runV (As := []) (rest := []) ⟨hx, hb, hml, hown, hts⟩ (ct_J0_isLatin1_aae02 l D X cI cZ cB cG H.size q qv n f hn) (cwV 0 hts gJ0_charAt_5068e_J0_isLatin1_aae02 rfl rfl rfl (by decide +kernel) ⟨Nat.le_of_ble_eq_true rfl, Nat.le_of_ble_eq_true rfl⟩) ⟨gs_blind, gSt.recv hT hS, fun U hU hW => gs_side hU hW hPc hK hDc hE hT hS hFc⟩ rfl rfl hl.1 rfl (lv_room (Nat.le_of_ble_eq_true rfl)) dJ0_charAt_5068e_1 ⟨Nat.zero_le _, Nat.zero_le _⟩) hS (fun q _ h => hFc q h) hFc (fun r_2 u t H1 locs ht hvm hw9 hB hz1 hk1 hS => ?_)
  obtain ⟨hP1, hK1, hD1⟩ := hB
  rw [ht] at hP1
  obtain ⟨hP, hD⟩ := g_back (wc := ([] : va_W)) (w1 := ([] : va_W)) hP hD [] rfl rfl hk1 hP1
  have hP : va_P D vwCl ([] : va_W) H1 := hP
  have hD : va_D A ([] : va_W) := hD
  generalize H1 = H at hP hS ⊢
  obtain ⟨_, hr0⟩ := hw9
  subst hr0
  refine lv_if_eq (tgt := 16) hx hb dJ0_charAt_5068e_4 (by decide) (fun hc => absurd hc (by decide)) (fun _ => ?_)
  refine lv_aload_n hx hb dJ0_charAt_5068e_7 rfl (lv_at hl 0 rfl) ?_
  refine vk_getf hx hb hT.2.2.1 hS hown (hts (.fieldLink RJ0 9 "java/lang/String" "value" "[B") (by decide +kernel)) (fun _ h => h) dJ0_charAt_5068e_8 ?_
  refine lv_iload_n hx hb dJ0_charAt_5068e_11 rfl (lv_at hl 1 rfl) ?_
  have hPc := hP.sub (ws' := ([] : va_W)) [] rfl
  have hDc := hD.sub (ws' := ([] : va_W)) [] (by decide +kernel) rfl
  have hFc := va_free (wc := ([] : va_W)) hD hS hA [] rfl
  refine va_calli (va_runS (As := [.ref qv, .int v]) (rest := []) ⟨hx, hb, hml, hown, hts⟩ (ct_J1_charAt_3b067 l D X cI cZ cB cG H.size q qv n f hn v hv) (va_cwS 2 hts gJ0_charAt_5068e_J1_charAt_3b067 rfl rfl rfl (by decide +kernel) ⟨Nat.le_of_ble_eq_true rfl, Nat.le_of_ble_eq_true rfl⟩) ⟨gs_blind, fun U hU hW => gs_side hU hW hPc hK hDc hE hT hS hFc⟩ rfl rfl hl.1 rfl (lv_room (Nat.le_of_ble_eq_true rfl)) dJ0_charAt_5068e_12 ⟨Nat.zero_le _, Nat.zero_le _⟩) hS (fun q _ h => hFc q h) hFc (fun r_3 u t H1 locs ht hvm hw9 hB hz1 hk1 hS => ?_)
  obtain ⟨hP1, hK1, hD1⟩ := hB
  rw [ht] at hP1
  obtain ⟨hP, hD⟩ := g_back (wc := ([] : va_W)) (w1 := ([] : va_W)) hP hD [] rfl rfl hk1 hP1
  have hP : va_P D vwCl ([] : va_W) H1 := hP
  have hD : va_D A ([] : va_W) := hD
  generalize H1 = H at hP hS ⊢
  obtain ⟨hn9, hr0⟩ := hw9
  exact hret r_3 () hn9 hr0 hP hD hS dJ0_charAt_5068e_15

