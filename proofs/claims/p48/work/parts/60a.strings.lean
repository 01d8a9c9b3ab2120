/-! the texts of the class: the methods of String over them -/
section GOFX
variable {l : Launch} {y : MethodName} {ws ws' : List Cond} {rm : Room} {D : va_G} {X : gX} {tys : List (ClassId × FieldType)} {sz : Nat} {av : List Value} {W0 : va_W} {S : Type} {W1 : S → va_W} {cc : ByteArray} {maxL : Nat}
theorem g_ofWx (ty : FieldType) {post : Int32 → S → Prop} (hy : plainFor y = true) (hlen : (lg_sl av).length ≤ maxL) (hw : ws = Cond.code y cc maxL (some ty) :: ws')
    (body : ∀ (p : Program) (e : Env) (s : State) (m : MethodId) (args : Array Value) (below : List Frame) (meth : Method) (c : Code) (A : Nat → Prop) (Q : State → Prop),
      p.tables.exec = Jvm.exec → c.code = cc → c.maxLocals = maxL → s.vm.findClass y.cls = some m.cls → (∀ w ∈ ws, w.before args s = true) → (∀ q : Nat, s.heap.size ≤ q → A q) → va_K D vwCl tys s → gE X A s s.heap → ∀ H : Heap, va_P D vwCl W0 H → va_D A W0 → va_S A s.heap H [] →
      ∀ ls : Array Slot, lv_has ls maxL (lv_args 0 av) →
      (∀ {H : Heap} {locs : List Loc} {pc : Nat} {ls : Array Slot} (r : Int32) (u : S), narrow ty (.int r) = .int r → post r u → va_P D vwCl (W1 u) H → va_D A (W1 u) → va_S A s.heap H locs → decode cc pc = .ok (.ireturn, 1) → W p l e rm s m args below meth c H locs 0 0 Q (F0 m pc ls [.int r])) →
      W p l e rm s m args below meth c H [] 0 0 Q (F0 m 0 ls [])) :
    Met l y ws rm (gP D X tys sz av W0) (va_Qi (fun r u => narrow ty (.int r) = .int r ∧ post r u) (fun u t => gB D tys (va_A W0 sz) (W1 u) t) (va_A W0 sz)) 0 0 (va_A W0 sz) := by
  refine g_MetF (cc := cc) (maxL := maxL) (ret := some ty) hy hw ?_
  intro p e s m args below meth c s₁ B hml hv
  obtain ⟨rfl, hsz, hP, hK, hD0, hE⟩ := hv
  have hts := atoms_spec (ws := ws) B.pre
  have hown : s.vm.findClass y.cls = some m.cls := findClass_of_methodNamed B.named
  have hlocks := B.notSynchronized
  subst hsz
  have hD := hD0.self (sz := s.heap.size)
  have hA : ∀ q : Nat, s.heap.size ≤ q → va_A W0 s.heap.size q := fun q h => Or.inr h
  have hl := lv_entry av (n := maxL) hlen
  rw [lg_entry_eq]
  generalize (lg_sl av ++ List.replicate (maxL - (lg_sl av).length) Slot.unset).toArray = ls at hl ⊢
  refine body p e s m _ below meth c _ _ B.exec B.bytes hml hown hts hA hK hE _ hP hD va_S.rf ls hl ?_
  intro H locs pc ls r u hn hp hP hD hS hdg
  exact W.zret B.exec B.bytes B.returns hn (fun t ht hW => ⟨⟨r, u, rfl, ⟨hn, hp⟩, by rw [ht]; exact hP, va_K.moved hW.alike hK, hD⟩, hS.F ht⟩) hS.2.2 hdg
end GOFX
def bW (w : Nat) (v : Int32) : Int32 := (gByt.getD w []).getD v.toNatClampNeg 0
theorem bW_ok : ∀ w, w < 9 → gLen.getD w 0 ≤ 7 ∧ ∀ k, k < gLen.getD w 0 → ((((gByt.getD w []).getD k 0 &&& 255).toUInt32 % 65536).toInt32 = (gByt.getD w []).getD k 0 ∧ narrow .char (.int ((gByt.getD w []).getD k 0)) = .int ((gByt.getD w []).getD k 0)) := by decide +kernel
theorem lW_ok : ∀ w, w < 9 → (Int32.ofNat (gLen.getD w 0)) >>> ((0 : Int32) &&& 31) = nI (gLen.getD w 0) := by decide +kernel
theorem in_lt {v : Int32} {n : Nat} (h : vp_in v n) (hn : n < 2 ^ 31) : ¬ v < 0 ∧ v < Int32.ofNat n := by
  have h1 : ¬ v < 0 := fun q => h (Or.inl q)
  have h2 : ¬ n ≤ v.toNatClampNeg := fun q => h (Or.inr q)
  refine ⟨h1, Int32.lt_iff_toInt_lt.mpr ?_⟩
  have h3 : (0 : Int) ≤ v.toInt := by
    have := Int32.not_lt.mp h1
    simpa using Int32.le_iff_toInt_le.mp this
  have h4 : v.toNatClampNeg = v.toInt.toNat := rfl
  rw [Int32.toInt_ofNat_of_lt (by omega)]
  omega
abbrev rm_J0_coder_7d493 : Room := { frames := 1, cells := 0, slots := 0, locals := 80 }
set_option maxHeartbeats 4000000 in
theorem c_J0_coder_7d493 (l : Launch) (D : va_G) (X : gX) (cI cZ cB cG : ClassId) (sz : Nat) (w : Nat) (hw : w < 9) : Met l yJ0_coder_7d493 wsJ0_coder_7d493 rm_J0_coder_7d493 (gP D X (gT cI cZ cB cG) sz [.ref (X.1 w)] ([] : va_W)) (va_Qi (fun (r : Int32) (u : Unit) => narrow .byte (.int r) = .int r ∧ (r = 0)) (fun u t => gB D (gT cI cZ cB cG) (va_A ([] : va_W) sz) ([] : va_W) t) (va_A ([] : va_W) sz)) 0 0 (va_A ([] : va_W) sz) := by
  refine g_ofWx .byte (cc := cJ0_coder_7d493) (maxL := 1) (post := fun (r : Int32) (u : Unit) => r = 0) (W1 := fun (_ : Unit) => ([] : va_W)) (by decide +kernel) (Nat.le_of_ble_eq_true rfl) rfl ?_
  intro p e s m args below meth c A Q hx hb hml hown hts hA hK hE H hP hD hS ls hl hret
  have hSt := hE.2.2.2.2.2.1
  have hl : lv_has ls 1 [(0, .ref (X.1 w))] := hl
  refine va_gets hx hb hE.2.2.2.2.2.2.2.2.1 hS hown (hts (.fieldLink RJ0 38 "java/lang/String" "COMPACT_STRINGS" "Z") (by decide +kernel)) (fun _ h => h) dJ0_coder_7d493_0 ?_
  refine lv_if_eq (tgt := 13) hx hb dJ0_coder_7d493_3 (by decide) (fun hc => absurd hc (by decide)) (fun _ => ?_)
  refine lv_aload_n hx hb dJ0_coder_7d493_6 rfl (lv_at hl 0 rfl) ?_
  refine vk_getf hx hb (hSt.1 w hw).2.1 hS hown (hts (.fieldLink RJ0 15 "java/lang/String" "coder" "B") (by decide +kernel)) (fun _ h => h) dJ0_coder_7d493_7 ?_
  refine lv_goto (tgt := 14) hx hb dJ0_coder_7d493_10 (by decide) ?_
  exact hret (0 : Int32) () (by decide) rfl hP hD hS dJ0_coder_7d493_14
abbrev rm_J0_isLatin1_aae02 : Room := { frames := 1, cells := 0, slots := 0, locals := 80 }
set_option maxHeartbeats 4000000 in
theorem c_J0_isLatin1_aae02 (l : Launch) (D : va_G) (X : gX) (cI cZ cB cG : ClassId) (sz : Nat) (w : Nat) (hw : w < 9) : Met l yJ0_isLatin1_aae02 wsJ0_isLatin1_aae02 rm_J0_isLatin1_aae02 (gP D X (gT cI cZ cB cG) sz [.ref (X.1 w)] ([] : va_W)) (va_Qi (fun (r : Int32) (u : Unit) => narrow .boolean (.int r) = .int r ∧ (r = 1)) (fun u t => gB D (gT cI cZ cB cG) (va_A ([] : va_W) sz) ([] : va_W) t) (va_A ([] : va_W) sz)) 0 0 (va_A ([] : va_W) sz) := by
  refine g_ofWx .boolean (cc := cJ0_isLatin1_aae02) (maxL := 1) (post := fun (r : Int32) (u : Unit) => r = 1) (W1 := fun (_ : Unit) => ([] : va_W)) (by decide +kernel) (Nat.le_of_ble_eq_true rfl) rfl ?_
  intro p e s m args below meth c A Q hx hb hml hown hts hA hK hE H hP hD hS ls hl hret
  have hSt := hE.2.2.2.2.2.1
  have hl : lv_has ls 1 [(0, .ref (X.1 w))] := hl
  refine va_gets hx hb hE.2.2.2.2.2.2.2.2.1 hS hown (hts (.fieldLink RJ0 38 "java/lang/String" "COMPACT_STRINGS" "Z") (by decide +kernel)) (fun _ h => h) dJ0_isLatin1_aae02_0 ?_
  refine lv_if_eq (tgt := 17) hx hb dJ0_isLatin1_aae02_3 (by decide) (fun hc => absurd hc (by decide)) (fun _ => ?_)
  refine lv_aload_n hx hb dJ0_isLatin1_aae02_6 rfl (lv_at hl 0 rfl) ?_
  refine vk_getf hx hb (hSt.1 w hw).2.1 hS hown (hts (.fieldLink RJ0 15 "java/lang/String" "coder" "B") (by decide +kernel)) (fun _ h => h) dJ0_isLatin1_aae02_7 ?_
  refine lv_if_ne (tgt := 17) hx hb dJ0_isLatin1_aae02_10 (by decide) (fun hc => absurd rfl hc) (fun _ => ?_)
  refine lv_iconst (v := (1 : Int32)) hx hb dJ0_isLatin1_aae02_13 (by decide) ?_
  refine lv_goto (tgt := 18) hx hb dJ0_isLatin1_aae02_14 (by decide) ?_
  exact hret (1 : Int32) () (by decide) rfl hP hD hS dJ0_isLatin1_aae02_18
abbrev rm_J0_length_8abf5 : Room := { frames := 2, cells := 0, slots := 0, locals := 100 }
set_option maxHeartbeats 4000000 in
theorem c_J0_length_8abf5 (l : Launch) (D : va_G) (X : gX) (cI cZ cB cG : ClassId) (sz : Nat) (w : Nat) (hw : w < 9) : Met l yJ0_length_8abf5 wsJ0_length_8abf5 rm_J0_length_8abf5 (gP D X (gT cI cZ cB cG) sz [.ref (X.1 w)] ([] : va_W)) (va_Qi (fun (r : Int32) (u : Unit) => r = nI (gLen.getD w 0)) (fun u t => gB D (gT cI cZ cB cG) (va_A ([] : va_W) sz) ([] : va_W) t) (va_A ([] : va_W) sz)) 0 0 (va_A ([] : va_W) sz) := by
  refine g_ofWi (cc := cJ0_length_8abf5) (maxL := 1) (post := fun (r : Int32) (u : Unit) => r = nI (gLen.getD w 0)) (W1 := fun (_ : Unit) => ([] : va_W)) (by decide +kernel) (Nat.le_of_ble_eq_true rfl) rfl ?_
  intro p e s m args below meth c A Q hx hb hml hown hts hA hK hE H hP hD hS ls hl hret
  have hSt := hE.2.2.2.2.2.1
  have hl : lv_has ls 1 [(0, .ref (X.1 w))] := hl
  refine lv_aload_n hx hb dJ0_length_8abf5_0 rfl (lv_at hl 0 rfl) ?_
  refine vk_getf hx hb (hSt.1 w hw).2.2.1 hS hown (hts (.fieldLink RJ0 9 "java/lang/String" "value" "[B") (by decide +kernel)) (fun _ h => h) dJ0_length_8abf5_1 ?_
  refine va_tlen hx hb (hSt.1 w hw).2.2.2 hS rfl dJ0_length_8abf5_4 ?_
  refine lv_aload_n hx hb dJ0_length_8abf5_5 rfl (lv_at hl 0 rfl) ?_
  have hPc := hP.sub (ws' := ([] : va_W)) [] rfl
  have hDc := hD.sub (ws' := ([] : va_W)) [] (by decide +kernel) rfl
  have hFc := va_free (wc := ([] : va_W)) hD hS hA [] rfl
  refine va_calli (va_runV (As := []) (rest := [.int (Int32.ofNat (gLen.getD w 0))]) ⟨hx, hb, hml, hown, hts⟩ (c_J0_coder_7d493 l D X cI cZ cB cG H.size w hw) (cwV 0 hts gJ0_length_8abf5_J0_coder_7d493 rfl rfl rfl (by decide +kernel) ⟨Nat.le_of_ble_eq_true rfl, Nat.le_of_ble_eq_true rfl⟩) ⟨g_blind, vk_recv hSt hw hS, fun U hU hW => g_side hU hW hPc hK hDc hE hS hFc⟩ rfl rfl hl.1 rfl (lv_room (Nat.le_of_ble_eq_true rfl)) dJ0_length_8abf5_6 ⟨Nat.zero_le _, Nat.zero_le _⟩) hS (fun q _ h => hFc q h) hFc (fun r_2 u t H1 locs ht hvm hw9 hB hz1 hk1 hS => ?_)
  obtain ⟨hP1, hK1, hD1⟩ := hB
  rw [ht] at hP1
  obtain ⟨hP, hD⟩ := g_back (wc := ([] : va_W)) (w1 := ([] : va_W)) hP hD [] rfl rfl hk1 hP1
  have hP : va_P D vwCl ([] : va_W) H1 := hP
  have hD : va_D A ([] : va_W) := hD
  generalize H1 = H at hP hS ⊢
  obtain ⟨_, hr0⟩ := hw9
  subst hr0
  refine lv_ishr hx hb dJ0_length_8abf5_9 ?_
  exact hret _ () (lW_ok w hw) hP hD hS dJ0_length_8abf5_10
abbrev rm_J3_checkIndex_8e157 : Room := { frames := 1, cells := 0, slots := 0, locals := 80 }
set_option maxHeartbeats 4000000 in
theorem c_J3_checkIndex_8e157 (l : Launch) (D : va_G) (X : gX) (cI cZ cB cG : ClassId) (sz : Nat) (k n : Int32) (h0 : ¬ k < 0) (h1 : k < n) : Met l yJ3_checkIndex_8e157 wsJ3_checkIndex_8e157 rm_J3_checkIndex_8e157 (gP D X (gT cI cZ cB cG) sz [.int k, .int n, .null] ([] : va_W)) (va_Qi (fun (r : Int32) (u : Unit) => r = k) (fun u t => gB D (gT cI cZ cB cG) (va_A ([] : va_W) sz) ([] : va_W) t) (va_A ([] : va_W) sz)) 0 0 (va_A ([] : va_W) sz) := by
  refine g_ofWi (cc := cJ3_checkIndex_8e157) (maxL := 3) (post := fun (r : Int32) (u : Unit) => r = k) (W1 := fun (_ : Unit) => ([] : va_W)) (by decide +kernel) (Nat.le_of_ble_eq_true rfl) rfl ?_
  intro p e s m args below meth c A Q hx hb hml hown hts hA hK hE H hP hD hS ls hl hret
  have hSt := hE.2.2.2.2.2.1
  have hl : lv_has ls 3 [(0, .int k), (1, .int n), (2, .null)] := hl
  refine lv_iload_n hx hb dJ3_checkIndex_8e157_0 rfl (lv_at hl 0 rfl) ?_
  refine lv_if_lt (tgt := 9) hx hb dJ3_checkIndex_8e157_1 (by decide) (fun hc => absurd hc h0) (fun _ => ?_)
  refine lv_iload_n hx hb dJ3_checkIndex_8e157_4 rfl (lv_at hl 0 rfl) ?_
  refine lv_iload_n hx hb dJ3_checkIndex_8e157_5 rfl (lv_at hl 1 rfl) ?_
  refine lv_icmp_lt (tgt := 16) hx hb dJ3_checkIndex_8e157_6 (by decide) (fun _ => ?_) (fun hc => absurd h1 hc)
  refine lv_iload_n hx hb dJ3_checkIndex_8e157_16 rfl (lv_at hl 0 rfl) ?_
  exact hret k () rfl hP hD hS dJ3_checkIndex_8e157_17
set_option maxHeartbeats 4000000 in
theorem c_J3_checkIndex_8e157r (l : Launch) (D : va_G) (X : gX) (cI cZ cB cG : ClassId) (sz : Nat) (t9 : Nat) (k n : Int32) (h0 : ¬ k < 0) (h1 : k < n) : Met l yJ3_checkIndex_8e157 wsJ3_checkIndex_8e157 rm_J3_checkIndex_8e157 (gP D X (gT cI cZ cB cG) sz [.int k, .int n, .ref t9] ([] : va_W)) (va_Qi (fun (r : Int32) (u : Unit) => r = k) (fun u t => gB D (gT cI cZ cB cG) (va_A ([] : va_W) sz) ([] : va_W) t) (va_A ([] : va_W) sz)) 0 0 (va_A ([] : va_W) sz) := by
  refine g_ofWi (cc := cJ3_checkIndex_8e157) (maxL := 3) (post := fun (r : Int32) (u : Unit) => r = k) (W1 := fun (_ : Unit) => ([] : va_W)) (by decide +kernel) (Nat.le_of_ble_eq_true rfl) rfl ?_
  intro p e s m args below meth c A Q hx hb hml hown hts hA hK hE H hP hD hS ls hl hret
  have hSt := hE.2.2.2.2.2.1
  have hl : lv_has ls 3 [(0, .int k), (1, .int n), (2, .ref t9)] := hl
  refine lv_iload_n hx hb dJ3_checkIndex_8e157_0 rfl (lv_at hl 0 rfl) ?_
  refine lv_if_lt (tgt := 9) hx hb dJ3_checkIndex_8e157_1 (by decide) (fun hc => absurd hc h0) (fun _ => ?_)
  refine lv_iload_n hx hb dJ3_checkIndex_8e157_4 rfl (lv_at hl 0 rfl) ?_
  refine lv_iload_n hx hb dJ3_checkIndex_8e157_5 rfl (lv_at hl 1 rfl) ?_
  refine lv_icmp_lt (tgt := 16) hx hb dJ3_checkIndex_8e157_6 (by decide) (fun _ => ?_) (fun hc => absurd h1 hc)
  refine lv_iload_n hx hb dJ3_checkIndex_8e157_16 rfl (lv_at hl 0 rfl) ?_
  exact hret k () rfl hP hD hS dJ3_checkIndex_8e157_17
abbrev rm_J0_checkIndex_df160 : Room := { frames := 2, cells := 0, slots := 0, locals := 102 }
set_option maxHeartbeats 4000000 in
theorem c_J0_checkIndex_df160 (l : Launch) (D : va_G) (X : gX) (cI cZ cB cG : ClassId) (sz : Nat) (k n : Int32) (h0 : ¬ k < 0) (h1 : k < n) : Met l yJ0_checkIndex_df160 wsJ0_checkIndex_df160 rm_J0_checkIndex_df160 (gP D X (gT cI cZ cB cG) sz [.int k, .int n] ([] : va_W)) (va_Qv (fun (_ : Unit) => True) (fun u t => gB D (gT cI cZ cB cG) (va_A ([] : va_W) sz) ([] : va_W) t) (va_A ([] : va_W) sz)) 0 0 (va_A ([] : va_W) sz) := by
  refine g_ofWv (cc := cJ0_checkIndex_df160) (maxL := 2) (post := fun (_ : Unit) => True) (W1 := fun (_ : Unit) => ([] : va_W)) (by decide +kernel) (Nat.le_of_ble_eq_true rfl) rfl ?_
  intro p e s m args below meth c A Q hx hb hml hown hts hA hK hE H hP hD hS ls hl hret
  have hSt := hE.2.2.2.2.2.1
  have hl : lv_has ls 2 [(0, .int k), (1, .int n)] := hl
  refine lv_iload_n hx hb dJ0_checkIndex_df160_0 rfl (lv_at hl 0 rfl) ?_
  refine lv_iload_n hx hb dJ0_checkIndex_df160_1 rfl (lv_at hl 1 rfl) ?_
  have hZq := hE.2.2.2.2.2.2.2.2.2.1
  rcases hZq with hZ | ⟨t9, hZ⟩
  · refine va_gets hx hb hZ hS hown (hts (.fieldLink RJ0 1053 "jdk/internal/util/Preconditions" "SIOOBE_FORMATTER" "Ljava/util/function/BiFunction;") (by decide +kernel)) (fun _ h => h) dJ0_checkIndex_df160_2 ?_
    have hPc := hP.sub (ws' := ([] : va_W)) [] rfl
    have hDc := hD.sub (ws' := ([] : va_W)) [] (by decide +kernel) rfl
    have hFc := va_free (wc := ([] : va_W)) hD hS hA [] rfl
    refine va_calli (va_runS (As := [.int k, .int n, .null]) (rest := []) ⟨hx, hb, hml, hown, hts⟩ (c_J3_checkIndex_8e157 l D X cI cZ cB cG H.size k n h0 h1) (va_cwS 3 hts gJ0_checkIndex_df160_J3_checkIndex_8e157 rfl rfl rfl (by decide +kernel) ⟨Nat.le_of_ble_eq_true rfl, Nat.le_of_ble_eq_true rfl⟩) ⟨g_blind, fun U hU hW => g_side hU hW hPc hK hDc hE hS hFc⟩ rfl rfl hl.1 rfl (lv_room (Nat.le_of_ble_eq_true rfl)) dJ0_checkIndex_df160_5 ⟨Nat.zero_le _, Nat.zero_le _⟩) hS (fun q _ h => hFc q h) hFc (fun r_2 u t H1 locs ht hvm hw9 hB hz1 hk1 hS => ?_)
    obtain ⟨hP1, hK1, hD1⟩ := hB
    rw [ht] at hP1
    obtain ⟨hP, hD⟩ := g_back (wc := ([] : va_W)) (w1 := ([] : va_W)) hP hD [] rfl rfl hk1 hP1
    have hP : va_P D vwCl ([] : va_W) H1 := hP
    have hD : va_D A ([] : va_W) := hD
    generalize H1 = H at hP hS ⊢
    refine lv_pop hx hb dJ0_checkIndex_df160_8 rfl ?_
    exact hret () trivial hP hD hS dJ0_checkIndex_df160_9
  · refine va_gets hx hb hZ hS hown (hts (.fieldLink RJ0 1053 "jdk/internal/util/Preconditions" "SIOOBE_FORMATTER" "Ljava/util/function/BiFunction;") (by decide +kernel)) (fun _ h => h) dJ0_checkIndex_df160_2 ?_
    have hPc := hP.sub (ws' := ([] : va_W)) [] rfl
    have hDc := hD.sub (ws' := ([] : va_W)) [] (by decide +kernel) rfl
    have hFc := va_free (wc := ([] : va_W)) hD hS hA [] rfl
    refine va_calli (va_runS (As := [.int k, .int n, .ref t9]) (rest := []) ⟨hx, hb, hml, hown, hts⟩ (c_J3_checkIndex_8e157r l D X cI cZ cB cG H.size t9 k n h0 h1) (va_cwS 3 hts gJ0_checkIndex_df160_J3_checkIndex_8e157 rfl rfl rfl (by decide +kernel) ⟨Nat.le_of_ble_eq_true rfl, Nat.le_of_ble_eq_true rfl⟩) ⟨g_blind, fun U hU hW => g_side hU hW hPc hK hDc hE hS hFc⟩ rfl rfl hl.1 rfl (lv_room (Nat.le_of_ble_eq_true rfl)) dJ0_checkIndex_df160_5 ⟨Nat.zero_le _, Nat.zero_le _⟩) hS (fun q _ h => hFc q h) hFc (fun r_2 u t H1 locs ht hvm hw9 hB hz1 hk1 hS => ?_)
    obtain ⟨hP1, hK1, hD1⟩ := hB
    rw [ht] at hP1
    obtain ⟨hP, hD⟩ := g_back (wc := ([] : va_W)) (w1 := ([] : va_W)) hP hD [] rfl rfl hk1 hP1
    have hP : va_P D vwCl ([] : va_W) H1 := hP
    have hD : va_D A ([] : va_W) := hD
    generalize H1 = H at hP hS ⊢
    refine lv_pop hx hb dJ0_checkIndex_df160_8 rfl ?_
    exact hret () trivial hP hD hS dJ0_checkIndex_df160_9
abbrev rm_J1_charAt_3b067 : Room := { frames := 3, cells := 0, slots := 0, locals := 123 }
set_option maxHeartbeats 4000000 in
theorem c_J1_charAt_3b067 (l : Launch) (D : va_G) (X : gX) (cI cZ cB cG : ClassId) (sz : Nat) (w : Nat) (hw : w < 9) (v : Int32) (hv : vp_in v (gLen.getD w 0)) : Met l yJ1_charAt_3b067 wsJ1_charAt_3b067 rm_J1_charAt_3b067 (gP D X (gT cI cZ cB cG) sz [.ref (X.2 w), .int v] ([] : va_W)) (va_Qi (fun (r : Int32) (u : Unit) => narrow .char (.int r) = .int r ∧ (r = bW w v)) (fun u t => gB D (gT cI cZ cB cG) (va_A ([] : va_W) sz) ([] : va_W) t) (va_A ([] : va_W) sz)) 0 0 (va_A ([] : va_W) sz) := by
  refine g_ofWx .char (cc := cJ1_charAt_3b067) (maxL := 2) (post := fun (r : Int32) (u : Unit) => r = bW w v) (W1 := fun (_ : Unit) => ([] : va_W)) (by decide +kernel) (Nat.le_of_ble_eq_true rfl) rfl ?_
  intro p e s m args below meth c A Q hx hb hml hown hts hA hK hE H hP hD hS ls hl hret
  have hSt := hE.2.2.2.2.2.1
  have hl : lv_has ls 2 [(0, .ref (X.2 w)), (1, .int v)] := hl
  obtain ⟨h5, h6⟩ := bW_ok w hw
  obtain ⟨h0, h1⟩ := in_lt hv (by omega)
  have h7 := h6 v.toNatClampNeg (Nat.lt_of_not_le (fun q => hv (Or.inr q)))
  refine lv_iload_n hx hb dJ1_charAt_3b067_0 rfl (lv_at hl 1 rfl) ?_
  refine lv_aload_n hx hb dJ1_charAt_3b067_1 rfl (lv_at hl 0 rfl) ?_
  refine va_tlen hx hb (hSt.1 w hw).2.2.2 hS rfl dJ1_charAt_3b067_2 ?_
  have hPc := hP.sub (ws' := ([] : va_W)) [] rfl
  have hDc := hD.sub (ws' := ([] : va_W)) [] (by decide +kernel) rfl
  have hFc := va_free (wc := ([] : va_W)) hD hS hA [] rfl
  refine va_callv (va_runS (As := [.int v, .int (Int32.ofNat (gLen.getD w 0))]) (rest := []) ⟨hx, hb, hml, hown, hts⟩ (c_J0_checkIndex_df160 l D X cI cZ cB cG H.size v (Int32.ofNat (gLen.getD w 0)) h0 h1) (va_cwS 2 hts gJ1_charAt_3b067_J0_checkIndex_df160 rfl rfl rfl (by decide +kernel) ⟨Nat.le_of_ble_eq_true rfl, Nat.le_of_ble_eq_true rfl⟩) ⟨g_blind, fun U hU hW => g_side hU hW hPc hK hDc hE hS hFc⟩ rfl rfl hl.1 rfl (lv_room (Nat.le_of_ble_eq_true rfl)) dJ1_charAt_3b067_3 ⟨Nat.zero_le _, Nat.zero_le _⟩) hS (fun q _ h => hFc q h) hFc (fun u t H1 locs ht hvm hw9 hB hz1 hk1 hS => ?_)
  obtain ⟨hP1, hK1, hD1⟩ := hB
  rw [ht] at hP1
  obtain ⟨hP, hD⟩ := g_back (wc := ([] : va_W)) (w1 := ([] : va_W)) hP hD [] rfl rfl hk1 hP1
  have hP : va_P D vwCl ([] : va_W) H1 := hP
  have hD : va_D A ([] : va_W) := hD
  generalize H1 = H at hP hS ⊢
  refine lv_aload_n hx hb dJ1_charAt_3b067_6 rfl (lv_at hl 0 rfl) ?_
  refine lv_iload_n hx hb dJ1_charAt_3b067_7 rfl (lv_at hl 1 rfl) ?_
  refine va_tb hx hb (hSt.1 w hw).2.2.2 hS hv (v := .int (bW w v)) rfl dJ1_charAt_3b067_8 ?_
  refine lv_sipush (v := (255 : Int32)) hx hb dJ1_charAt_3b067_9 (by decide) ?_
  refine lv_iand hx hb dJ1_charAt_3b067_12 ?_
  refine lv_i2c (v := bW w v) hx hb dJ1_charAt_3b067_13 h7.1 ?_
  exact hret (bW w v) () h7.2 rfl hP hD hS dJ1_charAt_3b067_14
abbrev rm_J0_charAt_5068e : Room := { frames := 4, cells := 0, slots := 0, locals := 144 }
set_option maxHeartbeats 4000000 in
theorem c_J0_charAt_5068e (l : Launch) (D : va_G) (X : gX) (cI cZ cB cG : ClassId) (sz : Nat) (w : Nat) (hw : w < 9) (v : Int32) (hv : vp_in v (gLen.getD w 0)) : Met l yJ0_charAt_5068e wsJ0_charAt_5068e rm_J0_charAt_5068e (gP D X (gT cI cZ cB cG) sz [.ref (X.1 w), .int v] ([] : va_W)) (va_Qi (fun (r : Int32) (u : Unit) => narrow .char (.int r) = .int r ∧ (r = bW w v)) (fun u t => gB D (gT cI cZ cB cG) (va_A ([] : va_W) sz) ([] : va_W) t) (va_A ([] : va_W) sz)) 0 0 (va_A ([] : va_W) sz) := by
  refine g_ofWx .char (cc := cJ0_charAt_5068e) (maxL := 2) (post := fun (r : Int32) (u : Unit) => r = bW w v) (W1 := fun (_ : Unit) => ([] : va_W)) (by decide +kernel) (Nat.le_of_ble_eq_true rfl) rfl ?_
  intro p e s m args below meth c A Q hx hb hml hown hts hA hK hE H hP hD hS ls hl hret
  have hSt := hE.2.2.2.2.2.1
  have hl : lv_has ls 2 [(0, .ref (X.1 w)), (1, .int v)] := hl
  refine lv_aload_n hx hb dJ0_charAt_5068e_0 rfl (lv_at hl 0 rfl) ?_
  have hPc := hP.sub (ws' := ([] : va_W)) [] rfl
  have hDc := hD.sub (ws' := ([] : va_W)) [] (by decide +kernel) rfl
  have hFc := va_free (wc := ([] : va_W)) hD hS hA [] rfl
  refine va_calli (va_runV (As := []) (rest := []) ⟨hx, hb, hml, hown, hts⟩ (c_J0_isLatin1_aae02 l D X cI cZ cB cG H.size w hw) (cwV 0 hts gJ0_charAt_5068e_J0_isLatin1_aae02 rfl rfl rfl (by decide +kernel) ⟨Nat.le_of_ble_eq_true rfl, Nat.le_of_ble_eq_true rfl⟩) ⟨g_blind, vk_recv hSt hw hS, fun U hU hW => g_side hU hW hPc hK hDc hE hS hFc⟩ rfl rfl hl.1 rfl (lv_room (Nat.le_of_ble_eq_true rfl)) dJ0_charAt_5068e_1 ⟨Nat.zero_le _, Nat.zero_le _⟩) hS (fun q _ h => hFc q h) hFc (fun r_2 u t H1 locs ht hvm hw9 hB hz1 hk1 hS => ?_)
  obtain ⟨hP1, hK1, hD1⟩ := hB
  rw [ht] at hP1
  obtain ⟨hP, hD⟩ := g_back (wc := ([] : va_W)) (w1 := ([] : va_W)) hP hD [] rfl rfl hk1 hP1
  have hP : va_P D vwCl ([] : va_W) H1 := hP
  have hD : va_D A ([] : va_W) := hD
  generalize H1 = H at hP hS ⊢
  obtain ⟨_, hr0⟩ := hw9
  subst hr0
  refine lv_if_eq (tgt := 16) hx hb dJ0_charAt_5068e_4 (by decide) (fun hc => absurd hc (by decide)) (fun _ => ?_)
  refine lv_aload_n hx hb dJ0_charAt_5068e_7 rfl (lv_at hl 0 rfl) ?_
  refine vk_getf hx hb (hSt.1 w hw).2.2.1 hS hown (hts (.fieldLink RJ0 9 "java/lang/String" "value" "[B") (by decide +kernel)) (fun _ h => h) dJ0_charAt_5068e_8 ?_
  refine lv_iload_n hx hb dJ0_charAt_5068e_11 rfl (lv_at hl 1 rfl) ?_
  have hPc := hP.sub (ws' := ([] : va_W)) [] rfl
  have hDc := hD.sub (ws' := ([] : va_W)) [] (by decide +kernel) rfl
  have hFc := va_free (wc := ([] : va_W)) hD hS hA [] rfl
  refine va_calli (va_runS (As := [.ref (X.2 w), .int v]) (rest := []) ⟨hx, hb, hml, hown, hts⟩ (c_J1_charAt_3b067 l D X cI cZ cB cG H.size w hw v hv) (va_cwS 2 hts gJ0_charAt_5068e_J1_charAt_3b067 rfl rfl rfl (by decide +kernel) ⟨Nat.le_of_ble_eq_true rfl, Nat.le_of_ble_eq_true rfl⟩) ⟨g_blind, fun U hU hW => g_side hU hW hPc hK hDc hE hS hFc⟩ rfl rfl hl.1 rfl (lv_room (Nat.le_of_ble_eq_true rfl)) dJ0_charAt_5068e_12 ⟨Nat.zero_le _, Nat.zero_le _⟩) hS (fun q _ h => hFc q h) hFc (fun r_3 u t H1 locs ht hvm hw9 hB hz1 hk1 hS => ?_)
  obtain ⟨hP1, hK1, hD1⟩ := hB
  rw [ht] at hP1
  obtain ⟨hP, hD⟩ := g_back (wc := ([] : va_W)) (w1 := ([] : va_W)) hP hD [] rfl rfl hk1 hP1
  have hP : va_P D vwCl ([] : va_W) H1 := hP
  have hD : va_D A ([] : va_W) := hD
  generalize H1 = H at hP hS ⊢
  obtain ⟨hn9, hr0⟩ := hw9
  exact hret r_3 () hn9 hr0 hP hD hS dJ0_charAt_5068e_15
