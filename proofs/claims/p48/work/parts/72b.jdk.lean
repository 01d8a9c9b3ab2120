abbrev rm_J5_getValue_6d5f1 : Room := { frames := 1, cells := 0, slots := 0, locals := 80 }
set_option maxHeartbeats 8000000 in
set_option maxRecDepth 100000 in
theorem c_J5_getValue_6d5f1 (l : Launch) (D : va_G) (X : gX) (cI cZ cB cG : ClassId) (sz : Nat) (q_b q_v : Nat) (n : Int32) : Met l yJ5_getValue_6d5f1 wsJ5_getValue_6d5f1 rm_J5_getValue_6d5f1 (gP D X (gT cI cZ cB cG) sz [.ref q_b] [(q_b, .inr (7, [.ref q_v, .int (0 : Int32), .int (0 : Int32), .int n]))]) (va_Qr (fun (u : Unit) => True) (fun u a t => a = q_v ∧ gB D (gT cI cZ cB cG) (va_A [(q_b, .inr (7, [.ref q_v, .int (0 : Int32), .int (0 : Int32), .int n]))] sz) [(q_b, .inr (7, [.ref q_v, .int (0 : Int32), .int (0 : Int32), .int n]))] t) (va_A [(q_b, .inr (7, [.ref q_v, .int (0 : Int32), .int (0 : Int32), .int n]))] sz)) 0 0 (va_A [(q_b, .inr (7, [.ref q_v, .int (0 : Int32), .int (0 : Int32), .int n]))] sz) := by
  refine g_ofMs (post := fun (u : Unit) => True) (W1 := fun (u : Unit) => [(q_b, .inr (7, [.ref q_v, .int (0 : Int32), .int (0 : Int32), .int n]))]) (cc := cJ5_getValue_6d5f1) (maxL := 1) q_v (by decide +kernel) (Nat.le_of_ble_eq_true rfl) rfl (by first | exact Or.inl ⟨_, rfl⟩ | exact Or.inr ⟨_, rfl⟩) ?_
  intro pp ee ss mth args below meth cdx A Q hx hb hml hown hts hini hA hK hE H hP hD hS ls hl hret
  have hl : lv_has ls 1 [(0, .ref q_b)] := hl
  have hinJ4 : ∀ w ∈ u_ws RJ4 TJ4 4, w ∈ wsJ5_getValue_6d5f1 := by decide +kernel
  refine lv_aload_n hx hb dJ5_getValue_6d5f1_0 rfl (lv_at hl 0 rfl) ?_
  refine va_get (D := D) (ci := 7) (v := .ref q_v) (C := RJ4) (T := TJ4) (N := 4) hx hb hts hinJ4 hown hK hP 0 rfl rfl 0 (by decide) (hts (.fieldLink RJ5 15 "java/lang/AbstractStringBuilder" "value" "[B") (by decide +kernel)) (fun _ h9 => h9) rfl dJ5_getValue_6d5f1_1 ?_
  exact hret () (Nat.le_of_ble_eq_true rfl) (Nat.le_of_ble_eq_true rfl) trivial hP hD hS dJ5_getValue_6d5f1_4
abbrev rm_J5_length_8abf5 : Room := { frames := 1, cells := 0, slots := 0, locals := 80 }
set_option maxHeartbeats 8000000 in
set_option maxRecDepth 100000 in
theorem c_J5_length_8abf5 (l : Launch) (D : va_G) (X : gX) (cI cZ cB cG : ClassId) (sz : Nat) (q_b q_v : Nat) (n : Int32) : Met l yJ5_length_8abf5 wsJ5_length_8abf5 rm_J5_length_8abf5 (gP D X (gT cI cZ cB cG) sz [.ref q_b] [(q_b, .inr (7, [.ref q_v, .int (0 : Int32), .int (0 : Int32), .int n]))]) (va_Qi (fun (r : Int32) (u : Unit) => r = n) (fun u t => gB D (gT cI cZ cB cG) (va_A [(q_b, .inr (7, [.ref q_v, .int (0 : Int32), .int (0 : Int32), .int n]))] sz) [(q_b, .inr (7, [.ref q_v, .int (0 : Int32), .int (0 : Int32), .int n]))] t) (va_A [(q_b, .inr (7, [.ref q_v, .int (0 : Int32), .int (0 : Int32), .int n]))] sz)) 0 0 (va_A [(q_b, .inr (7, [.ref q_v, .int (0 : Int32), .int (0 : Int32), .int n]))] sz) := by
  refine g_ofMi (post := fun (r : Int32) (u : Unit) => r = n) (W1 := fun (u : Unit) => [(q_b, .inr (7, [.ref q_v, .int (0 : Int32), .int (0 : Int32), .int n]))]) (cc := cJ5_length_8abf5) (maxL := 1) (by decide +kernel) (Nat.le_of_ble_eq_true rfl) rfl ?_
  intro pp ee ss mth args below meth cdx A Q hx hb hml hown hts hini hA hK hE H hP hD hS ls hl hret
  have hl : lv_has ls 1 [(0, .ref q_b)] := hl
  have hinJ4 : ∀ w ∈ u_ws RJ4 TJ4 4, w ∈ wsJ5_length_8abf5 := by decide +kernel
  refine lv_aload_n hx hb dJ5_length_8abf5_0 rfl (lv_at hl 0 rfl) ?_
  refine va_get (D := D) (ci := 7) (v := .int n) (C := RJ4) (T := TJ4) (N := 4) hx hb hts hinJ4 hown hK hP 0 rfl rfl 3 (by decide) (hts (.fieldLink RJ5 79 "java/lang/AbstractStringBuilder" "count" "I") (by decide +kernel)) (fun _ h9 => h9) rfl dJ5_length_8abf5_1 ?_
  exact hret n () (Nat.le_of_ble_eq_true rfl) (Nat.le_of_ble_eq_true rfl) rfl hP hD hS dJ5_length_8abf5_4
abbrev rm_J4_length_8abf5 : Room := { frames := 2, cells := 0, slots := 0, locals := 100 }
set_option maxHeartbeats 8000000 in
set_option maxRecDepth 100000 in
theorem c_J4_length_8abf5 (l : Launch) (D : va_G) (X : gX) (cI cZ cB cG : ClassId) (sz : Nat) (q_b q_v : Nat) (n : Int32) : Met l yJ4_length_8abf5 wsJ4_length_8abf5 rm_J4_length_8abf5 (gP D X (gT cI cZ cB cG) sz [.ref q_b] [(q_b, .inr (7, [.ref q_v, .int (0 : Int32), .int (0 : Int32), .int n]))]) (va_Qi (fun (r : Int32) (u : Unit) => r = n) (fun u t => gB D (gT cI cZ cB cG) (va_A [(q_b, .inr (7, [.ref q_v, .int (0 : Int32), .int (0 : Int32), .int n]))] sz) [(q_b, .inr (7, [.ref q_v, .int (0 : Int32), .int (0 : Int32), .int n]))] t) (va_A [(q_b, .inr (7, [.ref q_v, .int (0 : Int32), .int (0 : Int32), .int n]))] sz)) 0 0 (va_A [(q_b, .inr (7, [.ref q_v, .int (0 : Int32), .int (0 : Int32), .int n]))] sz) := by
  refine g_ofMi (post := fun (r : Int32) (u : Unit) => r = n) (W1 := fun (u : Unit) => [(q_b, .inr (7, [.ref q_v, .int (0 : Int32), .int (0 : Int32), .int n]))]) (cc := cJ4_length_8abf5) (maxL := 1) (by decide +kernel) (Nat.le_of_ble_eq_true rfl) rfl ?_
  intro pp ee ss mth args below meth cdx A Q hx hb hml hown hts hini hA hK hE H hP hD hS ls hl hret
  have hl : lv_has ls 1 [(0, .ref q_b)] := hl
  refine lv_aload_n hx hb dJ4_length_8abf5_0 rfl (lv_at hl 0 rfl) ?_
  have hPc := hP.sub (ws' := [(q_b, .inr (7, [.ref q_v, .int (0 : Int32), .int (0 : Int32), .int n]))]) [0] rfl
  have hDc := hD.sub (ws' := [(q_b, .inr (7, [.ref q_v, .int (0 : Int32), .int (0 : Int32), .int n]))]) [0] (by decide +kernel) rfl
  have hFc := va_free (wc := [(q_b, .inr (7, [.ref q_v, .int (0 : Int32), .int (0 : Int32), .int n]))]) hD hS hA [0] rfl
  refine va_calli (va_runSU (As := []) (rest := []) (hK.1 7 _ rfl).2 ⟨hx, hb, hml, hown, hts⟩ (c_J5_length_8abf5 l D X cI cZ cB cG H.size q_b q_v n) (va_cwSU 0 hts gJ4_length_8abf5_J5_length_8abf5_s343 rfl rfl rfl (by decide +kernel) ⟨Nat.le_of_ble_eq_true rfl, Nat.le_of_ble_eq_true rfl⟩) ⟨g_blind, va_recv hK hP (ci := 7) (q0 := 0) rfl rfl, fun U hU hW => g_side hU hW hPc hK hDc hE hS hFc⟩ rfl rfl hl.1 rfl (lv_room (Nat.le_of_ble_eq_true rfl)) dJ4_length_8abf5_1 ⟨Nat.zero_le _, Nat.zero_le _⟩) hS (fun q _ h => hFc q h) hFc (fun r1 u t H1 locs ht hvm h1 hB hz1 hk1 hS => ?_)
  obtain ⟨hP1, hK1, hD1⟩ := hB
  rw [ht] at hP1
  obtain ⟨hP, hD⟩ := va_join (wr := ([] : va_W)) (w1 := [(q_b, .inr (7, [.ref q_v, .int (0 : Int32), .int (0 : Int32), .int n]))]) hP hD [0] [] rfl rfl (by decide +kernel) (by decide +kernel) hk1 hFc hP1 hD1
  generalize H1 = H at hP hS ⊢
  have hP : va_P D vwCl [(q_b, .inr (7, [.ref q_v, .int (0 : Int32), .int (0 : Int32), .int n]))] H := hP
  have hD : va_D A [(q_b, .inr (7, [.ref q_v, .int (0 : Int32), .int (0 : Int32), .int n]))] := hD
  exact hret r1 () (Nat.le_of_ble_eq_true rfl) (Nat.le_of_ble_eq_true rfl) h1 hP hD hS dJ4_length_8abf5_4
abbrev rm_J7_checkLength_df160 : Room := { frames := 1, cells := 0, slots := 0, locals := 80 }
set_option maxHeartbeats 8000000 in
set_option maxRecDepth 100000 in
theorem c_J7_checkLength_df160 (l : Launch) (D : va_G) (X : gX) (cI cZ cB cG : ClassId) (sz : Nat) (n : Nat) (hn : n < 2 ^ 31) : Met l yJ7_checkLength_df160 wsJ7_checkLength_df160 rm_J7_checkLength_df160 (gP D X (gT cI cZ cB cG) sz [.int (0 : Int32), .int (nI n)] ([] : va_W)) (va_Qv (fun (u : Unit) => True) (fun u t => gB D (gT cI cZ cB cG) (va_A ([] : va_W) sz) ([] : va_W) t) (va_A ([] : va_W) sz)) 0 0 (va_A ([] : va_W) sz) := by
  refine g_ofMv (post := fun (u : Unit) => True) (W1 := fun (u : Unit) => ([] : va_W)) (cc := cJ7_checkLength_df160) (maxL := 2) (by decide +kernel) (Nat.le_of_ble_eq_true rfl) rfl ?_
  intro pp ee ss mth args below meth cdx A Q hx hb hml hown hts hini hA hK hE H hP hD hS ls hl hret
  have hl : lv_has ls 2 [(0, .int (0 : Int32)), (1, .int (nI n))] := hl
  refine lv_iload_n hx hb dJ7_checkLength_df160_0 rfl (lv_at hl 1 rfl) ?_
  refine lv_iload_n hx hb dJ7_checkLength_df160_1 rfl (lv_at hl 0 rfl) ?_
  refine lv_icmp_ge (tgt := 37) hx hb dJ7_checkLength_df160_2 (by decide) (fun _ => ?_) (fun hbr => absurd (nI_pos' hn) hbr)
  exact hret () (Nat.le_of_ble_eq_true rfl) (Nat.le_of_ble_eq_true rfl) trivial hP hD hS dJ7_checkLength_df160_37
abbrev rm_J7_copyOfRangeByte_39247 : Room := { frames := 2, cells := 1, slots := 802, locals := 101 }
set_option maxHeartbeats 8000000 in
set_option maxRecDepth 100000 in
theorem c_J7_copyOfRangeByte_39247 (l : Launch) (D : va_G) (X : gX) (cI cZ cB cG : ClassId) (sz : Nat) (q_a m n : Nat) (f : Nat → Int32) (hf : gF f) (h : n < m) (h2 : m ≤ 802) : Met l yJ7_copyOfRangeByte_39247 wsJ7_copyOfRangeByte_39247 rm_J7_copyOfRangeByte_39247 (gP D X (gT cI cZ cB cG) sz [.ref q_a, .int (0 : Int32), .int (nI n)] [(q_a, .inl (cB, m, .inl f))]) (va_Qr (fun (u : Unit) => True) (fun u a t => gB D (gT cI cZ cB cG) (va_A [(q_a, .inl (cB, m, .inl f))] sz) [(q_a, .inl (cB, m, .inl f)), (a, .inl (cB, n, .inl ((va_cpy f (fun _ => 0) 0 0 n))))] t) (va_A [(q_a, .inl (cB, m, .inl f))] sz)) 1 802 (va_A [(q_a, .inl (cB, m, .inl f))] sz) := by
  refine g_ofMr (post := fun (u : Unit) => True) (W1 := fun (u : Unit) (a : Nat) => [(q_a, .inl (cB, m, .inl f)), (a, .inl (cB, n, .inl ((va_cpy f (fun _ => 0) 0 0 n))))]) (cc := cJ7_copyOfRangeByte_39247) (maxL := 5) (by decide +kernel) (Nat.le_of_ble_eq_true rfl) rfl (by first | exact Or.inl ⟨_, rfl⟩ | exact Or.inr ⟨_, rfl⟩) ?_
  intro pp ee ss mth args below meth cdx A Q hx hb hml hown hts hini hA hK hE H hP hD hS ls hl hret
  have hl : lv_has ls 5 [(0, .ref q_a), (1, .int (0 : Int32)), (2, .int (nI n))] := hl
  refine lv_iload_n hx hb dJ7_copyOfRangeByte_39247_0 rfl (lv_at hl 1 rfl) ?_
  refine lv_iload_n hx hb dJ7_copyOfRangeByte_39247_1 rfl (lv_at hl 2 rfl) ?_
  have hPc := hP.sub (ws' := ([] : va_W)) [] rfl
  have hDc := hD.sub (ws' := ([] : va_W)) [] (by decide +kernel) rfl
  have hFc := va_free (wc := ([] : va_W)) hD hS hA [] rfl
  refine va_callv (va_runS (As := [.int (0 : Int32), .int (nI n)]) (rest := []) ⟨hx, hb, hml, hown, hts⟩ (c_J7_checkLength_df160 l D X cI cZ cB cG H.size n (by omega)) (va_cwS 2 hts gJ7_copyOfRangeByte_39247_J7_checkLength_df160 rfl rfl rfl (by decide +kernel) ⟨Nat.le_of_ble_eq_true rfl, Nat.le_of_ble_eq_true rfl⟩) ⟨g_blind, fun U hU hW => g_side hU hW hPc hK hDc hE hS hFc⟩ rfl rfl hl.1 rfl (lv_room (Nat.le_of_ble_eq_true rfl)) dJ7_copyOfRangeByte_39247_2 ⟨Nat.le_of_ble_eq_true rfl, Nat.le_of_ble_eq_true rfl⟩) hS (fun q _ h => hFc q h) hFc (fun u t H1 locs ht hvm h1 hB hz1 hk1 hS => ?_)
  obtain ⟨hP1, hK1, hD1⟩ := hB
  rw [ht] at hP1
  obtain ⟨hP, hD⟩ := va_join (wr := [(q_a, .inl (cB, m, .inl f))]) (w1 := ([] : va_W)) hP hD [] [0] rfl rfl (by decide +kernel) (by decide +kernel) hk1 hFc hP1 hD1
  generalize H1 = H at hP hS ⊢
  have hP : va_P D vwCl [(q_a, .inl (cB, m, .inl f))] H := hP
  have hD : va_D A [(q_a, .inl (cB, m, .inl f))] := hD
  refine lv_iload_n hx hb dJ7_copyOfRangeByte_39247_5 rfl (lv_at hl 2 rfl) ?_
  refine lv_iload_n hx hb dJ7_copyOfRangeByte_39247_6 rfl (lv_at hl 1 rfl) ?_
  refine lv_isub hx hb dJ7_copyOfRangeByte_39247_7 ?_
  refine W.eq (g2 := F0 mth 8 ls [.int (nI n)]) (by rw [show nI n - 0 = nI n from pk_sub (Nat.zero_le n)]) ?_
  refine lv_istore_n (lv' := [(3, .int (nI n)), (0, .ref q_a), (1, .int (0 : Int32)), (2, .int (nI n))]) hx hb dJ7_copyOfRangeByte_39247_8 rfl hl (by decide) rfl (fun ls hl => ?_)
  refine lv_iload_n hx hb dJ7_copyOfRangeByte_39247_9 rfl (lv_at hl 0 rfl) ?_
  refine g_newa (atype := .byte) (a0 := (n, .inl (fun _ => (0 : Int32)))) (N' := n) hx hb (hts (.arrayClass .byte) (by decide +kernel)) rfl 2 rfl hK hP hD hS hA (fun _ => rfl) (nI_pos (by omega)) (nI_clamp (by omega)) (show n * 1 ≤ 536870912 by omega) (Nat.le_of_ble_eq_true rfl) (show 0 + n ≤ 802 by omega) dJ7_copyOfRangeByte_39247_10 (fun q_n H hP hD hS => ?_)
  have hP : va_P D vwCl [(q_a, .inl (cB, m, .inl f)), (q_n, .inl (cB, n, .inl ((fun _ => (0 : Int32)))))] H := hP
  have hD : va_D A [(q_a, .inl (cB, m, .inl f)), (q_n, .inl (cB, n, .inl ((fun _ => (0 : Int32)))))] := hD
  refine lv_astore (lv' := [(4, .ref q_n), (3, .int (nI n)), (0, .ref q_a), (1, .int (0 : Int32)), (2, .int (nI n))]) hx hb dJ7_copyOfRangeByte_39247_12 hl (by decide) rfl (fun ls hl => ?_)
  refine lv_aload_n hx hb dJ7_copyOfRangeByte_39247_14 rfl (lv_at hl 2 rfl) ?_
  refine lv_iload_n hx hb dJ7_copyOfRangeByte_39247_15 rfl (lv_at hl 3 rfl) ?_
  refine lv_aload hx hb dJ7_copyOfRangeByte_39247_16 (lv_at hl 0 rfl) ?_
  refine lv_iconst (v := (0 : Int32)) hx hb dJ7_copyOfRangeByte_39247_18 (by decide) ?_
  refine lv_aload_n hx hb dJ7_copyOfRangeByte_39247_19 rfl (lv_at hl 2 rfl) ?_
  refine va_alen hx hb hK hP 0 2 rfl rfl (v := (Int32.ofNat m)) rfl dJ7_copyOfRangeByte_39247_20 ?_
  refine lv_iload_n hx hb dJ7_copyOfRangeByte_39247_21 rfl (lv_at hl 3 rfl) ?_
  refine lv_isub hx hb dJ7_copyOfRangeByte_39247_22 ?_
  refine W.eq (g2 := F0 mth 23 ls [.int (nI m), .int (0 : Int32), .ref q_n, .int (0 : Int32), .ref q_a]) (by rw [show Int32.ofNat m - 0 = nI m from pk_sub (Nat.zero_le m)]) ?_
  refine lv_iload_n hx hb dJ7_copyOfRangeByte_39247_23 rfl (lv_at hl 1 rfl) ?_
  refine va_mmin hx hb (hml.trans hl.1.symm) hown (hts (.methodLink RJ7 304 Lib.Math.min.name) (by decide +kernel)) (hts (.static Lib.Math.min.name) (by decide +kernel)) (hts (.initialized "java/lang/Math") (by decide +kernel)) (hts (.code Lib.Math.min.name Lib.Math.min.code 2 (some .int)) (by decide +kernel)) (Nat.le_of_ble_eq_true rfl) (Nat.le_of_ble_eq_true rfl) (Nat.le_of_ble_eq_true rfl) (show 0 + n ≤ 802 by omega) dJ7_copyOfRangeByte_39247_24 ?_
  refine W.eq (g2 := F0 mth 27 ls [.int (nI n), .int (0 : Int32), .ref q_n, .int (0 : Int32), .ref q_a]) (by rw [ite_nI3 (a := n) (b := m) (by omega) h]) ?_
  refine va_copyi hx hb (hml.trans hl.1.symm) hown (hts (.methodLink RJ7 150 arraycopyName) (by decide +kernel)) (hts (.native arraycopyName) (by decide +kernel)) (hts (.static arraycopyName) (by decide +kernel)) (hts (.initialized "java/lang/System") (by decide +kernel)) hK hP hD hS 0 1 2 2 rfl rfl rfl rfl rfl (by decide) (by decide) (nI_pos (by omega)) (by rw [nI_clamp (by omega)]; show 0 + n ≤ m; omega) (by rw [nI_clamp (by omega)]; show 0 + n ≤ n; omega) (fun i _ => hf _) (Nat.le_of_ble_eq_true rfl) (Nat.le_of_ble_eq_true rfl) dJ7_copyOfRangeByte_39247_27 (fun H locs hP hD hS => ?_)
  have hP : va_P D vwCl [(q_a, .inl (cB, m, .inl f)), (q_n, .inl (cB, n, .inl ((va_cpy f ((fun _ => (0 : Int32))) ((0 : Int32)).toNatClampNeg ((0 : Int32)).toNatClampNeg (nI n).toNatClampNeg))))] H := hP
  have hD : va_D A [(q_a, .inl (cB, m, .inl f)), (q_n, .inl (cB, n, .inl ((va_cpy f ((fun _ => (0 : Int32))) ((0 : Int32)).toNatClampNeg ((0 : Int32)).toNatClampNeg (nI n).toNatClampNeg))))] := hD
  rw [show (nI n).toNatClampNeg = n from nI_clamp (by omega), show (0 : Int32).toNatClampNeg = 0 from rfl] at hP hD
  have hP : va_P D vwCl [(q_a, .inl (cB, m, .inl f)), (q_n, .inl (cB, n, .inl ((va_cpy f (fun _ => 0) 0 0 n))))] H := hP
  have hD : va_D A [(q_a, .inl (cB, m, .inl f)), (q_n, .inl (cB, n, .inl ((va_cpy f (fun _ => 0) 0 0 n))))] := hD
  refine lv_aload hx hb dJ7_copyOfRangeByte_39247_30 (lv_at hl 0 rfl) ?_
  exact hret q_n () (Nat.le_of_ble_eq_true rfl) (show 0 + n ≤ 802 by omega) trivial hP hD hS dJ7_copyOfRangeByte_39247_32
abbrev rm_J7_copyOfRange_39247 : Room := { frames := 3, cells := 1, slots := 802, locals := 125 }
set_option maxHeartbeats 8000000 in
set_option maxRecDepth 100000 in
theorem c_J7_copyOfRange_39247 (l : Launch) (D : va_G) (X : gX) (cI cZ cB cG : ClassId) (sz : Nat) (q_a m n : Nat) (f : Nat → Int32) (hf : gF f) (h : n ≤ m) (h2 : m ≤ 802) : Met l yJ7_copyOfRange_39247 wsJ7_copyOfRange_39247 rm_J7_copyOfRange_39247 (gP D X (gT cI cZ cB cG) sz [.ref q_a, .int (0 : Int32), .int (nI n)] [(q_a, .inl (cB, m, .inl f))]) (va_Qr (fun (u : Nat → Int32) => ∀ j, j < n → u j = f j) (fun u a t => gB D (gT cI cZ cB cG) (va_A [(q_a, .inl (cB, m, .inl f))] sz) [(q_a, .inl (cB, m, .inl f)), (a, .inl (cB, n, .inl u))] t) (va_A [(q_a, .inl (cB, m, .inl f))] sz)) 1 802 (va_A [(q_a, .inl (cB, m, .inl f))] sz) := by
  refine g_ofMr (post := fun (u : Nat → Int32) => ∀ j, j < n → u j = f j) (W1 := fun (u : Nat → Int32) (a : Nat) => [(q_a, .inl (cB, m, .inl f)), (a, .inl (cB, n, .inl u))]) (cc := cJ7_copyOfRange_39247) (maxL := 3) (by decide +kernel) (Nat.le_of_ble_eq_true rfl) rfl (by first | exact Or.inl ⟨_, rfl⟩ | exact Or.inr ⟨_, rfl⟩) ?_
  intro pp ee ss mth args below meth cdx A Q hx hb hml hown hts hini hA hK hE H hP hD hS ls hl hret
  have hl : lv_has ls 3 [(0, .ref q_a), (1, .int (0 : Int32)), (2, .int (nI n))] := hl
  refine lv_iload_n hx hb dJ7_copyOfRange_39247_0 rfl (lv_at hl 1 rfl) ?_
  refine lv_if_ne (tgt := 10) hx hb dJ7_copyOfRange_39247_1 (by decide) (fun hbr => absurd rfl hbr) (fun _ => ?_)
  refine lv_iload_n hx hb dJ7_copyOfRange_39247_4 rfl (lv_at hl 2 rfl) ?_
  refine lv_aload_n hx hb dJ7_copyOfRange_39247_5 rfl (lv_at hl 0 rfl) ?_
  refine va_alen hx hb hK hP 0 2 rfl rfl (v := (Int32.ofNat m)) rfl dJ7_copyOfRange_39247_6 ?_
  by_cases hnm : n = m
  · refine lv_icmp_eq (tgt := 17) hx hb dJ7_copyOfRange_39247_7 (by decide) (fun _ => ?_) (fun hbr => absurd (show nI n = nI m by rw [hnm]) hbr)
    refine lv_aload_n hx hb dJ7_copyOfRange_39247_17 rfl (lv_at hl 0 rfl) ?_
    refine va_clone (ad := "[B") hx hb (hml.trans hl.1.symm) hown (hts (.methodLink RJ7 310 ⟨"[B", "clone", "()Ljava/lang/Object;"⟩) (by decide +kernel)) (hts (.sameMethod "[B" "java/lang/Object" "clone" "()Ljava/lang/Object;") (by decide +kernel)) (hts (.native ⟨"java/lang/Object", "clone", "()Ljava/lang/Object;"⟩) (by decide +kernel)) (hts (.instanceMethod ⟨"java/lang/Object", "clone", "()Ljava/lang/Object;"⟩) (by decide +kernel)) (hts (.selects "[B" ⟨"[B", "clone", "()Ljava/lang/Object;"⟩ ⟨"java/lang/Object", "clone", "()Ljava/lang/Object;"⟩) (by decide +kernel)) hE.2.2.2.2.2.2.2.2.2.2.2.1 hK hP hD hS hA 0 2 rfl rfl (hK.2 2 _ rfl).2 (fitcell hf) (Nat.le_of_ble_eq_true rfl) (Nat.le_of_ble_eq_true rfl) (Nat.le_of_ble_eq_true rfl) (show 0 + m ≤ 802 by omega) dJ7_copyOfRange_39247_18 (fun q_n H _ hP hD hS => ?_)
    have hP : va_P D vwCl [(q_a, .inl (cB, m, .inl f)), (q_n, .inl (cB, m, .inl f))] H := hP
    have hD : va_D A [(q_a, .inl (cB, m, .inl f)), (q_n, .inl (cB, m, .inl f))] := hD
    refine va_castA hx hb hown (hts (.classLink RJ7 311 "[B") (by decide +kernel)) hP 1 rfl (hK.2 2 _ rfl).2 dJ7_copyOfRange_39247_21 ?_
    subst hnm
    have hP : va_P D vwCl [(q_a, .inl (cB, n, .inl f)), (q_n, .inl (cB, n, .inl f))] H := hP
    have hD : va_D A [(q_a, .inl (cB, n, .inl f)), (q_n, .inl (cB, n, .inl f))] := hD
    exact hret q_n f (Nat.le_of_ble_eq_true rfl) (show 0 + n ≤ 802 by omega) (fun _ _ => rfl) hP hD hS dJ7_copyOfRange_39247_24
  · refine lv_icmp_eq (tgt := 17) hx hb dJ7_copyOfRange_39247_7 (by decide) (fun hbr => absurd hbr ((show ¬ nI n = nI m from nI_ne (by omega) (by omega) hnm))) (fun _ => ?_)
    refine lv_aload_n hx hb dJ7_copyOfRange_39247_10 rfl (lv_at hl 0 rfl) ?_
    refine lv_iload_n hx hb dJ7_copyOfRange_39247_11 rfl (lv_at hl 1 rfl) ?_
    refine lv_iload_n hx hb dJ7_copyOfRange_39247_12 rfl (lv_at hl 2 rfl) ?_
    have hPc := hP.sub (ws' := [(q_a, .inl (cB, m, .inl f))]) [0] rfl
    have hDc := hD.sub (ws' := [(q_a, .inl (cB, m, .inl f))]) [0] (by decide +kernel) rfl
    have hFc := va_free (wc := [(q_a, .inl (cB, m, .inl f))]) hD hS hA [0] rfl
    refine va_callr (va_runS (As := [.ref q_a, .int (0 : Int32), .int (nI n)]) (rest := []) ⟨hx, hb, hml, hown, hts⟩ (c_J7_copyOfRangeByte_39247 l D X cI cZ cB cG H.size q_a m n f hf (by omega) h2) (va_cwS 3 hts gJ7_copyOfRange_39247_J7_copyOfRangeByte_39247 rfl rfl rfl (by decide +kernel) ⟨Nat.le_of_ble_eq_true rfl, Nat.le_of_ble_eq_true rfl⟩) ⟨g_blind, fun U hU hW => g_side hU hW hPc hK hDc hE hS hFc⟩ rfl rfl hl.1 rfl (lv_room (Nat.le_of_ble_eq_true rfl)) dJ7_copyOfRange_39247_13 ⟨Nat.le_of_ble_eq_true rfl, Nat.le_of_ble_eq_true rfl⟩) hS (fun q _ h => hFc q h) hFc (fun u r1 t H1 locs ht hvm h1 hB hz1 hk1 hS => ?_)
    obtain ⟨hP1, hK1, hD1⟩ := hB
    rw [ht] at hP1
    obtain ⟨hP, hD⟩ := va_join (wr := ([] : va_W)) (w1 := [(q_a, .inl (cB, m, .inl f)), (r1, .inl (cB, n, .inl ((va_cpy f (fun _ => 0) 0 0 n))))]) hP hD [0] [] rfl rfl (by decide +kernel) (by decide +kernel) hk1 hFc hP1 hD1
    generalize H1 = H at hP hS ⊢
    have hP : va_P D vwCl [(q_a, .inl (cB, m, .inl f)), (r1, .inl (cB, n, .inl ((va_cpy f (fun _ => 0) 0 0 n))))] H := hP
    have hD : va_D A [(q_a, .inl (cB, m, .inl f)), (r1, .inl (cB, n, .inl ((va_cpy f (fun _ => 0) 0 0 n))))] := hD
    exact hret r1 _ (Nat.le_of_ble_eq_true rfl) (Nat.le_of_ble_eq_true rfl) (fun j hj => sb_cpy0 hj) hP hD hS dJ7_copyOfRange_39247_16
abbrev rm_J0_init_db425 : Room := { frames := 4, cells := 1, slots := 802, locals := 147 }
set_option maxHeartbeats 8000000 in
set_option maxRecDepth 100000 in
theorem c_J0_init_db425 (l : Launch) (D : va_G) (X : gX) (cI cZ cB cG : ClassId) (sz : Nat) (q_s q_b q_v m n : Nat) (f : Nat → Int32) (hf : gF f) (h : n ≤ m) (h2 : m ≤ 802) : Met l yJ0_init_db425 wsJ0_init_db425 rm_J0_init_db425 (gP D X (gT cI cZ cB cG) sz [.ref q_s, .ref q_b, .null] [(q_s, .inr (6, [.null, .int (0 : Int32), .int (0 : Int32), .int (0 : Int32)])), (q_b, .inr (7, [.ref q_v, .int (0 : Int32), .int (0 : Int32), .int (nI n)])), (q_v, .inl (cB, m, .inl f))]) (va_Qv (fun (u : Nat × (Nat → Int32)) => ∀ j, j < n → u.2 j = f j) (fun u t => gB D (gT cI cZ cB cG) (va_A [(q_s, .inr (6, [.null, .int (0 : Int32), .int (0 : Int32), .int (0 : Int32)])), (q_b, .inr (7, [.ref q_v, .int (0 : Int32), .int (0 : Int32), .int (nI n)])), (q_v, .inl (cB, m, .inl f))] sz) [(q_b, .inr (7, [.ref q_v, .int (0 : Int32), .int (0 : Int32), .int (nI n)])), (q_v, .inl (cB, m, .inl f)), (q_s, .inr (6, [.ref u.1, .int (0 : Int32), .int (0 : Int32), .int (0 : Int32)])), (u.1, .inl (cB, n, .inl u.2))] t) (va_A [(q_s, .inr (6, [.null, .int (0 : Int32), .int (0 : Int32), .int (0 : Int32)])), (q_b, .inr (7, [.ref q_v, .int (0 : Int32), .int (0 : Int32), .int (nI n)])), (q_v, .inl (cB, m, .inl f))] sz)) 1 802 (va_A [(q_s, .inr (6, [.null, .int (0 : Int32), .int (0 : Int32), .int (0 : Int32)])), (q_b, .inr (7, [.ref q_v, .int (0 : Int32), .int (0 : Int32), .int (nI n)])), (q_v, .inl (cB, m, .inl f))] sz) := by
  refine g_ofMv (post := fun (u : Nat × (Nat → Int32)) => ∀ j, j < n → u.2 j = f j) (W1 := fun (u : Nat × (Nat → Int32)) => [(q_b, .inr (7, [.ref q_v, .int (0 : Int32), .int (0 : Int32), .int (nI n)])), (q_v, .inl (cB, m, .inl f)), (q_s, .inr (6, [.ref u.1, .int (0 : Int32), .int (0 : Int32), .int (0 : Int32)])), (u.1, .inl (cB, n, .inl u.2))]) (cc := cJ0_init_db425) (maxL := 5) (by decide +kernel) (Nat.le_of_ble_eq_true rfl) rfl ?_
  intro pp ee ss mth args below meth cdx A Q hx hb hml hown hts hini hA hK hE H hP hD hS ls hl hret
  have hl : lv_has ls 5 [(0, .ref q_s), (1, .ref q_b), (2, .null)] := hl
  have hinJ0 : ∀ w ∈ u_ws RJ0 TJ0 4, w ∈ wsJ0_init_db425 := by decide +kernel
  refine lv_aload_n hx hb dJ0_init_db425_0 rfl (lv_at hl 0 rfl) ?_
  refine W.objInit hx hb hown (hts (.methodLink RJ0 1 objectInit) (by decide +kernel)) (hts (.instanceMethod objectInit) (by decide +kernel)) (hts (.code objectInit ⟨#[0xb1]⟩ 1 none) (by decide +kernel)) rfl (by rw [hml]; exact hl.1) rfl dJ0_init_db425_1 (Nat.le_of_ble_eq_true rfl) (Nat.le_of_ble_eq_true rfl) ?_
  refine W.eq (g2 := F0 mth 4 ls []) rfl ?_
  refine lv_aload_n hx hb dJ0_init_db425_4 rfl (lv_at hl 1 rfl) ?_
  have hPc := hP.sub (ws' := [(q_b, .inr (7, [.ref q_v, .int (0 : Int32), .int (0 : Int32), .int (nI n)]))]) [1] rfl
  have hDc := hD.sub (ws' := [(q_b, .inr (7, [.ref q_v, .int (0 : Int32), .int (0 : Int32), .int (nI n)]))]) [1] (by decide +kernel) rfl
  have hFc := va_free (wc := [(q_b, .inr (7, [.ref q_v, .int (0 : Int32), .int (0 : Int32), .int (nI n)]))]) hD hS hA [1] rfl
  refine va_callr (va_runU (As := []) (rest := []) ⟨hx, hb, hml, hown, hts⟩ (c_J5_getValue_6d5f1 l D X cI cZ cB cG H.size q_b q_v (nI n)) (va_cwU 0 hts gJ0_init_db425_J5_getValue_6d5f1_u552J4 rfl rfl rfl rfl (by decide +kernel) ⟨Nat.le_of_ble_eq_true rfl, Nat.le_of_ble_eq_true rfl⟩) ⟨g_blind, va_recv hK hP (ci := 7) (q0 := 1) rfl rfl, fun U hU hW => g_side hU hW hPc hK hDc hE hS hFc⟩ rfl rfl hl.1 rfl (lv_room (Nat.le_of_ble_eq_true rfl)) dJ0_init_db425_5 ⟨Nat.le_of_ble_eq_true rfl, Nat.le_of_ble_eq_true rfl⟩) hS (fun q _ h => hFc q h) hFc (fun u r1 t H1 locs ht hvm h1 hB hz1 hk1 hS => ?_)
  obtain ⟨hb9, hP1, hK1, hD1⟩ := hB
  have hb9 := hb9.symm
  subst hb9
  rw [ht] at hP1
  obtain ⟨hP, hD⟩ := va_join (wr := [(q_s, .inr (6, [.null, .int (0 : Int32), .int (0 : Int32), .int (0 : Int32)])), (q_v, .inl (cB, m, .inl f))]) (w1 := [(q_b, .inr (7, [.ref q_v, .int (0 : Int32), .int (0 : Int32), .int (nI n)]))]) hP hD [1] [0, 2] rfl rfl (by decide +kernel) (by decide +kernel) hk1 hFc hP1 hD1
  generalize H1 = H at hP hS ⊢
  have hP : va_P D vwCl [(q_s, .inr (6, [.null, .int (0 : Int32), .int (0 : Int32), .int (0 : Int32)])), (q_v, .inl (cB, m, .inl f)), (q_b, .inr (7, [.ref q_v, .int (0 : Int32), .int (0 : Int32), .int (nI n)]))] H := hP
  have hD : va_D A [(q_s, .inr (6, [.null, .int (0 : Int32), .int (0 : Int32), .int (0 : Int32)])), (q_v, .inl (cB, m, .inl f)), (q_b, .inr (7, [.ref q_v, .int (0 : Int32), .int (0 : Int32), .int (nI n)]))] := hD
  refine lv_astore_n (lv' := [(3, .ref q_v), (0, .ref q_s), (1, .ref q_b), (2, .null)]) hx hb dJ0_init_db425_8 rfl hl (by decide) rfl (fun ls hl => ?_)
  refine lv_aload_n hx hb dJ0_init_db425_9 rfl (lv_at hl 2 rfl) ?_
  have hPc := hP.sub (ws' := [(q_b, .inr (7, [.ref q_v, .int (0 : Int32), .int (0 : Int32), .int (nI n)]))]) [2] rfl
  have hDc := hD.sub (ws' := [(q_b, .inr (7, [.ref q_v, .int (0 : Int32), .int (0 : Int32), .int (nI n)]))]) [2] (by decide +kernel) rfl
  have hFc := va_free (wc := [(q_b, .inr (7, [.ref q_v, .int (0 : Int32), .int (0 : Int32), .int (nI n)]))]) hD hS hA [2] rfl
  refine va_calli (va_runU (As := []) (rest := []) ⟨hx, hb, hml, hown, hts⟩ (c_J4_length_8abf5 l D X cI cZ cB cG H.size q_b q_v (nI n)) (va_cwO 0 hts gJ0_init_db425_J4_length_8abf5_u549J4 rfl rfl rfl (show Cond.code yJ5_length_8abf5 cJ5_length_8abf5 1 (some .int) ∈ wsJ0_init_db425 by decide +kernel) (by decide +kernel) ⟨Nat.le_of_ble_eq_true rfl, Nat.le_of_ble_eq_true rfl⟩) ⟨g_blind, va_recv hK hP (ci := 7) (q0 := 2) rfl rfl, fun U hU hW => g_side hU hW hPc hK hDc hE hS hFc⟩ rfl rfl hl.1 rfl (lv_room (Nat.le_of_ble_eq_true rfl)) dJ0_init_db425_10 ⟨Nat.le_of_ble_eq_true rfl, Nat.le_of_ble_eq_true rfl⟩) hS (fun q _ h => hFc q h) hFc (fun r2 u t H1 locs ht hvm h2 hB hz1 hk1 hS => ?_)
  obtain ⟨hP1, hK1, hD1⟩ := hB
  rw [ht] at hP1
  obtain ⟨hP, hD⟩ := va_join (wr := [(q_s, .inr (6, [.null, .int (0 : Int32), .int (0 : Int32), .int (0 : Int32)])), (q_v, .inl (cB, m, .inl f))]) (w1 := [(q_b, .inr (7, [.ref q_v, .int (0 : Int32), .int (0 : Int32), .int (nI n)]))]) hP hD [2] [0, 1] rfl rfl (by decide +kernel) (by decide +kernel) hk1 hFc hP1 hD1
  generalize H1 = H at hP hS ⊢
  have hP : va_P D vwCl [(q_s, .inr (6, [.null, .int (0 : Int32), .int (0 : Int32), .int (0 : Int32)])), (q_v, .inl (cB, m, .inl f)), (q_b, .inr (7, [.ref q_v, .int (0 : Int32), .int (0 : Int32), .int (nI n)]))] H := hP
  have hD : va_D A [(q_s, .inr (6, [.null, .int (0 : Int32), .int (0 : Int32), .int (0 : Int32)])), (q_v, .inl (cB, m, .inl f)), (q_b, .inr (7, [.ref q_v, .int (0 : Int32), .int (0 : Int32), .int (nI n)]))] := hD
  subst h2
  refine lv_istore (lv' := [(4, .int (nI n)), (3, .ref q_v), (0, .ref q_s), (1, .ref q_b), (2, .null)]) hx hb dJ0_init_db425_13 hl (by decide) rfl (fun ls hl => ?_)
  refine lv_aload_n hx hb dJ0_init_db425_15 rfl (lv_at hl 3 rfl) ?_
  have hPc := hP.sub (ws' := [(q_b, .inr (7, [.ref q_v, .int (0 : Int32), .int (0 : Int32), .int (nI n)]))]) [2] rfl
  have hDc := hD.sub (ws' := [(q_b, .inr (7, [.ref q_v, .int (0 : Int32), .int (0 : Int32), .int (nI n)]))]) [2] (by decide +kernel) rfl
  have hFc := va_free (wc := [(q_b, .inr (7, [.ref q_v, .int (0 : Int32), .int (0 : Int32), .int (nI n)]))]) hD hS hA [2] rfl
  refine va_calli (va_runU (As := []) (rest := []) ⟨hx, hb, hml, hown, hts⟩ (c_J5_isLatin1_aae02 l D X cI cZ cB cG H.size q_b q_v (nI n)) (va_cwU 0 hts gJ0_init_db425_J5_isLatin1_aae02_u1047J4 rfl rfl rfl rfl (by decide +kernel) ⟨Nat.le_of_ble_eq_true rfl, Nat.le_of_ble_eq_true rfl⟩) ⟨g_blind, va_recv hK hP (ci := 7) (q0 := 2) rfl rfl, fun U hU hW => g_side hU hW hPc hK hDc hE hS hFc⟩ rfl rfl hl.1 rfl (lv_room (Nat.le_of_ble_eq_true rfl)) dJ0_init_db425_16 ⟨Nat.le_of_ble_eq_true rfl, Nat.le_of_ble_eq_true rfl⟩) hS (fun q _ h => hFc q h) hFc (fun r3 u t H1 locs ht hvm h3 hB hz1 hk1 hS => ?_)
  obtain ⟨hP1, hK1, hD1⟩ := hB
  rw [ht] at hP1
  obtain ⟨hP, hD⟩ := va_join (wr := [(q_s, .inr (6, [.null, .int (0 : Int32), .int (0 : Int32), .int (0 : Int32)])), (q_v, .inl (cB, m, .inl f))]) (w1 := [(q_b, .inr (7, [.ref q_v, .int (0 : Int32), .int (0 : Int32), .int (nI n)]))]) hP hD [2] [0, 1] rfl rfl (by decide +kernel) (by decide +kernel) hk1 hFc hP1 hD1
  generalize H1 = H at hP hS ⊢
  have hP : va_P D vwCl [(q_s, .inr (6, [.null, .int (0 : Int32), .int (0 : Int32), .int (0 : Int32)])), (q_v, .inl (cB, m, .inl f)), (q_b, .inr (7, [.ref q_v, .int (0 : Int32), .int (0 : Int32), .int (nI n)]))] H := hP
  have hD : va_D A [(q_s, .inr (6, [.null, .int (0 : Int32), .int (0 : Int32), .int (0 : Int32)])), (q_v, .inl (cB, m, .inl f)), (q_b, .inr (7, [.ref q_v, .int (0 : Int32), .int (0 : Int32), .int (nI n)]))] := hD
  obtain ⟨_, h3⟩ := h3
  subst h3
  refine lv_if_eq (tgt := 41) hx hb dJ0_init_db425_19 (by decide) (fun hbr => absurd hbr (by decide)) (fun _ => ?_)
  refine lv_aload_n hx hb dJ0_init_db425_22 rfl (lv_at hl 2 rfl) ?_
  refine lv_iconst (v := (0 : Int32)) hx hb dJ0_init_db425_23 (by decide) ?_
  refine va_putF (D := D) (ci := 6) (v := .int (0 : Int32)) (ty := .byte) (C := RJ0) (T := TJ0) (N := 4) hx hb hts hinJ0 tyJ0 tyJ0_ok nmJ0 hown hK hP hD hS 0 rfl rfl 1 (by decide) (hts (.fieldLink RJ0 15 "java/lang/String" "coder" "B") (by decide +kernel)) (fun _ h9 => h9) rfl hini rfl (by decide +kernel) (by decide) (by decide) (Nat.le_of_ble_eq_true rfl) dJ0_init_db425_24 (fun H locs hP hD hS => ?_)
  have hP : va_P D vwCl [(q_s, .inr (6, [.null, .int (0 : Int32), .int (0 : Int32), .int (0 : Int32)])), (q_v, .inl (cB, m, .inl f)), (q_b, .inr (7, [.ref q_v, .int (0 : Int32), .int (0 : Int32), .int (nI n)]))] H := hP
  have hD : va_D A [(q_s, .inr (6, [.null, .int (0 : Int32), .int (0 : Int32), .int (0 : Int32)])), (q_v, .inl (cB, m, .inl f)), (q_b, .inr (7, [.ref q_v, .int (0 : Int32), .int (0 : Int32), .int (nI n)]))] := hD
  refine lv_aload_n hx hb dJ0_init_db425_27 rfl (lv_at hl 2 rfl) ?_
  refine lv_aload_n hx hb dJ0_init_db425_28 rfl (lv_at hl 1 rfl) ?_
  refine lv_iconst (v := (0 : Int32)) hx hb dJ0_init_db425_29 (by decide) ?_
  refine lv_iload hx hb dJ0_init_db425_30 (lv_at hl 0 rfl) ?_
  have hPc := hP.sub (ws' := [(q_v, .inl (cB, m, .inl f))]) [1] rfl
  have hDc := hD.sub (ws' := [(q_v, .inl (cB, m, .inl f))]) [1] (by decide +kernel) rfl
  have hFc := va_free (wc := [(q_v, .inl (cB, m, .inl f))]) hD hS hA [1] rfl
  refine va_callr (va_runS (As := [.ref q_v, .int (0 : Int32), .int (nI n)]) (rest := [.ref q_s]) ⟨hx, hb, hml, hown, hts⟩ (c_J7_copyOfRange_39247 l D X cI cZ cB cG H.size q_v m n f hf h h2) (va_cwS 3 hts gJ0_init_db425_J7_copyOfRange_39247 rfl rfl rfl (by decide +kernel) ⟨Nat.le_of_ble_eq_true rfl, Nat.le_of_ble_eq_true rfl⟩) ⟨g_blind, fun U hU hW => g_side hU hW hPc hK hDc hE hS hFc⟩ rfl rfl hl.1 rfl (lv_room (Nat.le_of_ble_eq_true rfl)) dJ0_init_db425_32 ⟨Nat.le_of_ble_eq_true rfl, Nat.le_of_ble_eq_true rfl⟩) hS (fun q _ h => hFc q h) hFc (fun u r4 t H1 locs ht hvm h4 hB hz1 hk1 hS => ?_)
  obtain ⟨f1, rfl⟩ : ∃ z, z = u := ⟨_, rfl⟩
  obtain ⟨hP1, hK1, hD1⟩ := hB
  rw [ht] at hP1
  obtain ⟨hP, hD⟩ := va_join (wr := [(q_s, .inr (6, [.null, .int (0 : Int32), .int (0 : Int32), .int (0 : Int32)])), (q_b, .inr (7, [.ref q_v, .int (0 : Int32), .int (0 : Int32), .int (nI n)]))]) (w1 := [(q_v, .inl (cB, m, .inl f)), (r4, .inl (cB, n, .inl f1))]) hP hD [1] [0, 2] rfl rfl (by decide +kernel) (by decide +kernel) hk1 hFc hP1 hD1
  generalize H1 = H at hP hS ⊢
  have hP : va_P D vwCl [(q_s, .inr (6, [.null, .int (0 : Int32), .int (0 : Int32), .int (0 : Int32)])), (q_b, .inr (7, [.ref q_v, .int (0 : Int32), .int (0 : Int32), .int (nI n)])), (q_v, .inl (cB, m, .inl f)), (r4, .inl (cB, n, .inl f1))] H := hP
  have hD : va_D A [(q_s, .inr (6, [.null, .int (0 : Int32), .int (0 : Int32), .int (0 : Int32)])), (q_b, .inr (7, [.ref q_v, .int (0 : Int32), .int (0 : Int32), .int (nI n)])), (q_v, .inl (cB, m, .inl f)), (r4, .inl (cB, n, .inl f1))] := hD
  refine va_putF (D := D) (ci := 6) (v := .ref r4) (ty := (.array .byte)) (C := RJ0) (T := TJ0) (N := 4) hx hb hts hinJ0 tyJ0 tyJ0_ok nmJ0 hown hK hP hD hS 0 rfl rfl 0 (by decide) (hts (.fieldLink RJ0 9 "java/lang/String" "value" "[B") (by decide +kernel)) (fun _ h9 => h9) rfl hini rfl (by decide +kernel) rfl rfl (Nat.le_of_ble_eq_true rfl) dJ0_init_db425_35 (fun H locs hP hD hS => ?_)
  have hP : va_P D vwCl [(q_s, .inr (6, [.ref r4, .int (0 : Int32), .int (0 : Int32), .int (0 : Int32)])), (q_b, .inr (7, [.ref q_v, .int (0 : Int32), .int (0 : Int32), .int (nI n)])), (q_v, .inl (cB, m, .inl f)), (r4, .inl (cB, n, .inl f1))] H := hP
  have hD : va_D A [(q_s, .inr (6, [.ref r4, .int (0 : Int32), .int (0 : Int32), .int (0 : Int32)])), (q_b, .inr (7, [.ref q_v, .int (0 : Int32), .int (0 : Int32), .int (nI n)])), (q_v, .inl (cB, m, .inl f)), (r4, .inl (cB, n, .inl f1))] := hD
  refine lv_goto (tgt := 97) hx hb dJ0_init_db425_38 (by decide) ?_
  have hP := hP.sub (ws' := [(q_b, .inr (7, [.ref q_v, .int (0 : Int32), .int (0 : Int32), .int (nI n)])), (q_v, .inl (cB, m, .inl f)), (q_s, .inr (6, [.ref r4, .int (0 : Int32), .int (0 : Int32), .int (0 : Int32)])), (r4, .inl (cB, n, .inl f1))]) [1, 2, 0, 3] rfl
  have hD := hD.sub (ws' := [(q_b, .inr (7, [.ref q_v, .int (0 : Int32), .int (0 : Int32), .int (nI n)])), (q_v, .inl (cB, m, .inl f)), (q_s, .inr (6, [.ref r4, .int (0 : Int32), .int (0 : Int32), .int (0 : Int32)])), (r4, .inl (cB, n, .inl f1))]) [1, 2, 0, 3] (by decide +kernel) rfl
  exact hret (r4, f1) (Nat.le_of_ble_eq_true rfl) (Nat.le_of_ble_eq_true rfl) h4 hP hD hS dJ0_init_db425_97
abbrev rm_J0_init_81219 : Room := { frames := 5, cells := 1, slots := 802, locals := 171 }
set_option maxHeartbeats 8000000 in
set_option maxRecDepth 100000 in
theorem c_J0_init_81219 (l : Launch) (D : va_G) (X : gX) (cI cZ cB cG : ClassId) (sz : Nat) (q_s q_b q_v m n : Nat) (f : Nat → Int32) (hf : gF f) (h : n ≤ m) (h2 : m ≤ 802) : Met l yJ0_init_81219 wsJ0_init_81219 rm_J0_init_81219 (gP D X (gT cI cZ cB cG) sz [.ref q_s, .ref q_b] [(q_s, .inr (6, [.null, .int (0 : Int32), .int (0 : Int32), .int (0 : Int32)])), (q_b, .inr (7, [.ref q_v, .int (0 : Int32), .int (0 : Int32), .int (nI n)])), (q_v, .inl (cB, m, .inl f))]) (va_Qv (fun (u : Nat × (Nat → Int32)) => ∀ j, j < n → u.2 j = f j) (fun u t => gB D (gT cI cZ cB cG) (va_A [(q_s, .inr (6, [.null, .int (0 : Int32), .int (0 : Int32), .int (0 : Int32)])), (q_b, .inr (7, [.ref q_v, .int (0 : Int32), .int (0 : Int32), .int (nI n)])), (q_v, .inl (cB, m, .inl f))] sz) [(q_b, .inr (7, [.ref q_v, .int (0 : Int32), .int (0 : Int32), .int (nI n)])), (q_v, .inl (cB, m, .inl f)), (q_s, .inr (6, [.ref u.1, .int (0 : Int32), .int (0 : Int32), .int (0 : Int32)])), (u.1, .inl (cB, n, .inl u.2))] t) (va_A [(q_s, .inr (6, [.null, .int (0 : Int32), .int (0 : Int32), .int (0 : Int32)])), (q_b, .inr (7, [.ref q_v, .int (0 : Int32), .int (0 : Int32), .int (nI n)])), (q_v, .inl (cB, m, .inl f))] sz)) 1 802 (va_A [(q_s, .inr (6, [.null, .int (0 : Int32), .int (0 : Int32), .int (0 : Int32)])), (q_b, .inr (7, [.ref q_v, .int (0 : Int32), .int (0 : Int32), .int (nI n)])), (q_v, .inl (cB, m, .inl f))] sz) := by
  refine g_ofMv (post := fun (u : Nat × (Nat → Int32)) => ∀ j, j < n → u.2 j = f j) (W1 := fun (u : Nat × (Nat → Int32)) => [(q_b, .inr (7, [.ref q_v, .int (0 : Int32), .int (0 : Int32), .int (nI n)])), (q_v, .inl (cB, m, .inl f)), (q_s, .inr (6, [.ref u.1, .int (0 : Int32), .int (0 : Int32), .int (0 : Int32)])), (u.1, .inl (cB, n, .inl u.2))]) (cc := cJ0_init_81219) (maxL := 2) (by decide +kernel) (Nat.le_of_ble_eq_true rfl) rfl ?_
  intro pp ee ss mth args below meth cdx A Q hx hb hml hown hts hini hA hK hE H hP hD hS ls hl hret
  have hl : lv_has ls 2 [(0, .ref q_s), (1, .ref q_b)] := hl
  refine lv_aload_n hx hb dJ0_init_81219_0 rfl (lv_at hl 0 rfl) ?_
  refine lv_aload_n hx hb dJ0_init_81219_1 rfl (lv_at hl 1 rfl) ?_
  refine lv_null hx hb dJ0_init_81219_2 ?_
  have hPc := hP.sub (ws' := [(q_s, .inr (6, [.null, .int (0 : Int32), .int (0 : Int32), .int (0 : Int32)])), (q_b, .inr (7, [.ref q_v, .int (0 : Int32), .int (0 : Int32), .int (nI n)])), (q_v, .inl (cB, m, .inl f))]) [0, 1, 2] rfl
  have hDc := hD.sub (ws' := [(q_s, .inr (6, [.null, .int (0 : Int32), .int (0 : Int32), .int (0 : Int32)])), (q_b, .inr (7, [.ref q_v, .int (0 : Int32), .int (0 : Int32), .int (nI n)])), (q_v, .inl (cB, m, .inl f))]) [0, 1, 2] (by decide +kernel) rfl
  have hFc := va_free (wc := [(q_s, .inr (6, [.null, .int (0 : Int32), .int (0 : Int32), .int (0 : Int32)])), (q_b, .inr (7, [.ref q_v, .int (0 : Int32), .int (0 : Int32), .int (nI n)])), (q_v, .inl (cB, m, .inl f))]) hD hS hA [0, 1, 2] rfl
  refine va_callv (va_runI (As := [.ref q_b, .null]) (rest := []) ⟨hx, hb, hml, hown, hts⟩ (c_J0_init_db425 l D X cI cZ cB cG H.size q_s q_b q_v m n f hf h h2) (cwI 2 hts gJ0_init_81219_J0_init_db425 rfl rfl rfl (hts (.initialized RJ0) (by decide +kernel)) (hts (.methodLink RJ0 489 yJ0_init_db425) (by decide +kernel)) (hts (.instanceMethod yJ0_init_db425) (by decide +kernel)) rfl (by decide +kernel) ⟨Nat.le_of_ble_eq_true rfl, Nat.le_of_ble_eq_true rfl⟩) ⟨g_blind, fun U hU hW => g_side hU hW hPc hK hDc hE hS hFc⟩ rfl rfl hl.1 rfl (lv_room (Nat.le_of_ble_eq_true rfl)) dJ0_init_81219_3 ⟨Nat.le_of_ble_eq_true rfl, Nat.le_of_ble_eq_true rfl⟩) hS (fun q _ h => hFc q h) hFc (fun u t H1 locs ht hvm h1 hB hz1 hk1 hS => ?_)
  obtain ⟨v1, f1⟩ := u
  obtain ⟨hP1, hK1, hD1⟩ := hB
  rw [ht] at hP1
  obtain ⟨hP, hD⟩ := va_join (wr := ([] : va_W)) (w1 := [(q_b, .inr (7, [.ref q_v, .int (0 : Int32), .int (0 : Int32), .int (nI n)])), (q_v, .inl (cB, m, .inl f)), (q_s, .inr (6, [.ref v1, .int (0 : Int32), .int (0 : Int32), .int (0 : Int32)])), (v1, .inl (cB, n, .inl f1))]) hP hD [0, 1, 2] [] rfl rfl (by decide +kernel) (by decide +kernel) hk1 hFc hP1 hD1
  generalize H1 = H at hP hS ⊢
  have hP : va_P D vwCl [(q_b, .inr (7, [.ref q_v, .int (0 : Int32), .int (0 : Int32), .int (nI n)])), (q_v, .inl (cB, m, .inl f)), (q_s, .inr (6, [.ref v1, .int (0 : Int32), .int (0 : Int32), .int (0 : Int32)])), (v1, .inl (cB, n, .inl f1))] H := hP
  have hD : va_D A [(q_b, .inr (7, [.ref q_v, .int (0 : Int32), .int (0 : Int32), .int (nI n)])), (q_v, .inl (cB, m, .inl f)), (q_s, .inr (6, [.ref v1, .int (0 : Int32), .int (0 : Int32), .int (0 : Int32)])), (v1, .inl (cB, n, .inl f1))] := hD
  exact hret (v1, f1) (Nat.le_of_ble_eq_true rfl) (Nat.le_of_ble_eq_true rfl) h1 hP hD hS dJ0_init_81219_6
abbrev rm_J4_toString_0e30d : Room := { frames := 6, cells := 2, slots := 806, locals := 192 }
set_option maxHeartbeats 8000000 in
set_option maxRecDepth 100000 in
theorem c_J4_toString_0e30d (l : Launch) (D : va_G) (X : gX) (cI cZ cB cG : ClassId) (sz : Nat) (q_b q_v m n : Nat) (f : Nat → Int32) (hf : gF f) (h : n ≤ m) (h2 : m ≤ 802) : Met l yJ4_toString_0e30d wsJ4_toString_0e30d rm_J4_toString_0e30d (gP D X (gT cI cZ cB cG) sz [.ref q_b] [(q_b, .inr (7, [.ref q_v, .int (0 : Int32), .int (0 : Int32), .int (nI n)])), (q_v, .inl (cB, m, .inl f))]) (va_Qr (fun (u : Nat × (Nat → Int32)) => ∀ j, j < n → u.2 j = f j) (fun u a t => gB D (gT cI cZ cB cG) (va_A [(q_b, .inr (7, [.ref q_v, .int (0 : Int32), .int (0 : Int32), .int (nI n)])), (q_v, .inl (cB, m, .inl f))] sz) [(q_b, .inr (7, [.ref q_v, .int (0 : Int32), .int (0 : Int32), .int (nI n)])), (q_v, .inl (cB, m, .inl f)), (a, .inr (6, [.ref u.1, .int (0 : Int32), .int (0 : Int32), .int (0 : Int32)])), (u.1, .inl (cB, n, .inl u.2))] t) (va_A [(q_b, .inr (7, [.ref q_v, .int (0 : Int32), .int (0 : Int32), .int (nI n)])), (q_v, .inl (cB, m, .inl f))] sz)) 2 806 (va_A [(q_b, .inr (7, [.ref q_v, .int (0 : Int32), .int (0 : Int32), .int (nI n)])), (q_v, .inl (cB, m, .inl f))] sz) := by
  refine g_ofMr (post := fun (u : Nat × (Nat → Int32)) => ∀ j, j < n → u.2 j = f j) (W1 := fun (u : Nat × (Nat → Int32)) (a : Nat) => [(q_b, .inr (7, [.ref q_v, .int (0 : Int32), .int (0 : Int32), .int (nI n)])), (q_v, .inl (cB, m, .inl f)), (a, .inr (6, [.ref u.1, .int (0 : Int32), .int (0 : Int32), .int (0 : Int32)])), (u.1, .inl (cB, n, .inl u.2))]) (cc := cJ4_toString_0e30d) (maxL := 1) (by decide +kernel) (Nat.le_of_ble_eq_true rfl) rfl (by first | exact Or.inl ⟨_, rfl⟩ | exact Or.inr ⟨_, rfl⟩) ?_
  intro pp ee ss mth args below meth cdx A Q hx hb hml hown hts hini hA hK hE H hP hD hS ls hl hret
  have hl : lv_has ls 1 [(0, .ref q_b)] := hl
  have hinJ0 : ∀ w ∈ u_ws RJ0 TJ0 4, w ∈ wsJ4_toString_0e30d := by decide +kernel
  refine va_new (ci := 6) (fs := [.null, .int 0, .int 0, .int 0]) (C := RJ0) (T := TJ0) (N := 4) hx hb hts hinJ0 tyJ0 tyJ0_ok hown (hts (.classLink RJ4 18 RJ0) (by decide +kernel)) (hts (.instantiable RJ0 4) (by decide +kernel)) (hts (.initialized RJ0) (by decide +kernel)) hK hP hD hS hA rfl (fun j hj => by rcases (show j = 0 ∨ j = 1 ∨ j = 2 ∨ j = 3 by omega) with rfl | rfl | rfl | rfl <;> rfl) (Nat.le_of_ble_eq_true rfl) (Nat.le_of_ble_eq_true rfl) dJ4_toString_0e30d_0 (fun q_s H hP hD hS => ?_)
  have hP : va_P D vwCl [(q_b, .inr (7, [.ref q_v, .int (0 : Int32), .int (0 : Int32), .int (nI n)])), (q_v, .inl (cB, m, .inl f)), (q_s, .inr (6, [.null, .int (0 : Int32), .int (0 : Int32), .int (0 : Int32)]))] H := hP
  have hD : va_D A [(q_b, .inr (7, [.ref q_v, .int (0 : Int32), .int (0 : Int32), .int (nI n)])), (q_v, .inl (cB, m, .inl f)), (q_s, .inr (6, [.null, .int (0 : Int32), .int (0 : Int32), .int (0 : Int32)]))] := hD
  refine lv_dup hx hb dJ4_toString_0e30d_3 rfl ?_
  refine lv_aload_n hx hb dJ4_toString_0e30d_4 rfl (lv_at hl 0 rfl) ?_
  have hPc := hP.sub (ws' := [(q_s, .inr (6, [.null, .int (0 : Int32), .int (0 : Int32), .int (0 : Int32)])), (q_b, .inr (7, [.ref q_v, .int (0 : Int32), .int (0 : Int32), .int (nI n)])), (q_v, .inl (cB, m, .inl f))]) [2, 0, 1] rfl
  have hDc := hD.sub (ws' := [(q_s, .inr (6, [.null, .int (0 : Int32), .int (0 : Int32), .int (0 : Int32)])), (q_b, .inr (7, [.ref q_v, .int (0 : Int32), .int (0 : Int32), .int (nI n)])), (q_v, .inl (cB, m, .inl f))]) [2, 0, 1] (by decide +kernel) rfl
  have hFc := va_free (wc := [(q_s, .inr (6, [.null, .int (0 : Int32), .int (0 : Int32), .int (0 : Int32)])), (q_b, .inr (7, [.ref q_v, .int (0 : Int32), .int (0 : Int32), .int (nI n)])), (q_v, .inl (cB, m, .inl f))]) hD hS hA [2, 0, 1] rfl
  refine va_callv (va_runI (As := [.ref q_b]) (rest := [.ref q_s]) ⟨hx, hb, hml, hown, hts⟩ (c_J0_init_81219 l D X cI cZ cB cG H.size q_s q_b q_v m n f hf h h2) (cwI 1 hts gJ4_toString_0e30d_J0_init_81219 rfl rfl rfl (hts (.initialized RJ0) (by decide +kernel)) (hts (.methodLink RJ4 137 yJ0_init_81219) (by decide +kernel)) (hts (.instanceMethod yJ0_init_81219) (by decide +kernel)) rfl (by decide +kernel) ⟨Nat.le_of_ble_eq_true rfl, Nat.le_of_ble_eq_true rfl⟩) ⟨g_blind, fun U hU hW => g_side hU hW hPc hK hDc hE hS hFc⟩ rfl rfl hl.1 rfl (lv_room (Nat.le_of_ble_eq_true rfl)) dJ4_toString_0e30d_5 ⟨Nat.le_of_ble_eq_true rfl, Nat.le_of_ble_eq_true rfl⟩) hS (fun q _ h => hFc q h) hFc (fun u t H1 locs ht hvm h1 hB hz1 hk1 hS => ?_)
  obtain ⟨v1, f1⟩ := u
  obtain ⟨hP1, hK1, hD1⟩ := hB
  rw [ht] at hP1
  obtain ⟨hP, hD⟩ := va_join (wr := ([] : va_W)) (w1 := [(q_b, .inr (7, [.ref q_v, .int (0 : Int32), .int (0 : Int32), .int (nI n)])), (q_v, .inl (cB, m, .inl f)), (q_s, .inr (6, [.ref v1, .int (0 : Int32), .int (0 : Int32), .int (0 : Int32)])), (v1, .inl (cB, n, .inl f1))]) hP hD [2, 0, 1] [] rfl rfl (by decide +kernel) (by decide +kernel) hk1 hFc hP1 hD1
  generalize H1 = H at hP hS ⊢
  have hP : va_P D vwCl [(q_b, .inr (7, [.ref q_v, .int (0 : Int32), .int (0 : Int32), .int (nI n)])), (q_v, .inl (cB, m, .inl f)), (q_s, .inr (6, [.ref v1, .int (0 : Int32), .int (0 : Int32), .int (0 : Int32)])), (v1, .inl (cB, n, .inl f1))] H := hP
  have hD : va_D A [(q_b, .inr (7, [.ref q_v, .int (0 : Int32), .int (0 : Int32), .int (nI n)])), (q_v, .inl (cB, m, .inl f)), (q_s, .inr (6, [.ref v1, .int (0 : Int32), .int (0 : Int32), .int (0 : Int32)])), (v1, .inl (cB, n, .inl f1))] := hD
  exact hret q_s (v1, f1) (Nat.le_of_ble_eq_true rfl) (Nat.le_of_ble_eq_true rfl) h1 hP hD hS dJ4_toString_0e30d_8
