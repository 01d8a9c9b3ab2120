theorem gl9 : ∀ w, w < 9 → gLen.getD w 0 ≤ 7 ∧ ∀ j, fits .byte (.int ((gByt.getD w []).getD j 0)) = true := by
  intro w hw
  refine ⟨?_, fun j => ?_⟩
  · have : ∀ w, w < 9 → gLen.getD w 0 ≤ 7 := by decide +kernel
    exact this w hw
  · have h7 : ∀ w, w < 9 → ∀ j, j < 8 → fits .byte (.int ((gByt.getD w []).getD j 0)) = true := by decide +kernel
    have h8 : ∀ w, w < 9 → (gByt.getD w []).length ≤ 8 := by decide +kernel
    rcases Nat.lt_or_ge j 8 with q | q
    · exact h7 w hw j q
    · rw [List.getD_eq_getElem?_getD, List.getElem?_eq_none (Nat.le_trans (h8 w hw) q)]
      decide
theorem gF_updN {f : Nat → Int32} {k : Nat} {x : Int32} (h : gF f) (hx : fits .byte (.int x) = true) : gF (upd f k x) := sb_fitU h hx
abbrev rm_J5_isLatin1_aae02 : Room := { frames := 1, cells := 0, slots := 0, locals := 80 }
set_option maxHeartbeats 8000000 in
set_option maxRecDepth 100000 in
theorem c_J5_isLatin1_aae02 (l : Launch) (D : va_G) (X : gX) (cI cZ cB cG : ClassId) (sz : Nat) (q_b v : Nat) (n : Int32) : Met l yJ5_isLatin1_aae02 wsJ5_isLatin1_aae02 rm_J5_isLatin1_aae02 (gP D X (gT cI cZ cB cG) sz [.ref q_b] [(q_b, .inr (7, [.ref v, .int (0 : Int32), .int (0 : Int32), .int n]))]) (va_Qi (fun (r : Int32) (u : Unit) => narrow .boolean (.int r) = .int r ∧ (r = 1)) (fun u t => gB D (gT cI cZ cB cG) (va_A [(q_b, .inr (7, [.ref v, .int (0 : Int32), .int (0 : Int32), .int n]))] sz) [(q_b, .inr (7, [.ref v, .int (0 : Int32), .int (0 : Int32), .int n]))] t) (va_A [(q_b, .inr (7, [.ref v, .int (0 : Int32), .int (0 : Int32), .int n]))] sz)) 0 0 (va_A [(q_b, .inr (7, [.ref v, .int (0 : Int32), .int (0 : Int32), .int n]))] sz) := by
  refine g_ofWx .boolean (post := fun (r : Int32) (u : Unit) => r = 1) (W1 := fun (u : Unit) => [(q_b, .inr (7, [.ref v, .int (0 : Int32), .int (0 : Int32), .int n]))]) (cc := cJ5_isLatin1_aae02) (maxL := 1) (by decide +kernel) (Nat.le_of_ble_eq_true rfl) rfl ?_
  intro pp ee ss mth args below meth cdx A Q hx hb hml hown hts hA hK hE H hP hD hS ls hl hret
  have hl : lv_has ls 1 [(0, .ref q_b)] := hl
  have hinJ4 : ∀ w ∈ u_ws RJ4 TJ4 4, w ∈ wsJ5_isLatin1_aae02 := by decide +kernel
  refine va_gets hx hb hE.2.2.2.2.2.2.2.2.1 hS hown (hts (.fieldLink RJ5 18 "java/lang/String" "COMPACT_STRINGS" "Z") (by decide +kernel)) (fun _ h => h) dJ5_isLatin1_aae02_0 ?_
  refine lv_if_eq (tgt := 17) hx hb dJ5_isLatin1_aae02_3 (by decide) (fun hbr => absurd hbr (by decide)) (fun _ => ?_)
  refine lv_aload_n hx hb dJ5_isLatin1_aae02_6 rfl (lv_at hl 0 rfl) ?_
  refine va_get (D := D) (ci := 7) (v := .int (0 : Int32)) (C := RJ4) (T := TJ4) (N := 4) hx hb hts hinJ4 hown hK hP 0 rfl rfl 1 (by decide) (hts (.fieldLink RJ5 22 "java/lang/AbstractStringBuilder" "coder" "B") (by decide +kernel)) (fun _ h9 => h9) rfl dJ5_isLatin1_aae02_7 ?_
  refine lv_if_ne (tgt := 17) hx hb dJ5_isLatin1_aae02_10 (by decide) (fun hbr => absurd rfl hbr) (fun _ => ?_)
  refine lv_iconst (v := (1 : Int32)) hx hb dJ5_isLatin1_aae02_13 (by decide) ?_
  refine lv_goto (tgt := 18) hx hb dJ5_isLatin1_aae02_14 (by decide) ?_
  exact hret (1 : Int32) () (by decide) rfl hP hD hS dJ5_isLatin1_aae02_18
abbrev rm_J8_newLength_cabcc : Room := { frames := 1, cells := 0, slots := 0, locals := 80 }
set_option maxHeartbeats 8000000 in
set_option maxRecDepth 100000 in
theorem c_J8_newLength_cabcc (l : Launch) (D : va_G) (X : gX) (cI cZ cB cG : ClassId) (sz : Nat) (m g p : Nat) (hm : m < 2 ^ 20) (hg : g < 2 ^ 20) (hp : p < 2 ^ 20) (h0 : 0 < p) : Met l yJ8_newLength_cabcc wsJ8_newLength_cabcc rm_J8_newLength_cabcc (gP D X (gT cI cZ cB cG) sz [.int (nI m), .int (nI g), .int (nI p)] ([] : va_W)) (va_Qi (fun (r : Int32) (u : Unit) => r = nI (m + (if g < p then p else g))) (fun u t => gB D (gT cI cZ cB cG) (va_A ([] : va_W) sz) ([] : va_W) t) (va_A ([] : va_W) sz)) 0 0 (va_A ([] : va_W) sz) := by
  refine g_ofMi (post := fun (r : Int32) (u : Unit) => r = nI (m + (if g < p then p else g))) (W1 := fun (u : Unit) => ([] : va_W)) (cc := cJ8_newLength_cabcc) (maxL := 4) (by decide +kernel) (Nat.le_of_ble_eq_true rfl) rfl ?_
  intro pp ee ss mth args below meth cdx A Q hx hb hml hown hts hini hA hK hE H hP hD hS ls hl hret
  have hl : lv_has ls 4 [(0, .int (nI m)), (1, .int (nI g)), (2, .int (nI p))] := hl
  have hq : (if g < p then p else g) < 2 ^ 20 ∧ 0 < (if g < p then p else g) := by split <;> omega
  refine lv_iload_n hx hb dJ8_newLength_cabcc_0 rfl (lv_at hl 0 rfl) ?_
  refine lv_iload_n hx hb dJ8_newLength_cabcc_1 rfl (lv_at hl 1 rfl) ?_
  refine lv_iload_n hx hb dJ8_newLength_cabcc_2 rfl (lv_at hl 2 rfl) ?_
  refine va_mmax hx hb (hml.trans hl.1.symm) hown (hts (.methodLink RJ8 194 Lib.Math.max.name) (by decide +kernel)) (hts (.static Lib.Math.max.name) (by decide +kernel)) (hts (.initialized "java/lang/Math") (by decide +kernel)) (hts (.code Lib.Math.max.name Lib.Math.max.code 2 (some .int)) (by decide +kernel)) (Nat.le_of_ble_eq_true rfl) (Nat.le_of_ble_eq_true rfl) (Nat.le_of_ble_eq_true rfl) (Nat.le_of_ble_eq_true rfl) dJ8_newLength_cabcc_3 ?_
  refine W.eq (g2 := F0 mth 6 ls [.int (nI (if g < p then p else g)), .int (nI m)]) (by rw [ite_nI (by omega) (by omega)]) ?_
  refine lv_iadd hx hb dJ8_newLength_cabcc_6 ?_
  refine W.eq (g2 := F0 mth 7 ls [.int (nI (m + (if g < p then p else g)))]) (by rw [nI_add]) ?_
  refine lv_istore_n (lv' := [(3, .int (nI (m + (if g < p then p else g)))), (0, .int (nI m)), (1, .int (nI g)), (2, .int (nI p))]) hx hb dJ8_newLength_cabcc_7 rfl hl (by decide) rfl (fun ls hl => ?_)
  refine lv_iconst (v := (0 : Int32)) hx hb dJ8_newLength_cabcc_8 (by decide) ?_
  refine lv_iload_n hx hb dJ8_newLength_cabcc_9 rfl (lv_at hl 0 rfl) ?_
  refine lv_icmp_ge (tgt := 21) hx hb dJ8_newLength_cabcc_10 (by decide) (fun hbr => absurd hbr ((nI_nle (by omega) (by omega)))) (fun _ => ?_)
  refine lv_iload_n hx hb dJ8_newLength_cabcc_13 rfl (lv_at hl 0 rfl) ?_
  refine lv_ldc (v := (2147483639 : Int32)) hx hb hown (hts (.constant RJ8 200 (2147483639)) (by decide +kernel)) dJ8_newLength_cabcc_14 ?_
  refine lv_icmp_gt (tgt := 21) hx hb dJ8_newLength_cabcc_16 (by decide) (fun hbr => absurd hbr ((show ¬ nI 2147483639 < nI (m + (if g < p then p else g)) from nI_nlt (by omega) (by decide)))) (fun _ => ?_)
  refine lv_iload_n hx hb dJ8_newLength_cabcc_19 rfl (lv_at hl 0 rfl) ?_
  exact hret (nI (m + (if g < p then p else g))) () (Nat.le_of_ble_eq_true rfl) (Nat.le_of_ble_eq_true rfl) rfl hP hD hS dJ8_newLength_cabcc_20
abbrev rm_J5_newCapacity_0f7a4 : Room := { frames := 2, cells := 0, slots := 0, locals := 103 }
set_option maxHeartbeats 8000000 in
set_option maxRecDepth 100000 in
theorem c_J5_newCapacity_0f7a4 (l : Launch) (D : va_G) (X : gX) (cI cZ cB cG : ClassId) (sz : Nat) (q_b q_v m q : Nat) (n : Int32) (f : Nat → Int32) (h1 : m < q) (h2 : q ≤ 400) : Met l yJ5_newCapacity_0f7a4 wsJ5_newCapacity_0f7a4 rm_J5_newCapacity_0f7a4 (gP D X (gT cI cZ cB cG) sz [.ref q_b, .int (nI q)] [(q_b, .inr (7, [.ref q_v, .int (0 : Int32), .int (0 : Int32), .int n])), (q_v, .inl (cB, m, .inl f))]) (va_Qi (fun (r : Int32) (u : Unit) => r = nI (capN q m)) (fun u t => gB D (gT cI cZ cB cG) (va_A [(q_b, .inr (7, [.ref q_v, .int (0 : Int32), .int (0 : Int32), .int n])), (q_v, .inl (cB, m, .inl f))] sz) [(q_b, .inr (7, [.ref q_v, .int (0 : Int32), .int (0 : Int32), .int n])), (q_v, .inl (cB, m, .inl f))] t) (va_A [(q_b, .inr (7, [.ref q_v, .int (0 : Int32), .int (0 : Int32), .int n])), (q_v, .inl (cB, m, .inl f))] sz)) 0 0 (va_A [(q_b, .inr (7, [.ref q_v, .int (0 : Int32), .int (0 : Int32), .int n])), (q_v, .inl (cB, m, .inl f))] sz) := by
  refine g_ofMi (post := fun (r : Int32) (u : Unit) => r = nI (capN q m)) (W1 := fun (u : Unit) => [(q_b, .inr (7, [.ref q_v, .int (0 : Int32), .int (0 : Int32), .int n])), (q_v, .inl (cB, m, .inl f))]) (cc := cJ5_newCapacity_0f7a4) (maxL := 6) (by decide +kernel) (Nat.le_of_ble_eq_true rfl) rfl ?_
  intro pp ee ss mth args below meth cdx A Q hx hb hml hown hts hini hA hK hE H hP hD hS ls hl hret
  have hl : lv_has ls 6 [(0, .ref q_b), (1, .int (nI q))] := hl
  have hinJ4 : ∀ w ∈ u_ws RJ4 TJ4 4, w ∈ wsJ5_newCapacity_0f7a4 := by decide +kernel
  have hc9 := capN_ok h1 h2
  refine lv_aload_n hx hb dJ5_newCapacity_0f7a4_0 rfl (lv_at hl 0 rfl) ?_
  refine va_get (D := D) (ci := 7) (v := .ref q_v) (C := RJ4) (T := TJ4) (N := 4) hx hb hts hinJ4 hown hK hP 0 rfl rfl 0 (by decide) (hts (.fieldLink RJ5 15 "java/lang/AbstractStringBuilder" "value" "[B") (by decide +kernel)) (fun _ h9 => h9) rfl dJ5_newCapacity_0f7a4_1 ?_
  refine va_alen hx hb hK hP 1 2 rfl rfl (v := (Int32.ofNat m)) rfl dJ5_newCapacity_0f7a4_4 ?_
  refine W.eq (g2 := F0 mth 5 ls [.int (nI m)]) (by rw [show Int32.ofNat m = nI m from rfl]) ?_
  refine lv_istore_n (lv' := [(2, .int (nI m)), (0, .ref q_b), (1, .int (nI q))]) hx hb dJ5_newCapacity_0f7a4_5 rfl hl (by decide) rfl (fun ls hl => ?_)
  refine lv_iload_n hx hb dJ5_newCapacity_0f7a4_6 rfl (lv_at hl 2 rfl) ?_
  refine lv_aload_n hx hb dJ5_newCapacity_0f7a4_7 rfl (lv_at hl 1 rfl) ?_
  refine va_get (D := D) (ci := 7) (v := .int (0 : Int32)) (C := RJ4) (T := TJ4) (N := 4) hx hb hts hinJ4 hown hK hP 0 rfl rfl 1 (by decide) (hts (.fieldLink RJ5 22 "java/lang/AbstractStringBuilder" "coder" "B") (by decide +kernel)) (fun _ h9 => h9) rfl dJ5_newCapacity_0f7a4_8 ?_
  refine lv_ishl hx hb dJ5_newCapacity_0f7a4_11 ?_
  refine W.eq (g2 := F0 mth 12 ls [.int (nI q)]) (by rw [sh0]) ?_
  refine lv_istore_n (lv' := [(3, .int (nI q)), (2, .int (nI m)), (0, .ref q_b), (1, .int (nI q))]) hx hb dJ5_newCapacity_0f7a4_12 rfl hl (by decide) rfl (fun ls hl => ?_)
  refine lv_iload_n hx hb dJ5_newCapacity_0f7a4_13 rfl (lv_at hl 0 rfl) ?_
  refine lv_iload_n hx hb dJ5_newCapacity_0f7a4_14 rfl (lv_at hl 1 rfl) ?_
  refine lv_isub hx hb dJ5_newCapacity_0f7a4_15 ?_
  refine W.eq (g2 := F0 mth 16 ls [.int (nI (q - m))]) (by rw [pk_sub (by omega)]) ?_
  refine lv_istore (lv' := [(4, .int (nI (q - m))), (3, .int (nI q)), (2, .int (nI m)), (0, .ref q_b), (1, .int (nI q))]) hx hb dJ5_newCapacity_0f7a4_16 hl (by decide) rfl (fun ls hl => ?_)
  refine lv_iload_n hx hb dJ5_newCapacity_0f7a4_18 rfl (lv_at hl 2 rfl) ?_
  refine lv_iload hx hb dJ5_newCapacity_0f7a4_19 (lv_at hl 0 rfl) ?_
  refine lv_iload_n hx hb dJ5_newCapacity_0f7a4_21 rfl (lv_at hl 2 rfl) ?_
  refine lv_iconst (v := (2 : Int32)) hx hb dJ5_newCapacity_0f7a4_22 (by decide) ?_
  refine lv_aload_n hx hb dJ5_newCapacity_0f7a4_23 rfl (lv_at hl 3 rfl) ?_
  refine va_get (D := D) (ci := 7) (v := .int (0 : Int32)) (C := RJ4) (T := TJ4) (N := 4) hx hb hts hinJ4 hown hK hP 0 rfl rfl 1 (by decide) (hts (.fieldLink RJ5 22 "java/lang/AbstractStringBuilder" "coder" "B") (by decide +kernel)) (fun _ h9 => h9) rfl dJ5_newCapacity_0f7a4_24 ?_
  refine lv_ishl hx hb dJ5_newCapacity_0f7a4_27 ?_
  refine W.eq (g2 := F0 mth 28 ls [.int (2 : Int32), .int (nI m), .int (nI (q - m)), .int (nI m)]) (by rw [sh0]) ?_
  refine lv_iadd hx hb dJ5_newCapacity_0f7a4_28 ?_
  refine W.eq (g2 := F0 mth 29 ls [.int (nI (m + 2)), .int (nI (q - m)), .int (nI m)]) (by rw [show nI m + 2 = nI (m + 2) from nI_add m 2]) ?_
  have hPc := hP.sub (ws' := ([] : va_W)) [] rfl
  have hDc := hD.sub (ws' := ([] : va_W)) [] (by decide +kernel) rfl
  have hFc := va_free (wc := ([] : va_W)) hD hS hA [] rfl
  refine va_calli (va_runS (As := [.int (nI m), .int (nI (q - m)), .int (nI (m + 2))]) (rest := []) ⟨hx, hb, hml, hown, hts⟩ (c_J8_newLength_cabcc l D X cI cZ cB cG H.size m (q - m) (m + 2) (by omega) (by omega) (by omega) (by omega)) (va_cwS 3 hts gJ5_newCapacity_0f7a4_J8_newLength_cabcc rfl rfl rfl (by decide +kernel) ⟨Nat.le_of_ble_eq_true rfl, Nat.le_of_ble_eq_true rfl⟩) ⟨g_blind, fun U hU hW => g_side hU hW hPc hK hDc hE hS hFc⟩ rfl rfl hl.1 rfl (lv_room (Nat.le_of_ble_eq_true rfl)) dJ5_newCapacity_0f7a4_29 ⟨Nat.zero_le _, Nat.zero_le _⟩) hS (fun q _ h => hFc q h) hFc (fun r1 u t H1 locs ht hvm h1 hB hz1 hk1 hS => ?_)
  obtain ⟨hP1, hK1, hD1⟩ := hB
  rw [ht] at hP1
  obtain ⟨hP, hD⟩ := va_join (wr := [(q_b, .inr (7, [.ref q_v, .int (0 : Int32), .int (0 : Int32), .int n])), (q_v, .inl (cB, m, .inl f))]) (w1 := ([] : va_W)) hP hD [] [0, 1] rfl rfl (by decide +kernel) (by decide +kernel) hk1 hFc hP1 hD1
  generalize H1 = H at hP hS ⊢
  have hP : va_P D vwCl [(q_b, .inr (7, [.ref q_v, .int (0 : Int32), .int (0 : Int32), .int n])), (q_v, .inl (cB, m, .inl f))] H := hP
  have hD : va_D A [(q_b, .inr (7, [.ref q_v, .int (0 : Int32), .int (0 : Int32), .int n])), (q_v, .inl (cB, m, .inl f))] := hD
  have h1 : r1 = nI (capN q m) := h1
  subst h1
  refine lv_istore (lv' := [(5, .int (nI (capN q m))), (4, .int (nI (q - m))), (3, .int (nI q)), (2, .int (nI m)), (0, .ref q_b), (1, .int (nI q))]) hx hb dJ5_newCapacity_0f7a4_32 hl (by decide) rfl (fun ls hl => ?_)
  refine lv_iload hx hb dJ5_newCapacity_0f7a4_34 (lv_at hl 0 rfl) ?_
  refine lv_ldc (v := (2147483647 : Int32)) hx hb hown (hts (.constant RJ5 39 (2147483647)) (by decide +kernel)) dJ5_newCapacity_0f7a4_36 ?_
  refine lv_icmp_ne (tgt := 51) hx hb dJ5_newCapacity_0f7a4_38 (by decide) (fun _ => ?_) (fun hbr => absurd hbr ((show ¬ nI (capN q m) = nI 2147483647 from nI_ne (by omega) (by decide) (by omega))))
  refine lv_iload hx hb dJ5_newCapacity_0f7a4_51 (lv_at hl 0 rfl) ?_
  refine lv_aload_n hx hb dJ5_newCapacity_0f7a4_53 rfl (lv_at hl 4 rfl) ?_
  refine va_get (D := D) (ci := 7) (v := .int (0 : Int32)) (C := RJ4) (T := TJ4) (N := 4) hx hb hts hinJ4 hown hK hP 0 rfl rfl 1 (by decide) (hts (.fieldLink RJ5 22 "java/lang/AbstractStringBuilder" "coder" "B") (by decide +kernel)) (fun _ h9 => h9) rfl dJ5_newCapacity_0f7a4_54 ?_
  refine lv_ishr hx hb dJ5_newCapacity_0f7a4_57 ?_
  refine W.eq (g2 := F0 mth 58 ls [.int (nI (capN q m))]) (by rw [sr0]) ?_
  exact hret (nI (capN q m)) () (Nat.le_of_ble_eq_true rfl) (Nat.le_of_ble_eq_true rfl) rfl hP hD hS dJ5_newCapacity_0f7a4_58
abbrev rm_J7_copyOf_9075b : Room := { frames := 1, cells := 1, slots := 802, locals := 80 }
set_option maxHeartbeats 8000000 in
set_option maxRecDepth 100000 in
theorem c_J7_copyOf_9075b (l : Launch) (D : va_G) (X : gX) (cI cZ cB cG : ClassId) (sz : Nat) (q_a m n : Nat) (f : Nat → Int32) (hf : gF f) (h : m < n) (h2 : n ≤ 802) : Met l yJ7_copyOf_9075b wsJ7_copyOf_9075b rm_J7_copyOf_9075b (gP D X (gT cI cZ cB cG) sz [.ref q_a, .int (nI n)] [(q_a, .inl (cB, m, .inl f))]) (va_Qr (fun (u : Unit) => True) (fun u a t => gB D (gT cI cZ cB cG) (va_A [(q_a, .inl (cB, m, .inl f))] sz) [(q_a, .inl (cB, m, .inl f)), (a, .inl (cB, n, .inl ((va_cpy f (fun _ => 0) 0 0 m))))] t) (va_A [(q_a, .inl (cB, m, .inl f))] sz)) 1 802 (va_A [(q_a, .inl (cB, m, .inl f))] sz) := by
  refine g_ofMr (post := fun (u : Unit) => True) (W1 := fun (u : Unit) (a : Nat) => [(q_a, .inl (cB, m, .inl f)), (a, .inl (cB, n, .inl ((va_cpy f (fun _ => 0) 0 0 m))))]) (cc := cJ7_copyOf_9075b) (maxL := 3) (by decide +kernel) (Nat.le_of_ble_eq_true rfl) rfl (by first | exact Or.inl ⟨_, rfl⟩ | exact Or.inr ⟨_, rfl⟩) ?_
  intro pp ee ss mth args below meth cdx A Q hx hb hml hown hts hini hA hK hE H hP hD hS ls hl hret
  have hl : lv_has ls 3 [(0, .ref q_a), (1, .int (nI n))] := hl
  refine lv_iload_n hx hb dJ7_copyOf_9075b_0 rfl (lv_at hl 1 rfl) ?_
  refine lv_aload_n hx hb dJ7_copyOf_9075b_1 rfl (lv_at hl 0 rfl) ?_
  refine va_alen hx hb hK hP 0 2 rfl rfl (v := (Int32.ofNat m)) rfl dJ7_copyOf_9075b_2 ?_
  refine lv_icmp_ne (tgt := 14) hx hb dJ7_copyOf_9075b_3 (by decide) (fun _ => ?_) (fun hbr => absurd hbr ((show ¬ nI n = nI m from nI_ne (by omega) (by omega) (by omega))))
  refine lv_iload_n hx hb dJ7_copyOf_9075b_14 rfl (lv_at hl 1 rfl) ?_
  refine g_newa (atype := .byte) (a0 := (n, .inl (fun _ => (0 : Int32)))) (N' := n) hx hb (hts (.arrayClass .byte) (by decide +kernel)) rfl 2 rfl hK hP hD hS hA (fun _ => rfl) (nI_pos (by omega)) (nI_clamp (by omega)) (show n * 1 ≤ 536870912 by omega) (Nat.le_of_ble_eq_true rfl) (show 0 + n ≤ 802 by omega) dJ7_copyOf_9075b_15 (fun q_n H hP hD hS => ?_)
  have hP : va_P D vwCl [(q_a, .inl (cB, m, .inl f)), (q_n, .inl (cB, n, .inl ((fun _ => (0 : Int32)))))] H := hP
  have hD : va_D A [(q_a, .inl (cB, m, .inl f)), (q_n, .inl (cB, n, .inl ((fun _ => (0 : Int32)))))] := hD
  refine lv_astore_n (lv' := [(2, .ref q_n), (0, .ref q_a), (1, .int (nI n))]) hx hb dJ7_copyOf_9075b_17 rfl hl (by decide) rfl (fun ls hl => ?_)
  refine lv_aload_n hx hb dJ7_copyOf_9075b_18 rfl (lv_at hl 1 rfl) ?_
  refine lv_iconst (v := (0 : Int32)) hx hb dJ7_copyOf_9075b_19 (by decide) ?_
  refine lv_aload_n hx hb dJ7_copyOf_9075b_20 rfl (lv_at hl 0 rfl) ?_
  refine lv_iconst (v := (0 : Int32)) hx hb dJ7_copyOf_9075b_21 (by decide) ?_
  refine lv_aload_n hx hb dJ7_copyOf_9075b_22 rfl (lv_at hl 1 rfl) ?_
  refine va_alen hx hb hK hP 0 2 rfl rfl (v := (Int32.ofNat m)) rfl dJ7_copyOf_9075b_23 ?_
  refine lv_iload_n hx hb dJ7_copyOf_9075b_24 rfl (lv_at hl 2 rfl) ?_
  refine va_mmin hx hb (hml.trans hl.1.symm) hown (hts (.methodLink RJ7 304 Lib.Math.min.name) (by decide +kernel)) (hts (.static Lib.Math.min.name) (by decide +kernel)) (hts (.initialized "java/lang/Math") (by decide +kernel)) (hts (.code Lib.Math.min.name Lib.Math.min.code 2 (some .int)) (by decide +kernel)) (Nat.le_of_ble_eq_true rfl) (Nat.le_of_ble_eq_true rfl) (Nat.le_of_ble_eq_true rfl) (show 0 + n ≤ 802 by omega) dJ7_copyOf_9075b_25 ?_
  refine W.eq (g2 := F0 mth 28 ls [.int (nI m), .int (0 : Int32), .ref q_n, .int (0 : Int32), .ref q_a]) (by rw [show (if nI n < Int32.ofNat m then nI n else Int32.ofNat m) = nI m from ite_nI2 (by omega) (by omega) (by omega)]) ?_
  refine va_copyi hx hb (hml.trans hl.1.symm) hown (hts (.methodLink RJ7 150 arraycopyName) (by decide +kernel)) (hts (.native arraycopyName) (by decide +kernel)) (hts (.static arraycopyName) (by decide +kernel)) (hts (.initialized "java/lang/System") (by decide +kernel)) hK hP hD hS 0 1 2 2 rfl rfl rfl rfl rfl (by decide) (by decide) (nI_pos (by omega)) (by rw [nI_clamp (by omega)]; show 0 + m ≤ m; omega) (by rw [nI_clamp (by omega)]; show 0 + m ≤ n; omega) (fun i _ => hf _) (Nat.le_of_ble_eq_true rfl) (Nat.le_of_ble_eq_true rfl) dJ7_copyOf_9075b_28 (fun H locs hP hD hS => ?_)
  have hP : va_P D vwCl [(q_a, .inl (cB, m, .inl f)), (q_n, .inl (cB, n, .inl ((va_cpy f ((fun _ => (0 : Int32))) ((0 : Int32)).toNatClampNeg ((0 : Int32)).toNatClampNeg (nI m).toNatClampNeg))))] H := hP
  have hD : va_D A [(q_a, .inl (cB, m, .inl f)), (q_n, .inl (cB, n, .inl ((va_cpy f ((fun _ => (0 : Int32))) ((0 : Int32)).toNatClampNeg ((0 : Int32)).toNatClampNeg (nI m).toNatClampNeg))))] := hD
  rw [show (nI m).toNatClampNeg = m from nI_clamp (by omega), show (0 : Int32).toNatClampNeg = 0 from rfl] at hP hD
  have hP : va_P D vwCl [(q_a, .inl (cB, m, .inl f)), (q_n, .inl (cB, n, .inl ((va_cpy f (fun _ => 0) 0 0 m))))] H := hP
  have hD : va_D A [(q_a, .inl (cB, m, .inl f)), (q_n, .inl (cB, n, .inl ((va_cpy f (fun _ => 0) 0 0 m))))] := hD
  refine lv_aload_n hx hb dJ7_copyOf_9075b_31 rfl (lv_at hl 0 rfl) ?_
  exact hret q_n () (Nat.le_of_ble_eq_true rfl) (show 0 + n ≤ 802 by omega) trivial hP hD hS dJ7_copyOf_9075b_32
abbrev rm_J5_ensureCapacityInternal_d00df : Room := { frames := 3, cells := 1, slots := 802, locals := 128 }
set_option maxHeartbeats 8000000 in
set_option maxRecDepth 100000 in
theorem c_J5_ensureCapacityInternal_d00df (l : Launch) (D : va_G) (X : gX) (cI cZ cB cG : ClassId) (sz : Nat) (q_b q_v m q : Nat) (n : Int32) (f : Nat → Int32) (hf : gF f) (hm : m ≤ 802) (hq : q ≤ 400) : Met l yJ5_ensureCapacityInternal_d00df wsJ5_ensureCapacityInternal_d00df rm_J5_ensureCapacityInternal_d00df (gP D X (gT cI cZ cB cG) sz [.ref q_b, .int (nI q)] [(q_b, .inr (7, [.ref q_v, .int (0 : Int32), .int (0 : Int32), .int n])), (q_v, .inl (cB, m, .inl f))]) (va_Qv (fun (u : Nat × Nat × (Nat → Int32)) => q ≤ u.2.1 ∧ u.2.1 ≤ 802 ∧ (∀ j, j < m → u.2.2 j = f j) ∧ gF u.2.2) (fun u t => gB D (gT cI cZ cB cG) (va_A [(q_b, .inr (7, [.ref q_v, .int (0 : Int32), .int (0 : Int32), .int n])), (q_v, .inl (cB, m, .inl f))] sz) [(q_b, .inr (7, [.ref u.1, .int (0 : Int32), .int (0 : Int32), .int n])), (u.1, .inl (cB, u.2.1, .inl u.2.2))] t) (va_A [(q_b, .inr (7, [.ref q_v, .int (0 : Int32), .int (0 : Int32), .int n])), (q_v, .inl (cB, m, .inl f))] sz)) 1 802 (va_A [(q_b, .inr (7, [.ref q_v, .int (0 : Int32), .int (0 : Int32), .int n])), (q_v, .inl (cB, m, .inl f))] sz) := by
  refine g_ofMv (post := fun (u : Nat × Nat × (Nat → Int32)) => q ≤ u.2.1 ∧ u.2.1 ≤ 802 ∧ (∀ j, j < m → u.2.2 j = f j) ∧ gF u.2.2) (W1 := fun (u : Nat × Nat × (Nat → Int32)) => [(q_b, .inr (7, [.ref u.1, .int (0 : Int32), .int (0 : Int32), .int n])), (u.1, .inl (cB, u.2.1, .inl u.2.2))]) (cc := cJ5_ensureCapacityInternal_d00df) (maxL := 3) (by decide +kernel) (Nat.le_of_ble_eq_true rfl) rfl ?_
  intro pp ee ss mth args below meth cdx A Q hx hb hml hown hts hini hA hK hE H hP hD hS ls hl hret
  have hl : lv_has ls 3 [(0, .ref q_b), (1, .int (nI q))] := hl
  have hinJ4 : ∀ w ∈ u_ws RJ4 TJ4 4, w ∈ wsJ5_ensureCapacityInternal_d00df := by decide +kernel
  refine lv_aload_n hx hb dJ5_ensureCapacityInternal_d00df_0 rfl (lv_at hl 0 rfl) ?_
  refine va_get (D := D) (ci := 7) (v := .ref q_v) (C := RJ4) (T := TJ4) (N := 4) hx hb hts hinJ4 hown hK hP 0 rfl rfl 0 (by decide) (hts (.fieldLink RJ5 15 "java/lang/AbstractStringBuilder" "value" "[B") (by decide +kernel)) (fun _ h9 => h9) rfl dJ5_ensureCapacityInternal_d00df_1 ?_
  refine va_alen hx hb hK hP 1 2 rfl rfl (v := (Int32.ofNat m)) rfl dJ5_ensureCapacityInternal_d00df_4 ?_
  refine lv_aload_n hx hb dJ5_ensureCapacityInternal_d00df_5 rfl (lv_at hl 0 rfl) ?_
  refine va_get (D := D) (ci := 7) (v := .int (0 : Int32)) (C := RJ4) (T := TJ4) (N := 4) hx hb hts hinJ4 hown hK hP 0 rfl rfl 1 (by decide) (hts (.fieldLink RJ5 22 "java/lang/AbstractStringBuilder" "coder" "B") (by decide +kernel)) (fun _ h9 => h9) rfl dJ5_ensureCapacityInternal_d00df_6 ?_
  refine lv_ishr hx hb dJ5_ensureCapacityInternal_d00df_9 ?_
  refine W.eq (g2 := F0 mth 10 ls [.int (nI m)]) (by rw [show Int32.ofNat m >>> ((0 : Int32) &&& 31) = nI m from sr0 _]) ?_
  refine lv_istore_n (lv' := [(2, .int (nI m)), (0, .ref q_b), (1, .int (nI q))]) hx hb dJ5_ensureCapacityInternal_d00df_10 rfl hl (by decide) rfl (fun ls hl => ?_)
  refine lv_iload_n hx hb dJ5_ensureCapacityInternal_d00df_11 rfl (lv_at hl 2 rfl) ?_
  refine lv_iload_n hx hb dJ5_ensureCapacityInternal_d00df_12 rfl (lv_at hl 0 rfl) ?_
  refine lv_isub hx hb dJ5_ensureCapacityInternal_d00df_13 ?_
  by_cases hqm : q ≤ m
  · refine lv_if_le (tgt := 38) hx hb dJ5_ensureCapacityInternal_d00df_14 (by decide) (fun _ => ?_) (fun hbr => absurd (((sub_le0 (by omega) (by omega)).mpr hqm)) hbr)
    exact hret (q_v, m, f) (Nat.le_of_ble_eq_true rfl) (Nat.le_of_ble_eq_true rfl) ⟨hqm, hm, fun _ _ => rfl, hf⟩ hP hD hS dJ5_ensureCapacityInternal_d00df_38
  · refine lv_if_le (tgt := 38) hx hb dJ5_ensureCapacityInternal_d00df_14 (by decide) (fun hbr => absurd hbr ((fun z => hqm ((sub_le0 (by omega) (by omega)).mp z)))) (fun _ => ?_)
    have hc9 := capN_ok (Nat.lt_of_not_le hqm) hq
    refine lv_aload_n hx hb dJ5_ensureCapacityInternal_d00df_17 rfl (lv_at hl 1 rfl) ?_
    refine lv_aload_n hx hb dJ5_ensureCapacityInternal_d00df_18 rfl (lv_at hl 1 rfl) ?_
    refine va_get (D := D) (ci := 7) (v := .ref q_v) (C := RJ4) (T := TJ4) (N := 4) hx hb hts hinJ4 hown hK hP 0 rfl rfl 0 (by decide) (hts (.fieldLink RJ5 15 "java/lang/AbstractStringBuilder" "value" "[B") (by decide +kernel)) (fun _ h9 => h9) rfl dJ5_ensureCapacityInternal_d00df_19 ?_
    refine lv_aload_n hx hb dJ5_ensureCapacityInternal_d00df_22 rfl (lv_at hl 1 rfl) ?_
    refine lv_iload_n hx hb dJ5_ensureCapacityInternal_d00df_23 rfl (lv_at hl 2 rfl) ?_
    have hPc := hP.sub (ws' := [(q_b, .inr (7, [.ref q_v, .int (0 : Int32), .int (0 : Int32), .int n])), (q_v, .inl (cB, m, .inl f))]) [0, 1] rfl
    have hDc := hD.sub (ws' := [(q_b, .inr (7, [.ref q_v, .int (0 : Int32), .int (0 : Int32), .int n])), (q_v, .inl (cB, m, .inl f))]) [0, 1] (by decide +kernel) rfl
    have hFc := va_free (wc := [(q_b, .inr (7, [.ref q_v, .int (0 : Int32), .int (0 : Int32), .int n])), (q_v, .inl (cB, m, .inl f))]) hD hS hA [0, 1] rfl
    refine va_calli (va_runU (As := [.int (nI q)]) (rest := [.ref q_v, .ref q_b]) ⟨hx, hb, hml, hown, hts⟩ (c_J5_newCapacity_0f7a4 l D X cI cZ cB cG H.size q_b q_v m q n f (by omega) hq) (va_cwU 1 hts gJ5_ensureCapacityInternal_d00df_J5_newCapacity_0f7a4_u104J4 rfl rfl rfl rfl (by decide +kernel) ⟨Nat.le_of_ble_eq_true rfl, Nat.le_of_ble_eq_true rfl⟩) ⟨g_blind, va_recv hK hP (ci := 7) (q0 := 0) rfl rfl, fun U hU hW => g_side hU hW hPc hK hDc hE hS hFc⟩ rfl rfl hl.1 rfl (lv_room (Nat.le_of_ble_eq_true rfl)) dJ5_ensureCapacityInternal_d00df_24 ⟨Nat.le_of_ble_eq_true rfl, Nat.le_of_ble_eq_true rfl⟩) hS (fun q _ h => hFc q h) hFc (fun r1 u t H1 locs ht hvm h1 hB hz1 hk1 hS => ?_)
    obtain ⟨hP1, hK1, hD1⟩ := hB
    rw [ht] at hP1
    obtain ⟨hP, hD⟩ := va_join (wr := ([] : va_W)) (w1 := [(q_b, .inr (7, [.ref q_v, .int (0 : Int32), .int (0 : Int32), .int n])), (q_v, .inl (cB, m, .inl f))]) hP hD [0, 1] [] rfl rfl (by decide +kernel) (by decide +kernel) hk1 hFc hP1 hD1
    generalize H1 = H at hP hS ⊢
    have hP : va_P D vwCl [(q_b, .inr (7, [.ref q_v, .int (0 : Int32), .int (0 : Int32), .int n])), (q_v, .inl (cB, m, .inl f))] H := hP
    have hD : va_D A [(q_b, .inr (7, [.ref q_v, .int (0 : Int32), .int (0 : Int32), .int n])), (q_v, .inl (cB, m, .inl f))] := hD
    subst h1
    refine lv_aload_n hx hb dJ5_ensureCapacityInternal_d00df_27 rfl (lv_at hl 1 rfl) ?_
    refine va_get (D := D) (ci := 7) (v := .int (0 : Int32)) (C := RJ4) (T := TJ4) (N := 4) hx hb hts hinJ4 hown hK hP 0 rfl rfl 1 (by decide) (hts (.fieldLink RJ5 22 "java/lang/AbstractStringBuilder" "coder" "B") (by decide +kernel)) (fun _ h9 => h9) rfl dJ5_ensureCapacityInternal_d00df_28 ?_
    refine lv_ishl hx hb dJ5_ensureCapacityInternal_d00df_31 ?_
    refine W.eq (g2 := F0 mth 32 ls [.int (nI (capN q m)), .ref q_v, .ref q_b]) (by rw [sh0]) ?_
    have hPc := hP.sub (ws' := [(q_v, .inl (cB, m, .inl f))]) [1] rfl
    have hDc := hD.sub (ws' := [(q_v, .inl (cB, m, .inl f))]) [1] (by decide +kernel) rfl
    have hFc := va_free (wc := [(q_v, .inl (cB, m, .inl f))]) hD hS hA [1] rfl
    refine va_callr (va_runS (As := [.ref q_v, .int (nI (capN q m))]) (rest := [.ref q_b]) ⟨hx, hb, hml, hown, hts⟩ (c_J7_copyOf_9075b l D X cI cZ cB cG H.size q_v m (capN q m) f hf (by omega) (by omega)) (va_cwS 2 hts gJ5_ensureCapacityInternal_d00df_J7_copyOf_9075b rfl rfl rfl (by decide +kernel) ⟨Nat.le_of_ble_eq_true rfl, Nat.le_of_ble_eq_true rfl⟩) ⟨g_blind, fun U hU hW => g_side hU hW hPc hK hDc hE hS hFc⟩ rfl rfl hl.1 rfl (lv_room (Nat.le_of_ble_eq_true rfl)) dJ5_ensureCapacityInternal_d00df_32 ⟨Nat.le_of_ble_eq_true rfl, Nat.le_of_ble_eq_true rfl⟩) hS (fun q _ h => hFc q h) hFc (fun u r2 t H1 locs ht hvm h2 hB hz1 hk1 hS => ?_)
    obtain ⟨hP1, hK1, hD1⟩ := hB
    rw [ht] at hP1
    obtain ⟨hP, hD⟩ := va_join (wr := [(q_b, .inr (7, [.ref q_v, .int (0 : Int32), .int (0 : Int32), .int n]))]) (w1 := [(q_v, .inl (cB, m, .inl f)), (r2, .inl (cB, (capN q m), .inl ((va_cpy f (fun _ => 0) 0 0 m))))]) hP hD [1] [0] rfl rfl (by decide +kernel) (by decide +kernel) hk1 hFc hP1 hD1
    generalize H1 = H at hP hS ⊢
    have hP : va_P D vwCl [(q_b, .inr (7, [.ref q_v, .int (0 : Int32), .int (0 : Int32), .int n])), (q_v, .inl (cB, m, .inl f)), (r2, .inl (cB, (capN q m), .inl ((va_cpy f (fun _ => 0) 0 0 m))))] H := hP
    have hD : va_D A [(q_b, .inr (7, [.ref q_v, .int (0 : Int32), .int (0 : Int32), .int n])), (q_v, .inl (cB, m, .inl f)), (r2, .inl (cB, (capN q m), .inl ((va_cpy f (fun _ => 0) 0 0 m))))] := hD
    refine va_put (D := D) (ci := 7) (v := .ref r2) (ty := (.array .byte)) (C := RJ4) (T := TJ4) (N := 4) hx hb hts hinJ4 tyJ4 tyJ4_ok nmJ4 hown hK hP hD hS 0 rfl rfl 0 (by decide) (hts (.fieldLink RJ5 15 "java/lang/AbstractStringBuilder" "value" "[B") (by decide +kernel)) (fun _ h9 => h9) rfl (by decide +kernel) rfl rfl (Nat.le_of_ble_eq_true rfl) dJ5_ensureCapacityInternal_d00df_35 (fun H locs hP hD hS => ?_)
    have hP : va_P D vwCl [(q_b, .inr (7, [.ref r2, .int (0 : Int32), .int (0 : Int32), .int n])), (q_v, .inl (cB, m, .inl f)), (r2, .inl (cB, (capN q m), .inl ((va_cpy f (fun _ => 0) 0 0 m))))] H := hP
    have hD : va_D A [(q_b, .inr (7, [.ref r2, .int (0 : Int32), .int (0 : Int32), .int n])), (q_v, .inl (cB, m, .inl f)), (r2, .inl (cB, (capN q m), .inl ((va_cpy f (fun _ => 0) 0 0 m))))] := hD
    have hP := hP.sub (ws' := [(q_b, .inr (7, [.ref r2, .int (0 : Int32), .int (0 : Int32), .int n])), (r2, .inl (cB, (capN q m), .inl ((va_cpy f (fun _ => 0) 0 0 m))))]) [0, 2] rfl
    have hD := hD.sub (ws' := [(q_b, .inr (7, [.ref r2, .int (0 : Int32), .int (0 : Int32), .int n])), (r2, .inl (cB, (capN q m), .inl ((va_cpy f (fun _ => 0) 0 0 m))))]) [0, 2] (by decide +kernel) rfl
    exact hret (r2, capN q m, va_cpy f (fun _ => 0) 0 0 m) (Nat.le_of_ble_eq_true rfl) (Nat.le_of_ble_eq_true rfl) ⟨hc9.1, hc9.2.2, fun j hj => by dsimp only; exact sb_cpy0 hj, gF_cpy hf gF_0⟩ hP hD hS dJ5_ensureCapacityInternal_d00df_38
abbrev rm_J0_getBytes_840e7 : Room := { frames := 2, cells := 0, slots := 0, locals := 100 }
set_option maxHeartbeats 8000000 in
set_option maxRecDepth 100000 in
theorem c_J0_getBytes_840e7 (l : Launch) (D : va_G) (X : gX) (cI cZ cB cG : ClassId) (sz : Nat) (w : Nat) (hw : w < 9) (q_d m n : Nat) (f : Nat → Int32) (h : n + gLen.getD w 0 ≤ m) (hm : m ≤ 802) : Met l yJ0_getBytes_840e7 wsJ0_getBytes_840e7 rm_J0_getBytes_840e7 (gP D X (gT cI cZ cB cG) sz [.ref (X.1 w), .ref q_d, .int (nI n), .int (0 : Int32)] [(q_d, .inl (cB, m, .inl f))]) (va_Qv (fun (u : Unit) => True) (fun u t => gB D (gT cI cZ cB cG) (va_A [(q_d, .inl (cB, m, .inl f))] sz) [(q_d, .inl (cB, m, .inl ((va_cpy (fun j => (gByt.getD w []).getD j 0) f 0 n (gLen.getD w 0)))))] t) (va_A [(q_d, .inl (cB, m, .inl f))] sz)) 0 0 (va_A [(q_d, .inl (cB, m, .inl f))] sz) := by
  refine g_ofMv (post := fun (u : Unit) => True) (W1 := fun (u : Unit) => [(q_d, .inl (cB, m, .inl ((va_cpy (fun j => (gByt.getD w []).getD j 0) f 0 n (gLen.getD w 0)))))]) (cc := cJ0_getBytes_840e7) (maxL := 4) (by decide +kernel) (Nat.le_of_ble_eq_true rfl) rfl ?_
  intro pp ee ss mth args below meth cdx A Q hx hb hml hown hts hini hA hK hE H hP hD hS ls hl hret
  have hl : lv_has ls 4 [(0, .ref (X.1 w)), (1, .ref q_d), (2, .int (nI n)), (3, .int (0 : Int32))] := hl
  have hlw := (gl9 w hw)
  refine lv_aload_n hx hb dJ0_getBytes_840e7_0 rfl (lv_at hl 0 rfl) ?_
  have hPc := hP.sub (ws' := ([] : va_W)) [] rfl
  have hDc := hD.sub (ws' := ([] : va_W)) [] (by decide +kernel) rfl
  have hFc := va_free (wc := ([] : va_W)) hD hS hA [] rfl
  refine va_calli (va_runV (As := []) (rest := []) ⟨hx, hb, hml, hown, hts⟩ (c_J0_coder_7d493 l D X cI cZ cB cG H.size w hw) (cwV 0 hts gJ0_getBytes_840e7_J0_coder_7d493 rfl rfl rfl (by decide +kernel) ⟨Nat.le_of_ble_eq_true rfl, Nat.le_of_ble_eq_true rfl⟩) ⟨g_blind, vk_recv hE.2.2.2.2.2.1 hw hS, fun U hU hW => g_side hU hW hPc hK hDc hE hS hFc⟩ rfl rfl hl.1 rfl (lv_room (Nat.le_of_ble_eq_true rfl)) dJ0_getBytes_840e7_1 ⟨Nat.zero_le _, Nat.zero_le _⟩) hS (fun q _ h => hFc q h) hFc (fun r1 u t H1 locs ht hvm h1 hB hz1 hk1 hS => ?_)
  obtain ⟨hP1, hK1, hD1⟩ := hB
  rw [ht] at hP1
  obtain ⟨hP, hD⟩ := va_join (wr := [(q_d, .inl (cB, m, .inl f))]) (w1 := ([] : va_W)) hP hD [] [0] rfl rfl (by decide +kernel) (by decide +kernel) hk1 hFc hP1 hD1
  generalize H1 = H at hP hS ⊢
  have hP : va_P D vwCl [(q_d, .inl (cB, m, .inl f))] H := hP
  have hD : va_D A [(q_d, .inl (cB, m, .inl f))] := hD
  obtain ⟨_, h1⟩ := h1
  subst h1
  refine lv_iload_n hx hb dJ0_getBytes_840e7_4 rfl (lv_at hl 3 rfl) ?_
  refine lv_icmp_ne (tgt := 28) hx hb dJ0_getBytes_840e7_5 (by decide) (fun hbr => absurd rfl hbr) (fun _ => ?_)
  refine lv_aload_n hx hb dJ0_getBytes_840e7_8 rfl (lv_at hl 0 rfl) ?_
  refine vk_getf hx hb (hE.2.2.2.2.2.1.1 w hw).2.2.1 hS hown (hts (.fieldLink RJ0 9 "java/lang/String" "value" "[B") (by decide +kernel)) (fun _ h => h) dJ0_getBytes_840e7_9 ?_
  refine lv_iconst (v := (0 : Int32)) hx hb dJ0_getBytes_840e7_12 (by decide) ?_
  refine lv_aload_n hx hb dJ0_getBytes_840e7_13 rfl (lv_at hl 1 rfl) ?_
  refine lv_iload_n hx hb dJ0_getBytes_840e7_14 rfl (lv_at hl 2 rfl) ?_
  refine lv_iload_n hx hb dJ0_getBytes_840e7_15 rfl (lv_at hl 3 rfl) ?_
  refine lv_ishl hx hb dJ0_getBytes_840e7_16 ?_
  refine W.eq (g2 := F0 mth 17 ls [.int (nI n), .ref q_d, .int (0 : Int32), .ref (X.2 w)]) (by rw [sh0]) ?_
  refine lv_aload_n hx hb dJ0_getBytes_840e7_17 rfl (lv_at hl 0 rfl) ?_
  refine vk_getf hx hb (hE.2.2.2.2.2.1.1 w hw).2.2.1 hS hown (hts (.fieldLink RJ0 9 "java/lang/String" "value" "[B") (by decide +kernel)) (fun _ h => h) dJ0_getBytes_840e7_18 ?_
  refine va_tlen hx hb (hE.2.2.2.2.2.1.1 w hw).2.2.2 hS rfl dJ0_getBytes_840e7_21 ?_
  refine vk_copyt hx hb (hml.trans hl.1.symm) hown (hts (.methodLink RJ0 212 arraycopyName) (by decide +kernel)) (hts (.native arraycopyName) (by decide +kernel)) (hts (.static arraycopyName) (by decide +kernel)) (hts (.initialized "java/lang/System") (by decide +kernel)) hK hP hD hS (f := (fun j => (gByt.getD w []).getD j 0)) (hE.2.2.2.2.2.1.1 w hw).2.2.2 0 2 rfl rfl (by decide) (nI_pos (by omega)) (show ¬ nI (gLen.getD w 0) < 0 from nI_pos (by omega)) (by show 0 + (nI (gLen.getD w 0)).toNatClampNeg ≤ _; rw [nI_clamp (by omega)]; omega) (by show (nI n).toNatClampNeg + (nI (gLen.getD w 0)).toNatClampNeg ≤ _; rw [nI_clamp (by omega), nI_clamp (by omega)]; exact h) (fun i hi => hlw.2 _) (Nat.le_of_ble_eq_true rfl) (Nat.le_of_ble_eq_true rfl) dJ0_getBytes_840e7_22 (fun H locs hP hD hS => ?_)
  have hP : va_P D vwCl [(q_d, .inl (cB, m, .inl ((va_cpy ((fun j => (gByt.getD w []).getD j 0)) f ((0 : Int32)).toNatClampNeg (nI n).toNatClampNeg (Int32.ofNat (gLen.getD w 0)).toNatClampNeg))))] H := hP
  have hD : va_D A [(q_d, .inl (cB, m, .inl ((va_cpy ((fun j => (gByt.getD w []).getD j 0)) f ((0 : Int32)).toNatClampNeg (nI n).toNatClampNeg (Int32.ofNat (gLen.getD w 0)).toNatClampNeg))))] := hD
  rw [show (Int32.ofNat (gLen.getD w 0)).toNatClampNeg = (gLen.getD w 0) from nI_clamp (by omega), show (nI n).toNatClampNeg = n from nI_clamp (by omega), show (0 : Int32).toNatClampNeg = 0 from rfl] at hP hD
  have hP : va_P D vwCl [(q_d, .inl (cB, m, .inl ((va_cpy (fun j => (gByt.getD w []).getD j 0) f 0 n (gLen.getD w 0)))))] H := hP
  have hD : va_D A [(q_d, .inl (cB, m, .inl ((va_cpy (fun j => (gByt.getD w []).getD j 0) f 0 n (gLen.getD w 0)))))] := hD
  refine lv_goto (tgt := 43) hx hb dJ0_getBytes_840e7_25 (by decide) ?_
  exact hret () (Nat.le_of_ble_eq_true rfl) (Nat.le_of_ble_eq_true rfl) trivial hP hD hS dJ0_getBytes_840e7_43
abbrev rm_J5_inflateIfNeededFor_a7421 : Room := { frames := 2, cells := 0, slots := 0, locals := 100 }
set_option maxHeartbeats 8000000 in
set_option maxRecDepth 100000 in
theorem c_J5_inflateIfNeededFor_a7421 (l : Launch) (D : va_G) (X : gX) (cI cZ cB cG : ClassId) (sz : Nat) (q_b v : Nat) (n : Int32) (w : Nat) (hw : w < 9) : Met l yJ5_inflateIfNeededFor_a7421 wsJ5_inflateIfNeededFor_a7421 rm_J5_inflateIfNeededFor_a7421 (gP D X (gT cI cZ cB cG) sz [.ref q_b, .ref (X.1 w)] [(q_b, .inr (7, [.ref v, .int (0 : Int32), .int (0 : Int32), .int n]))]) (va_Qv (fun (u : Unit) => True) (fun u t => gB D (gT cI cZ cB cG) (va_A [(q_b, .inr (7, [.ref v, .int (0 : Int32), .int (0 : Int32), .int n]))] sz) [(q_b, .inr (7, [.ref v, .int (0 : Int32), .int (0 : Int32), .int n]))] t) (va_A [(q_b, .inr (7, [.ref v, .int (0 : Int32), .int (0 : Int32), .int n]))] sz)) 0 0 (va_A [(q_b, .inr (7, [.ref v, .int (0 : Int32), .int (0 : Int32), .int n]))] sz) := by
  refine g_ofMv (post := fun (u : Unit) => True) (W1 := fun (u : Unit) => [(q_b, .inr (7, [.ref v, .int (0 : Int32), .int (0 : Int32), .int n]))]) (cc := cJ5_inflateIfNeededFor_a7421) (maxL := 2) (by decide +kernel) (Nat.le_of_ble_eq_true rfl) rfl ?_
  intro pp ee ss mth args below meth cdx A Q hx hb hml hown hts hini hA hK hE H hP hD hS ls hl hret
  have hl : lv_has ls 2 [(0, .ref q_b), (1, .ref (X.1 w))] := hl
  have hinJ4 : ∀ w ∈ u_ws RJ4 TJ4 4, w ∈ wsJ5_inflateIfNeededFor_a7421 := by decide +kernel
  refine va_gets hx hb hE.2.2.2.2.2.2.2.2.1 hS hown (hts (.fieldLink RJ5 18 "java/lang/String" "COMPACT_STRINGS" "Z") (by decide +kernel)) (fun _ h => h) dJ5_inflateIfNeededFor_a7421_0 ?_
  refine lv_if_eq (tgt := 21) hx hb dJ5_inflateIfNeededFor_a7421_3 (by decide) (fun hbr => absurd hbr (by decide)) (fun _ => ?_)
  refine lv_aload_n hx hb dJ5_inflateIfNeededFor_a7421_6 rfl (lv_at hl 0 rfl) ?_
  refine va_get (D := D) (ci := 7) (v := .int (0 : Int32)) (C := RJ4) (T := TJ4) (N := 4) hx hb hts hinJ4 hown hK hP 0 rfl rfl 1 (by decide) (hts (.fieldLink RJ5 22 "java/lang/AbstractStringBuilder" "coder" "B") (by decide +kernel)) (fun _ h9 => h9) rfl dJ5_inflateIfNeededFor_a7421_7 ?_
  refine lv_aload_n hx hb dJ5_inflateIfNeededFor_a7421_10 rfl (lv_at hl 1 rfl) ?_
  have hPc := hP.sub (ws' := ([] : va_W)) [] rfl
  have hDc := hD.sub (ws' := ([] : va_W)) [] (by decide +kernel) rfl
  have hFc := va_free (wc := ([] : va_W)) hD hS hA [] rfl
  refine va_calli (va_runV (As := []) (rest := [.int (0 : Int32)]) ⟨hx, hb, hml, hown, hts⟩ (c_J0_coder_7d493 l D X cI cZ cB cG H.size w hw) (cwV 0 hts gJ5_inflateIfNeededFor_a7421_J0_coder_7d493 rfl rfl rfl (by decide +kernel) ⟨Nat.le_of_ble_eq_true rfl, Nat.le_of_ble_eq_true rfl⟩) ⟨g_blind, vk_recv hE.2.2.2.2.2.1 hw hS, fun U hU hW => g_side hU hW hPc hK hDc hE hS hFc⟩ rfl rfl hl.1 rfl (lv_room (Nat.le_of_ble_eq_true rfl)) dJ5_inflateIfNeededFor_a7421_11 ⟨Nat.zero_le _, Nat.zero_le _⟩) hS (fun q _ h => hFc q h) hFc (fun r1 u t H1 locs ht hvm h1 hB hz1 hk1 hS => ?_)
  obtain ⟨hP1, hK1, hD1⟩ := hB
  rw [ht] at hP1
  obtain ⟨hP, hD⟩ := va_join (wr := [(q_b, .inr (7, [.ref v, .int (0 : Int32), .int (0 : Int32), .int n]))]) (w1 := ([] : va_W)) hP hD [] [0] rfl rfl (by decide +kernel) (by decide +kernel) hk1 hFc hP1 hD1
  generalize H1 = H at hP hS ⊢
  have hP : va_P D vwCl [(q_b, .inr (7, [.ref v, .int (0 : Int32), .int (0 : Int32), .int n]))] H := hP
  have hD : va_D A [(q_b, .inr (7, [.ref v, .int (0 : Int32), .int (0 : Int32), .int n]))] := hD
  obtain ⟨_, h1⟩ := h1
  subst h1
  refine lv_icmp_eq (tgt := 21) hx hb dJ5_inflateIfNeededFor_a7421_14 (by decide) (fun _ => ?_) (fun hbr => absurd rfl hbr)
  exact hret () (Nat.le_of_ble_eq_true rfl) (Nat.le_of_ble_eq_true rfl) trivial hP hD hS dJ5_inflateIfNeededFor_a7421_21
abbrev rm_J5_putStringAt_47b60 : Room := { frames := 3, cells := 0, slots := 0, locals := 123 }
set_option maxHeartbeats 8000000 in
set_option maxRecDepth 100000 in
theorem c_J5_putStringAt_47b60 (l : Launch) (D : va_G) (X : gX) (cI cZ cB cG : ClassId) (sz : Nat) (w : Nat) (hw : w < 9) (q_b q_v m n : Nat) (c : Int32) (f : Nat → Int32) (h : n + gLen.getD w 0 ≤ m) (hm : m ≤ 802) : Met l yJ5_putStringAt_47b60 wsJ5_putStringAt_47b60 rm_J5_putStringAt_47b60 (gP D X (gT cI cZ cB cG) sz [.ref q_b, .int (nI n), .ref (X.1 w)] [(q_b, .inr (7, [.ref q_v, .int (0 : Int32), .int (0 : Int32), .int c])), (q_v, .inl (cB, m, .inl f))]) (va_Qv (fun (u : Unit) => True) (fun u t => gB D (gT cI cZ cB cG) (va_A [(q_b, .inr (7, [.ref q_v, .int (0 : Int32), .int (0 : Int32), .int c])), (q_v, .inl (cB, m, .inl f))] sz) [(q_b, .inr (7, [.ref q_v, .int (0 : Int32), .int (0 : Int32), .int c])), (q_v, .inl (cB, m, .inl ((va_cpy (fun j => (gByt.getD w []).getD j 0) f 0 n (gLen.getD w 0)))))] t) (va_A [(q_b, .inr (7, [.ref q_v, .int (0 : Int32), .int (0 : Int32), .int c])), (q_v, .inl (cB, m, .inl f))] sz)) 0 0 (va_A [(q_b, .inr (7, [.ref q_v, .int (0 : Int32), .int (0 : Int32), .int c])), (q_v, .inl (cB, m, .inl f))] sz) := by
  refine g_ofMv (post := fun (u : Unit) => True) (W1 := fun (u : Unit) => [(q_b, .inr (7, [.ref q_v, .int (0 : Int32), .int (0 : Int32), .int c])), (q_v, .inl (cB, m, .inl ((va_cpy (fun j => (gByt.getD w []).getD j 0) f 0 n (gLen.getD w 0)))))]) (cc := cJ5_putStringAt_47b60) (maxL := 3) (by decide +kernel) (Nat.le_of_ble_eq_true rfl) rfl ?_
  intro pp ee ss mth args below meth cdx A Q hx hb hml hown hts hini hA hK hE H hP hD hS ls hl hret
  have hl : lv_has ls 3 [(0, .ref q_b), (1, .int (nI n)), (2, .ref (X.1 w))] := hl
  have hinJ4 : ∀ w ∈ u_ws RJ4 TJ4 4, w ∈ wsJ5_putStringAt_47b60 := by decide +kernel
  refine lv_aload_n hx hb dJ5_putStringAt_47b60_0 rfl (lv_at hl 0 rfl) ?_
  refine lv_aload_n hx hb dJ5_putStringAt_47b60_1 rfl (lv_at hl 2 rfl) ?_
  have hPc := hP.sub (ws' := [(q_b, .inr (7, [.ref q_v, .int (0 : Int32), .int (0 : Int32), .int c]))]) [0] rfl
  have hDc := hD.sub (ws' := [(q_b, .inr (7, [.ref q_v, .int (0 : Int32), .int (0 : Int32), .int c]))]) [0] (by decide +kernel) rfl
  have hFc := va_free (wc := [(q_b, .inr (7, [.ref q_v, .int (0 : Int32), .int (0 : Int32), .int c]))]) hD hS hA [0] rfl
  refine va_callv (va_runU (As := [.ref (X.1 w)]) (rest := []) ⟨hx, hb, hml, hown, hts⟩ (c_J5_inflateIfNeededFor_a7421 l D X cI cZ cB cG H.size q_b q_v c w hw) (va_cwU 1 hts gJ5_putStringAt_47b60_J5_inflateIfNeededFor_a7421_u397J4 rfl rfl rfl rfl (by decide +kernel) ⟨Nat.le_of_ble_eq_true rfl, Nat.le_of_ble_eq_true rfl⟩) ⟨g_blind, va_recv hK hP (ci := 7) (q0 := 0) rfl rfl, fun U hU hW => g_side hU hW hPc hK hDc hE hS hFc⟩ rfl rfl hl.1 rfl (lv_room (Nat.le_of_ble_eq_true rfl)) dJ5_putStringAt_47b60_2 ⟨Nat.zero_le _, Nat.zero_le _⟩) hS (fun q _ h => hFc q h) hFc (fun u t H1 locs ht hvm h1 hB hz1 hk1 hS => ?_)
  obtain ⟨hP1, hK1, hD1⟩ := hB
  rw [ht] at hP1
  obtain ⟨hP, hD⟩ := va_join (wr := [(q_v, .inl (cB, m, .inl f))]) (w1 := [(q_b, .inr (7, [.ref q_v, .int (0 : Int32), .int (0 : Int32), .int c]))]) hP hD [0] [1] rfl rfl (by decide +kernel) (by decide +kernel) hk1 hFc hP1 hD1
  generalize H1 = H at hP hS ⊢
  have hP : va_P D vwCl [(q_v, .inl (cB, m, .inl f)), (q_b, .inr (7, [.ref q_v, .int (0 : Int32), .int (0 : Int32), .int c]))] H := hP
  have hD : va_D A [(q_v, .inl (cB, m, .inl f)), (q_b, .inr (7, [.ref q_v, .int (0 : Int32), .int (0 : Int32), .int c]))] := hD
  refine lv_aload_n hx hb dJ5_putStringAt_47b60_5 rfl (lv_at hl 2 rfl) ?_
  refine lv_aload_n hx hb dJ5_putStringAt_47b60_6 rfl (lv_at hl 0 rfl) ?_
  refine va_get (D := D) (ci := 7) (v := .ref q_v) (C := RJ4) (T := TJ4) (N := 4) hx hb hts hinJ4 hown hK hP 1 rfl rfl 0 (by decide) (hts (.fieldLink RJ5 15 "java/lang/AbstractStringBuilder" "value" "[B") (by decide +kernel)) (fun _ h9 => h9) rfl dJ5_putStringAt_47b60_7 ?_
  refine lv_iload_n hx hb dJ5_putStringAt_47b60_10 rfl (lv_at hl 1 rfl) ?_
  refine lv_aload_n hx hb dJ5_putStringAt_47b60_11 rfl (lv_at hl 0 rfl) ?_
  refine va_get (D := D) (ci := 7) (v := .int (0 : Int32)) (C := RJ4) (T := TJ4) (N := 4) hx hb hts hinJ4 hown hK hP 1 rfl rfl 1 (by decide) (hts (.fieldLink RJ5 22 "java/lang/AbstractStringBuilder" "coder" "B") (by decide +kernel)) (fun _ h9 => h9) rfl dJ5_putStringAt_47b60_12 ?_
  have hPc := hP.sub (ws' := [(q_v, .inl (cB, m, .inl f))]) [0] rfl
  have hDc := hD.sub (ws' := [(q_v, .inl (cB, m, .inl f))]) [0] (by decide +kernel) rfl
  have hFc := va_free (wc := [(q_v, .inl (cB, m, .inl f))]) hD hS hA [0] rfl
  refine va_callv (va_runV (As := [.ref q_v, .int (nI n), .int (0 : Int32)]) (rest := []) ⟨hx, hb, hml, hown, hts⟩ (c_J0_getBytes_840e7 l D X cI cZ cB cG H.size w hw q_v m n f h hm) (cwV 3 hts gJ5_putStringAt_47b60_J0_getBytes_840e7 rfl rfl rfl (by decide +kernel) ⟨Nat.le_of_ble_eq_true rfl, Nat.le_of_ble_eq_true rfl⟩) ⟨g_blind, vk_recv hE.2.2.2.2.2.1 hw hS, fun U hU hW => g_side hU hW hPc hK hDc hE hS hFc⟩ rfl rfl hl.1 rfl (lv_room (Nat.le_of_ble_eq_true rfl)) dJ5_putStringAt_47b60_15 ⟨Nat.zero_le _, Nat.zero_le _⟩) hS (fun q _ h => hFc q h) hFc (fun u t H1 locs ht hvm h2 hB hz1 hk1 hS => ?_)
  obtain ⟨hP1, hK1, hD1⟩ := hB
  rw [ht] at hP1
  obtain ⟨hP, hD⟩ := va_join (wr := [(q_b, .inr (7, [.ref q_v, .int (0 : Int32), .int (0 : Int32), .int c]))]) (w1 := [(q_v, .inl (cB, m, .inl ((va_cpy (fun j => (gByt.getD w []).getD j 0) f 0 n (gLen.getD w 0)))))]) hP hD [0] [1] rfl rfl (by decide +kernel) (by decide +kernel) hk1 hFc hP1 hD1
  generalize H1 = H at hP hS ⊢
  have hP : va_P D vwCl [(q_b, .inr (7, [.ref q_v, .int (0 : Int32), .int (0 : Int32), .int c])), (q_v, .inl (cB, m, .inl ((va_cpy (fun j => (gByt.getD w []).getD j 0) f 0 n (gLen.getD w 0)))))] H := hP
  have hD : va_D A [(q_b, .inr (7, [.ref q_v, .int (0 : Int32), .int (0 : Int32), .int c])), (q_v, .inl (cB, m, .inl ((va_cpy (fun j => (gByt.getD w []).getD j 0) f 0 n (gLen.getD w 0)))))] := hD
  have hP := hP.sub (ws' := [(q_b, .inr (7, [.ref q_v, .int (0 : Int32), .int (0 : Int32), .int c])), (q_v, .inl (cB, m, .inl ((va_cpy (fun j => (gByt.getD w []).getD j 0) f 0 n (gLen.getD w 0)))))]) [0, 1] rfl
  have hD := hD.sub (ws' := [(q_b, .inr (7, [.ref q_v, .int (0 : Int32), .int (0 : Int32), .int c])), (q_v, .inl (cB, m, .inl ((va_cpy (fun j => (gByt.getD w []).getD j 0) f 0 n (gLen.getD w 0)))))]) [0, 1] (by decide +kernel) rfl
  exact hret () (Nat.le_of_ble_eq_true rfl) (Nat.le_of_ble_eq_true rfl) trivial hP hD hS dJ5_putStringAt_47b60_18
abbrev rm_J5_append_cf1ce : Room := { frames := 4, cells := 1, slots := 802, locals := 150 }
set_option maxHeartbeats 8000000 in
set_option maxRecDepth 100000 in
theorem c_J5_append_cf1ce (l : Launch) (D : va_G) (X : gX) (cI cZ cB cG : ClassId) (sz : Nat) (w : Nat) (hw : w < 9) (q_b q_v m n : Nat) (f : Nat → Int32) (hf : gF f) (hnm : n ≤ m) (hm : m ≤ 802) (hn : n + gLen.getD w 0 ≤ 400) : Met l yJ5_append_cf1ce wsJ5_append_cf1ce rm_J5_append_cf1ce (gP D X (gT cI cZ cB cG) sz [.ref q_b, .ref (X.1 w)] [(q_b, .inr (7, [.ref q_v, .int (0 : Int32), .int (0 : Int32), .int (nI n)])), (q_v, .inl (cB, m, .inl f))]) (va_Qr (fun (u : Nat × Nat × (Nat → Int32)) => n + gLen.getD w 0 ≤ u.2.1 ∧ u.2.1 ≤ 802 ∧ (∀ j, j < n → u.2.2 j = f j) ∧ (∀ j, j < gLen.getD w 0 → u.2.2 (n + j) = (gByt.getD w []).getD j 0) ∧ gF u.2.2) (fun u a t => a = q_b ∧ gB D (gT cI cZ cB cG) (va_A [(q_b, .inr (7, [.ref q_v, .int (0 : Int32), .int (0 : Int32), .int (nI n)])), (q_v, .inl (cB, m, .inl f))] sz) [(q_b, .inr (7, [.ref u.1, .int (0 : Int32), .int (0 : Int32), .int (nI (n + gLen.getD w 0))])), (u.1, .inl (cB, u.2.1, .inl u.2.2))] t) (va_A [(q_b, .inr (7, [.ref q_v, .int (0 : Int32), .int (0 : Int32), .int (nI n)])), (q_v, .inl (cB, m, .inl f))] sz)) 1 802 (va_A [(q_b, .inr (7, [.ref q_v, .int (0 : Int32), .int (0 : Int32), .int (nI n)])), (q_v, .inl (cB, m, .inl f))] sz) := by
  refine g_ofMs (post := fun (u : Nat × Nat × (Nat → Int32)) => n + gLen.getD w 0 ≤ u.2.1 ∧ u.2.1 ≤ 802 ∧ (∀ j, j < n → u.2.2 j = f j) ∧ (∀ j, j < gLen.getD w 0 → u.2.2 (n + j) = (gByt.getD w []).getD j 0) ∧ gF u.2.2) (W1 := fun (u : Nat × Nat × (Nat → Int32)) => [(q_b, .inr (7, [.ref u.1, .int (0 : Int32), .int (0 : Int32), .int (nI (n + gLen.getD w 0))])), (u.1, .inl (cB, u.2.1, .inl u.2.2))]) (cc := cJ5_append_cf1ce) (maxL := 3) q_b (by decide +kernel) (Nat.le_of_ble_eq_true rfl) rfl (by first | exact Or.inl ⟨_, rfl⟩ | exact Or.inr ⟨_, rfl⟩) ?_
  intro pp ee ss mth args below meth cdx A Q hx hb hml hown hts hini hA hK hE H hP hD hS ls hl hret
  have hl : lv_has ls 3 [(0, .ref q_b), (1, .ref (X.1 w))] := hl
  have hinJ4 : ∀ w ∈ u_ws RJ4 TJ4 4, w ∈ wsJ5_append_cf1ce := by decide +kernel
  have hlw := gl9 w hw
  refine lv_aload_n hx hb dJ5_append_cf1ce_0 rfl (lv_at hl 1 rfl) ?_
  refine lv_ifnonnull (tgt := 9) hx hb dJ5_append_cf1ce_1 (by decide) ?_
  refine lv_aload_n hx hb dJ5_append_cf1ce_9 rfl (lv_at hl 1 rfl) ?_
  have hPc := hP.sub (ws' := ([] : va_W)) [] rfl
  have hDc := hD.sub (ws' := ([] : va_W)) [] (by decide +kernel) rfl
  have hFc := va_free (wc := ([] : va_W)) hD hS hA [] rfl
  refine va_calli (va_runV (As := []) (rest := []) ⟨hx, hb, hml, hown, hts⟩ (c_J0_length_8abf5 l D X cI cZ cB cG H.size w hw) (cwV 0 hts gJ5_append_cf1ce_J0_length_8abf5 rfl rfl rfl (by decide +kernel) ⟨Nat.le_of_ble_eq_true rfl, Nat.le_of_ble_eq_true rfl⟩) ⟨g_blind, vk_recv hE.2.2.2.2.2.1 hw hS, fun U hU hW => g_side hU hW hPc hK hDc hE hS hFc⟩ rfl rfl hl.1 rfl (lv_room (Nat.le_of_ble_eq_true rfl)) dJ5_append_cf1ce_10 ⟨Nat.le_of_ble_eq_true rfl, Nat.le_of_ble_eq_true rfl⟩) hS (fun q _ h => hFc q h) hFc (fun r1 u t H1 locs ht hvm h1 hB hz1 hk1 hS => ?_)
  obtain ⟨hP1, hK1, hD1⟩ := hB
  rw [ht] at hP1
  obtain ⟨hP, hD⟩ := va_join (wr := [(q_b, .inr (7, [.ref q_v, .int (0 : Int32), .int (0 : Int32), .int (nI n)])), (q_v, .inl (cB, m, .inl f))]) (w1 := ([] : va_W)) hP hD [] [0, 1] rfl rfl (by decide +kernel) (by decide +kernel) hk1 hFc hP1 hD1
  generalize H1 = H at hP hS ⊢
  have hP : va_P D vwCl [(q_b, .inr (7, [.ref q_v, .int (0 : Int32), .int (0 : Int32), .int (nI n)])), (q_v, .inl (cB, m, .inl f))] H := hP
  have hD : va_D A [(q_b, .inr (7, [.ref q_v, .int (0 : Int32), .int (0 : Int32), .int (nI n)])), (q_v, .inl (cB, m, .inl f))] := hD
  subst h1
  refine lv_istore_n (lv' := [(2, .int (nI (gLen.getD w 0))), (0, .ref q_b), (1, .ref (X.1 w))]) hx hb dJ5_append_cf1ce_13 rfl hl (by decide) rfl (fun ls hl => ?_)
  refine lv_aload_n hx hb dJ5_append_cf1ce_14 rfl (lv_at hl 1 rfl) ?_
  refine lv_aload_n hx hb dJ5_append_cf1ce_15 rfl (lv_at hl 1 rfl) ?_
  refine va_get (D := D) (ci := 7) (v := .int (nI n)) (C := RJ4) (T := TJ4) (N := 4) hx hb hts hinJ4 hown hK hP 0 rfl rfl 3 (by decide) (hts (.fieldLink RJ5 79 "java/lang/AbstractStringBuilder" "count" "I") (by decide +kernel)) (fun _ h9 => h9) rfl dJ5_append_cf1ce_16 ?_
  refine lv_iload_n hx hb dJ5_append_cf1ce_19 rfl (lv_at hl 0 rfl) ?_
  refine lv_iadd hx hb dJ5_append_cf1ce_20 ?_
  refine W.eq (g2 := F0 mth 21 ls [.int (nI (n + gLen.getD w 0)), .ref q_b]) (by rw [nI_add]) ?_
  have hPc := hP.sub (ws' := [(q_b, .inr (7, [.ref q_v, .int (0 : Int32), .int (0 : Int32), .int (nI n)])), (q_v, .inl (cB, m, .inl f))]) [0, 1] rfl
  have hDc := hD.sub (ws' := [(q_b, .inr (7, [.ref q_v, .int (0 : Int32), .int (0 : Int32), .int (nI n)])), (q_v, .inl (cB, m, .inl f))]) [0, 1] (by decide +kernel) rfl
  have hFc := va_free (wc := [(q_b, .inr (7, [.ref q_v, .int (0 : Int32), .int (0 : Int32), .int (nI n)])), (q_v, .inl (cB, m, .inl f))]) hD hS hA [0, 1] rfl
  refine va_callv (va_runU (As := [.int (nI (n + gLen.getD w 0))]) (rest := []) ⟨hx, hb, hml, hown, hts⟩ (c_J5_ensureCapacityInternal_d00df l D X cI cZ cB cG H.size q_b q_v m (n + gLen.getD w 0) (nI n) f hf hm hn) (va_cwU 1 hts gJ5_append_cf1ce_J5_ensureCapacityInternal_d00df_u100J4 rfl rfl rfl rfl (by decide +kernel) ⟨Nat.le_of_ble_eq_true rfl, Nat.le_of_ble_eq_true rfl⟩) ⟨g_blind, va_recv hK hP (ci := 7) (q0 := 0) rfl rfl, fun U hU hW => g_side hU hW hPc hK hDc hE hS hFc⟩ rfl rfl hl.1 rfl (lv_room (Nat.le_of_ble_eq_true rfl)) dJ5_append_cf1ce_21 ⟨Nat.le_of_ble_eq_true rfl, Nat.le_of_ble_eq_true rfl⟩) hS (fun q _ h => hFc q h) hFc (fun u t H1 locs ht hvm h2 hB hz1 hk1 hS => ?_)
  obtain ⟨v1, m1, f1⟩ := u
  obtain ⟨hP1, hK1, hD1⟩ := hB
  rw [ht] at hP1
  obtain ⟨hP, hD⟩ := va_join (wr := ([] : va_W)) (w1 := [(q_b, .inr (7, [.ref v1, .int (0 : Int32), .int (0 : Int32), .int (nI n)])), (v1, .inl (cB, m1, .inl f1))]) hP hD [0, 1] [] rfl rfl (by decide +kernel) (by decide +kernel) hk1 hFc hP1 hD1
  generalize H1 = H at hP hS ⊢
  have hP : va_P D vwCl [(q_b, .inr (7, [.ref v1, .int (0 : Int32), .int (0 : Int32), .int (nI n)])), (v1, .inl (cB, m1, .inl f1))] H := hP
  have hD : va_D A [(q_b, .inr (7, [.ref v1, .int (0 : Int32), .int (0 : Int32), .int (nI n)])), (v1, .inl (cB, m1, .inl f1))] := hD
  obtain ⟨e1, e2, e3, e4⟩ := h2
  dsimp only at e1 e2 e3 e4
  refine lv_aload_n hx hb dJ5_append_cf1ce_24 rfl (lv_at hl 1 rfl) ?_
  refine lv_aload_n hx hb dJ5_append_cf1ce_25 rfl (lv_at hl 1 rfl) ?_
  refine va_get (D := D) (ci := 7) (v := .int (nI n)) (C := RJ4) (T := TJ4) (N := 4) hx hb hts hinJ4 hown hK hP 0 rfl rfl 3 (by decide) (hts (.fieldLink RJ5 79 "java/lang/AbstractStringBuilder" "count" "I") (by decide +kernel)) (fun _ h9 => h9) rfl dJ5_append_cf1ce_26 ?_
  refine lv_aload_n hx hb dJ5_append_cf1ce_29 rfl (lv_at hl 2 rfl) ?_
  have hPc := hP.sub (ws' := [(q_b, .inr (7, [.ref v1, .int (0 : Int32), .int (0 : Int32), .int (nI n)])), (v1, .inl (cB, m1, .inl f1))]) [0, 1] rfl
  have hDc := hD.sub (ws' := [(q_b, .inr (7, [.ref v1, .int (0 : Int32), .int (0 : Int32), .int (nI n)])), (v1, .inl (cB, m1, .inl f1))]) [0, 1] (by decide +kernel) rfl
  have hFc := va_free (wc := [(q_b, .inr (7, [.ref v1, .int (0 : Int32), .int (0 : Int32), .int (nI n)])), (v1, .inl (cB, m1, .inl f1))]) hD hS hA [0, 1] rfl
  refine va_callv (va_runU (As := [.int (nI n), .ref (X.1 w)]) (rest := []) ⟨hx, hb, hml, hown, hts⟩ (c_J5_putStringAt_47b60 l D X cI cZ cB cG H.size w hw q_b v1 m1 n (nI n) f1 e1 e2) (va_cwU 2 hts gJ5_append_cf1ce_J5_putStringAt_47b60_u208J4 rfl rfl rfl rfl (by decide +kernel) ⟨Nat.le_of_ble_eq_true rfl, Nat.le_of_ble_eq_true rfl⟩) ⟨g_blind, va_recv hK hP (ci := 7) (q0 := 0) rfl rfl, fun U hU hW => g_side hU hW hPc hK hDc hE hS hFc⟩ rfl rfl hl.1 rfl (lv_room (Nat.le_of_ble_eq_true rfl)) dJ5_append_cf1ce_30 ⟨Nat.le_of_ble_eq_true rfl, Nat.le_of_ble_eq_true rfl⟩) hS (fun q _ h => hFc q h) hFc (fun u t H1 locs ht hvm h3 hB hz1 hk1 hS => ?_)
  obtain ⟨hP1, hK1, hD1⟩ := hB
  rw [ht] at hP1
  obtain ⟨hP, hD⟩ := va_join (wr := ([] : va_W)) (w1 := [(q_b, .inr (7, [.ref v1, .int (0 : Int32), .int (0 : Int32), .int (nI n)])), (v1, .inl (cB, m1, .inl ((va_cpy (fun j => (gByt.getD w []).getD j 0) f1 0 n (gLen.getD w 0)))))]) hP hD [0, 1] [] rfl rfl (by decide +kernel) (by decide +kernel) hk1 hFc hP1 hD1
  generalize H1 = H at hP hS ⊢
  have hP : va_P D vwCl [(q_b, .inr (7, [.ref v1, .int (0 : Int32), .int (0 : Int32), .int (nI n)])), (v1, .inl (cB, m1, .inl ((va_cpy (fun j => (gByt.getD w []).getD j 0) f1 0 n (gLen.getD w 0)))))] H := hP
  have hD : va_D A [(q_b, .inr (7, [.ref v1, .int (0 : Int32), .int (0 : Int32), .int (nI n)])), (v1, .inl (cB, m1, .inl ((va_cpy (fun j => (gByt.getD w []).getD j 0) f1 0 n (gLen.getD w 0)))))] := hD
  refine lv_aload_n hx hb dJ5_append_cf1ce_33 rfl (lv_at hl 1 rfl) ?_
  refine lv_dup hx hb dJ5_append_cf1ce_34 rfl ?_
  refine va_get (D := D) (ci := 7) (v := .int (nI n)) (C := RJ4) (T := TJ4) (N := 4) hx hb hts hinJ4 hown hK hP 0 rfl rfl 3 (by decide) (hts (.fieldLink RJ5 79 "java/lang/AbstractStringBuilder" "count" "I") (by decide +kernel)) (fun _ h9 => h9) rfl dJ5_append_cf1ce_35 ?_
  refine lv_iload_n hx hb dJ5_append_cf1ce_38 rfl (lv_at hl 0 rfl) ?_
  refine lv_iadd hx hb dJ5_append_cf1ce_39 ?_
  refine W.eq (g2 := F0 mth 40 ls [.int (nI (n + gLen.getD w 0)), .ref q_b]) (by rw [nI_add]) ?_
  refine va_put (D := D) (ci := 7) (v := .int (nI (n + gLen.getD w 0))) (ty := .int) (C := RJ4) (T := TJ4) (N := 4) hx hb hts hinJ4 tyJ4 tyJ4_ok nmJ4 hown hK hP hD hS 0 rfl rfl 3 (by decide) (hts (.fieldLink RJ5 79 "java/lang/AbstractStringBuilder" "count" "I") (by decide +kernel)) (fun _ h9 => h9) rfl (by decide +kernel) rfl rfl (Nat.le_of_ble_eq_true rfl) dJ5_append_cf1ce_40 (fun H locs hP hD hS => ?_)
  have hP : va_P D vwCl [(q_b, .inr (7, [.ref v1, .int (0 : Int32), .int (0 : Int32), .int (nI (n + gLen.getD w 0))])), (v1, .inl (cB, m1, .inl ((va_cpy (fun j => (gByt.getD w []).getD j 0) f1 0 n (gLen.getD w 0)))))] H := hP
  have hD : va_D A [(q_b, .inr (7, [.ref v1, .int (0 : Int32), .int (0 : Int32), .int (nI (n + gLen.getD w 0))])), (v1, .inl (cB, m1, .inl ((va_cpy (fun j => (gByt.getD w []).getD j 0) f1 0 n (gLen.getD w 0)))))] := hD
  refine lv_aload_n hx hb dJ5_append_cf1ce_43 rfl (lv_at hl 1 rfl) ?_
  exact hret (v1, m1, va_cpy (fun j => (gByt.getD w []).getD j 0) f1 0 n (gLen.getD w 0)) (Nat.le_of_ble_eq_true rfl) (Nat.le_of_ble_eq_true rfl) ⟨e1, e2, fun j hj => by dsimp only; exact (pk_cpy_out (Or.inl hj)).trans (e3 j (by omega)), fun j hj => by dsimp only; rw [pk_cpy_in (by omega) (by omega), Nat.zero_add, Nat.add_sub_cancel_left], gF_cpy (fun j => hlw.2 j) e4⟩ hP hD hS dJ5_append_cf1ce_44
abbrev rm_J4_append_15ec4 : Room := { frames := 5, cells := 1, slots := 802, locals := 172 }
set_option maxHeartbeats 8000000 in
set_option maxRecDepth 100000 in
theorem c_J4_append_15ec4 (l : Launch) (D : va_G) (X : gX) (cI cZ cB cG : ClassId) (sz : Nat) (w : Nat) (hw : w < 9) (q_b q_v m n : Nat) (f : Nat → Int32) (hf : gF f) (hnm : n ≤ m) (hm : m ≤ 802) (hn : n + gLen.getD w 0 ≤ 400) : Met l yJ4_append_15ec4 wsJ4_append_15ec4 rm_J4_append_15ec4 (gP D X (gT cI cZ cB cG) sz [.ref q_b, .ref (X.1 w)] [(q_b, .inr (7, [.ref q_v, .int (0 : Int32), .int (0 : Int32), .int (nI n)])), (q_v, .inl (cB, m, .inl f))]) (va_Qr (fun (u : Nat × Nat × (Nat → Int32)) => n + gLen.getD w 0 ≤ u.2.1 ∧ u.2.1 ≤ 802 ∧ (∀ j, j < n → u.2.2 j = f j) ∧ (∀ j, j < gLen.getD w 0 → u.2.2 (n + j) = (gByt.getD w []).getD j 0) ∧ gF u.2.2) (fun u a t => a = q_b ∧ gB D (gT cI cZ cB cG) (va_A [(q_b, .inr (7, [.ref q_v, .int (0 : Int32), .int (0 : Int32), .int (nI n)])), (q_v, .inl (cB, m, .inl f))] sz) [(q_b, .inr (7, [.ref u.1, .int (0 : Int32), .int (0 : Int32), .int (nI (n + gLen.getD w 0))])), (u.1, .inl (cB, u.2.1, .inl u.2.2))] t) (va_A [(q_b, .inr (7, [.ref q_v, .int (0 : Int32), .int (0 : Int32), .int (nI n)])), (q_v, .inl (cB, m, .inl f))] sz)) 1 802 (va_A [(q_b, .inr (7, [.ref q_v, .int (0 : Int32), .int (0 : Int32), .int (nI n)])), (q_v, .inl (cB, m, .inl f))] sz) := by
  refine g_ofMs (post := fun (u : Nat × Nat × (Nat → Int32)) => n + gLen.getD w 0 ≤ u.2.1 ∧ u.2.1 ≤ 802 ∧ (∀ j, j < n → u.2.2 j = f j) ∧ (∀ j, j < gLen.getD w 0 → u.2.2 (n + j) = (gByt.getD w []).getD j 0) ∧ gF u.2.2) (W1 := fun (u : Nat × Nat × (Nat → Int32)) => [(q_b, .inr (7, [.ref u.1, .int (0 : Int32), .int (0 : Int32), .int (nI (n + gLen.getD w 0))])), (u.1, .inl (cB, u.2.1, .inl u.2.2))]) (cc := cJ4_append_15ec4) (maxL := 2) q_b (by decide +kernel) (Nat.le_of_ble_eq_true rfl) rfl (by first | exact Or.inl ⟨_, rfl⟩ | exact Or.inr ⟨_, rfl⟩) ?_
  intro pp ee ss mth args below meth cdx A Q hx hb hml hown hts hini hA hK hE H hP hD hS ls hl hret
  have hl : lv_has ls 2 [(0, .ref q_b), (1, .ref (X.1 w))] := hl
  refine lv_aload_n hx hb dJ4_append_15ec4_0 rfl (lv_at hl 0 rfl) ?_
  refine lv_aload_n hx hb dJ4_append_15ec4_1 rfl (lv_at hl 1 rfl) ?_
  have hPc := hP.sub (ws' := [(q_b, .inr (7, [.ref q_v, .int (0 : Int32), .int (0 : Int32), .int (nI n)])), (q_v, .inl (cB, m, .inl f))]) [0, 1] rfl
  have hDc := hD.sub (ws' := [(q_b, .inr (7, [.ref q_v, .int (0 : Int32), .int (0 : Int32), .int (nI n)])), (q_v, .inl (cB, m, .inl f))]) [0, 1] (by decide +kernel) rfl
  have hFc := va_free (wc := [(q_b, .inr (7, [.ref q_v, .int (0 : Int32), .int (0 : Int32), .int (nI n)])), (q_v, .inl (cB, m, .inl f))]) hD hS hA [0, 1] rfl
  refine va_callr (va_runSU (As := [.ref (X.1 w)]) (rest := []) (hK.1 7 _ rfl).2 ⟨hx, hb, hml, hown, hts⟩ (c_J5_append_cf1ce l D X cI cZ cB cG H.size w hw q_b q_v m n f hf hnm hm hn) (va_cwSU 1 hts gJ4_append_15ec4_J5_append_cf1ce_s29 rfl rfl rfl (by decide +kernel) ⟨Nat.le_of_ble_eq_true rfl, Nat.le_of_ble_eq_true rfl⟩) ⟨g_blind, va_recv hK hP (ci := 7) (q0 := 0) rfl rfl, fun U hU hW => g_side hU hW hPc hK hDc hE hS hFc⟩ rfl rfl hl.1 rfl (lv_room (Nat.le_of_ble_eq_true rfl)) dJ4_append_15ec4_2 ⟨Nat.le_of_ble_eq_true rfl, Nat.le_of_ble_eq_true rfl⟩) hS (fun q _ h => hFc q h) hFc (fun u r1 t H1 locs ht hvm h1 hB hz1 hk1 hS => ?_)
  obtain ⟨v1, m1, f1⟩ := u
  obtain ⟨hb9, hP1, hK1, hD1⟩ := hB
  have hb9 := hb9.symm
  subst hb9
  rw [ht] at hP1
  obtain ⟨hP, hD⟩ := va_join (wr := ([] : va_W)) (w1 := [(q_b, .inr (7, [.ref v1, .int (0 : Int32), .int (0 : Int32), .int (nI (n + gLen.getD w 0))])), (v1, .inl (cB, m1, .inl f1))]) hP hD [0, 1] [] rfl rfl (by decide +kernel) (by decide +kernel) hk1 hFc hP1 hD1
  generalize H1 = H at hP hS ⊢
  have hP : va_P D vwCl [(q_b, .inr (7, [.ref v1, .int (0 : Int32), .int (0 : Int32), .int (nI (n + gLen.getD w 0))])), (v1, .inl (cB, m1, .inl f1))] H := hP
  have hD : va_D A [(q_b, .inr (7, [.ref v1, .int (0 : Int32), .int (0 : Int32), .int (nI (n + gLen.getD w 0))])), (v1, .inl (cB, m1, .inl f1))] := hD
  refine lv_pop hx hb dJ4_append_15ec4_5 rfl ?_
  refine lv_aload_n hx hb dJ4_append_15ec4_6 rfl (lv_at hl 0 rfl) ?_
  exact hret (v1, m1, f1) (Nat.le_of_ble_eq_true rfl) (Nat.le_of_ble_eq_true rfl) h1 hP hD hS dJ4_append_15ec4_7
abbrev rm_J4_append_cf1ce : Room := { frames := 6, cells := 1, slots := 802, locals := 193 }
set_option maxHeartbeats 8000000 in
set_option maxRecDepth 100000 in
theorem c_J4_append_cf1ce (l : Launch) (D : va_G) (X : gX) (cI cZ cB cG : ClassId) (sz : Nat) (w : Nat) (hw : w < 9) (q_b q_v m n : Nat) (f : Nat → Int32) (hf : gF f) (hnm : n ≤ m) (hm : m ≤ 802) (hn : n + gLen.getD w 0 ≤ 400) : Met l yJ4_append_cf1ce wsJ4_append_cf1ce rm_J4_append_cf1ce (gP D X (gT cI cZ cB cG) sz [.ref q_b, .ref (X.1 w)] [(q_b, .inr (7, [.ref q_v, .int (0 : Int32), .int (0 : Int32), .int (nI n)])), (q_v, .inl (cB, m, .inl f))]) (va_Qr (fun (u : Nat × Nat × (Nat → Int32)) => n + gLen.getD w 0 ≤ u.2.1 ∧ u.2.1 ≤ 802 ∧ (∀ j, j < n → u.2.2 j = f j) ∧ (∀ j, j < gLen.getD w 0 → u.2.2 (n + j) = (gByt.getD w []).getD j 0) ∧ gF u.2.2) (fun u a t => a = q_b ∧ gB D (gT cI cZ cB cG) (va_A [(q_b, .inr (7, [.ref q_v, .int (0 : Int32), .int (0 : Int32), .int (nI n)])), (q_v, .inl (cB, m, .inl f))] sz) [(q_b, .inr (7, [.ref u.1, .int (0 : Int32), .int (0 : Int32), .int (nI (n + gLen.getD w 0))])), (u.1, .inl (cB, u.2.1, .inl u.2.2))] t) (va_A [(q_b, .inr (7, [.ref q_v, .int (0 : Int32), .int (0 : Int32), .int (nI n)])), (q_v, .inl (cB, m, .inl f))] sz)) 1 802 (va_A [(q_b, .inr (7, [.ref q_v, .int (0 : Int32), .int (0 : Int32), .int (nI n)])), (q_v, .inl (cB, m, .inl f))] sz) := by
  refine g_ofMs (post := fun (u : Nat × Nat × (Nat → Int32)) => n + gLen.getD w 0 ≤ u.2.1 ∧ u.2.1 ≤ 802 ∧ (∀ j, j < n → u.2.2 j = f j) ∧ (∀ j, j < gLen.getD w 0 → u.2.2 (n + j) = (gByt.getD w []).getD j 0) ∧ gF u.2.2) (W1 := fun (u : Nat × Nat × (Nat → Int32)) => [(q_b, .inr (7, [.ref u.1, .int (0 : Int32), .int (0 : Int32), .int (nI (n + gLen.getD w 0))])), (u.1, .inl (cB, u.2.1, .inl u.2.2))]) (cc := cJ4_append_cf1ce) (maxL := 2) q_b (by decide +kernel) (Nat.le_of_ble_eq_true rfl) rfl (by first | exact Or.inl ⟨_, rfl⟩ | exact Or.inr ⟨_, rfl⟩) ?_
  intro pp ee ss mth args below meth cdx A Q hx hb hml hown hts hini hA hK hE H hP hD hS ls hl hret
  have hl : lv_has ls 2 [(0, .ref q_b), (1, .ref (X.1 w))] := hl
  refine lv_aload_n hx hb dJ4_append_cf1ce_0 rfl (lv_at hl 0 rfl) ?_
  refine lv_aload_n hx hb dJ4_append_cf1ce_1 rfl (lv_at hl 1 rfl) ?_
  have hPc := hP.sub (ws' := [(q_b, .inr (7, [.ref q_v, .int (0 : Int32), .int (0 : Int32), .int (nI n)])), (q_v, .inl (cB, m, .inl f))]) [0, 1] rfl
  have hDc := hD.sub (ws' := [(q_b, .inr (7, [.ref q_v, .int (0 : Int32), .int (0 : Int32), .int (nI n)])), (q_v, .inl (cB, m, .inl f))]) [0, 1] (by decide +kernel) rfl
  have hFc := va_free (wc := [(q_b, .inr (7, [.ref q_v, .int (0 : Int32), .int (0 : Int32), .int (nI n)])), (q_v, .inl (cB, m, .inl f))]) hD hS hA [0, 1] rfl
  refine va_callr (va_runV (As := [.ref (X.1 w)]) (rest := []) ⟨hx, hb, hml, hown, hts⟩ (c_J4_append_15ec4 l D X cI cZ cB cG H.size w hw q_b q_v m n f hf hnm hm hn) (cwV 1 hts gJ4_append_cf1ce_J4_append_15ec4 rfl rfl rfl (by decide +kernel) ⟨Nat.le_of_ble_eq_true rfl, Nat.le_of_ble_eq_true rfl⟩) ⟨g_blind, va_recv hK hP (ci := 7) (q0 := 0) rfl rfl, fun U hU hW => g_side hU hW hPc hK hDc hE hS hFc⟩ rfl rfl hl.1 rfl (lv_room (Nat.le_of_ble_eq_true rfl)) dJ4_append_cf1ce_2 ⟨Nat.le_of_ble_eq_true rfl, Nat.le_of_ble_eq_true rfl⟩) hS (fun q _ h => hFc q h) hFc (fun u r1 t H1 locs ht hvm h1 hB hz1 hk1 hS => ?_)
  obtain ⟨v1, m1, f1⟩ := u
  obtain ⟨hb9, hP1, hK1, hD1⟩ := hB
  have hb9 := hb9.symm
  subst hb9
  rw [ht] at hP1
  obtain ⟨hP, hD⟩ := va_join (wr := ([] : va_W)) (w1 := [(q_b, .inr (7, [.ref v1, .int (0 : Int32), .int (0 : Int32), .int (nI (n + gLen.getD w 0))])), (v1, .inl (cB, m1, .inl f1))]) hP hD [0, 1] [] rfl rfl (by decide +kernel) (by decide +kernel) hk1 hFc hP1 hD1
  generalize H1 = H at hP hS ⊢
  have hP : va_P D vwCl [(q_b, .inr (7, [.ref v1, .int (0 : Int32), .int (0 : Int32), .int (nI (n + gLen.getD w 0))])), (v1, .inl (cB, m1, .inl f1))] H := hP
  have hD : va_D A [(q_b, .inr (7, [.ref v1, .int (0 : Int32), .int (0 : Int32), .int (nI (n + gLen.getD w 0))])), (v1, .inl (cB, m1, .inl f1))] := hD
  exact hret (v1, m1, f1) (Nat.le_of_ble_eq_true rfl) (Nat.le_of_ble_eq_true rfl) h1 hP hD hS dJ4_append_cf1ce_5
abbrev rm_J5_init_a7421 : Room := { frames := 7, cells := 2, slots := 830, locals := 214 }
set_option maxHeartbeats 8000000 in
set_option maxRecDepth 100000 in
theorem c_J5_init_a7421 (l : Launch) (D : va_G) (X : gX) (cI cZ cB cG : ClassId) (sz : Nat) (w : Nat) (hw : w < 9) (q_b : Nat) : Met l yJ5_init_a7421 wsJ5_init_a7421 rm_J5_init_a7421 (gP D X (gT cI cZ cB cG) sz [.ref q_b, .ref (X.1 w)] [(q_b, .inr (7, [.null, .int (0 : Int32), .int (0 : Int32), .int (0 : Int32)]))]) (va_Qv (fun (u : Nat × Nat × (Nat → Int32)) => gLen.getD w 0 ≤ u.2.1 ∧ u.2.1 ≤ 802 ∧ (∀ j, j < gLen.getD w 0 → u.2.2 j = (gByt.getD w []).getD j 0) ∧ gF u.2.2) (fun u t => gB D (gT cI cZ cB cG) (va_A [(q_b, .inr (7, [.null, .int (0 : Int32), .int (0 : Int32), .int (0 : Int32)]))] sz) [(q_b, .inr (7, [.ref u.1, .int (0 : Int32), .int (0 : Int32), .int (nI (gLen.getD w 0))])), (u.1, .inl (cB, u.2.1, .inl u.2.2))] t) (va_A [(q_b, .inr (7, [.null, .int (0 : Int32), .int (0 : Int32), .int (0 : Int32)]))] sz)) 2 830 (va_A [(q_b, .inr (7, [.null, .int (0 : Int32), .int (0 : Int32), .int (0 : Int32)]))] sz) := by
  refine g_ofMv (post := fun (u : Nat × Nat × (Nat → Int32)) => gLen.getD w 0 ≤ u.2.1 ∧ u.2.1 ≤ 802 ∧ (∀ j, j < gLen.getD w 0 → u.2.2 j = (gByt.getD w []).getD j 0) ∧ gF u.2.2) (W1 := fun (u : Nat × Nat × (Nat → Int32)) => [(q_b, .inr (7, [.ref u.1, .int (0 : Int32), .int (0 : Int32), .int (nI (gLen.getD w 0))])), (u.1, .inl (cB, u.2.1, .inl u.2.2))]) (cc := cJ5_init_a7421) (maxL := 5) (by decide +kernel) (Nat.le_of_ble_eq_true rfl) rfl ?_
  intro pp ee ss mth args below meth cdx A Q hx hb hml hown hts hini hA hK hE H hP hD hS ls hl hret
  have hl : lv_has ls 5 [(0, .ref q_b), (1, .ref (X.1 w))] := hl
  have hinJ4 : ∀ w ∈ u_ws RJ4 TJ4 4, w ∈ wsJ5_init_a7421 := by decide +kernel
  have hlw := gl9 w hw
  refine lv_aload_n hx hb dJ5_init_a7421_0 rfl (lv_at hl 0 rfl) ?_
  refine W.objInit hx hb hown (hts (.methodLink RJ5 3 objectInit) (by decide +kernel)) (hts (.instanceMethod objectInit) (by decide +kernel)) (hts (.code objectInit ⟨#[0xb1]⟩ 1 none) (by decide +kernel)) rfl (by rw [hml]; exact hl.1) rfl dJ5_init_a7421_1 (Nat.le_of_ble_eq_true rfl) (Nat.le_of_ble_eq_true rfl) ?_
  refine W.eq (g2 := F0 mth 4 ls []) rfl ?_
  refine lv_aload_n hx hb dJ5_init_a7421_4 rfl (lv_at hl 1 rfl) ?_
  have hPc := hP.sub (ws' := ([] : va_W)) [] rfl
  have hDc := hD.sub (ws' := ([] : va_W)) [] (by decide +kernel) rfl
  have hFc := va_free (wc := ([] : va_W)) hD hS hA [] rfl
  refine va_calli (va_runV (As := []) (rest := []) ⟨hx, hb, hml, hown, hts⟩ (c_J0_length_8abf5 l D X cI cZ cB cG H.size w hw) (cwV 0 hts gJ5_init_a7421_J0_length_8abf5 rfl rfl rfl (by decide +kernel) ⟨Nat.le_of_ble_eq_true rfl, Nat.le_of_ble_eq_true rfl⟩) ⟨g_blind, vk_recv hE.2.2.2.2.2.1 hw hS, fun U hU hW => g_side hU hW hPc hK hDc hE hS hFc⟩ rfl rfl hl.1 rfl (lv_room (Nat.le_of_ble_eq_true rfl)) dJ5_init_a7421_5 ⟨Nat.le_of_ble_eq_true rfl, Nat.le_of_ble_eq_true rfl⟩) hS (fun q _ h => hFc q h) hFc (fun r1 u t H1 locs ht hvm h1 hB hz1 hk1 hS => ?_)
  obtain ⟨hP1, hK1, hD1⟩ := hB
  rw [ht] at hP1
  obtain ⟨hP, hD⟩ := va_join (wr := [(q_b, .inr (7, [.null, .int (0 : Int32), .int (0 : Int32), .int (0 : Int32)]))]) (w1 := ([] : va_W)) hP hD [] [0] rfl rfl (by decide +kernel) (by decide +kernel) hk1 hFc hP1 hD1
  generalize H1 = H at hP hS ⊢
  have hP : va_P D vwCl [(q_b, .inr (7, [.null, .int (0 : Int32), .int (0 : Int32), .int (0 : Int32)]))] H := hP
  have hD : va_D A [(q_b, .inr (7, [.null, .int (0 : Int32), .int (0 : Int32), .int (0 : Int32)]))] := hD
  subst h1
  refine lv_istore_n (lv' := [(2, .int (nI (gLen.getD w 0))), (0, .ref q_b), (1, .ref (X.1 w))]) hx hb dJ5_init_a7421_8 rfl hl (by decide) rfl (fun ls hl => ?_)
  refine lv_iload_n hx hb dJ5_init_a7421_9 rfl (lv_at hl 0 rfl) ?_
  refine lv_ldc (v := (2147483631 : Int32)) hx hb hown (hts (.constant RJ5 38 (2147483631)) (by decide +kernel)) dJ5_init_a7421_10 ?_
  refine lv_icmp_ge (tgt := 22) hx hb dJ5_init_a7421_12 (by decide) (fun hbr => absurd hbr ((show ¬ nI 2147483631 ≤ nI (gLen.getD w 0) from nI_ge (by omega) (by decide)))) (fun _ => ?_)
  refine lv_iload_n hx hb dJ5_init_a7421_15 rfl (lv_at hl 0 rfl) ?_
  refine lv_bipush (v := (16 : Int32)) hx hb dJ5_init_a7421_16 (by decide) ?_
  refine lv_iadd hx hb dJ5_init_a7421_18 ?_
  refine W.eq (g2 := F0 mth 19 ls [.int (nI (gLen.getD w 0 + 16))]) (by rw [show nI (gLen.getD w 0) + 16 = nI (gLen.getD w 0 + 16) from nI_add _ 16]) ?_
  refine lv_goto (tgt := 24) hx hb dJ5_init_a7421_19 (by decide) ?_
  refine lv_istore_n (lv' := [(3, .int (nI (gLen.getD w 0 + 16))), (2, .int (nI (gLen.getD w 0))), (0, .ref q_b), (1, .ref (X.1 w))]) hx hb dJ5_init_a7421_24 rfl hl (by decide) rfl (fun ls hl => ?_)
  refine lv_aload_n hx hb dJ5_init_a7421_25 rfl (lv_at hl 3 rfl) ?_
  have hPc := hP.sub (ws' := ([] : va_W)) [] rfl
  have hDc := hD.sub (ws' := ([] : va_W)) [] (by decide +kernel) rfl
  have hFc := va_free (wc := ([] : va_W)) hD hS hA [] rfl
  refine va_calli (va_runV (As := []) (rest := []) ⟨hx, hb, hml, hown, hts⟩ (c_J0_coder_7d493 l D X cI cZ cB cG H.size w hw) (cwV 0 hts gJ5_init_a7421_J0_coder_7d493 rfl rfl rfl (by decide +kernel) ⟨Nat.le_of_ble_eq_true rfl, Nat.le_of_ble_eq_true rfl⟩) ⟨g_blind, vk_recv hE.2.2.2.2.2.1 hw hS, fun U hU hW => g_side hU hW hPc hK hDc hE hS hFc⟩ rfl rfl hl.1 rfl (lv_room (Nat.le_of_ble_eq_true rfl)) dJ5_init_a7421_26 ⟨Nat.le_of_ble_eq_true rfl, Nat.le_of_ble_eq_true rfl⟩) hS (fun q _ h => hFc q h) hFc (fun r2 u t H1 locs ht hvm h2 hB hz1 hk1 hS => ?_)
  obtain ⟨hP1, hK1, hD1⟩ := hB
  rw [ht] at hP1
  obtain ⟨hP, hD⟩ := va_join (wr := [(q_b, .inr (7, [.null, .int (0 : Int32), .int (0 : Int32), .int (0 : Int32)]))]) (w1 := ([] : va_W)) hP hD [] [0] rfl rfl (by decide +kernel) (by decide +kernel) hk1 hFc hP1 hD1
  generalize H1 = H at hP hS ⊢
  have hP : va_P D vwCl [(q_b, .inr (7, [.null, .int (0 : Int32), .int (0 : Int32), .int (0 : Int32)]))] H := hP
  have hD : va_D A [(q_b, .inr (7, [.null, .int (0 : Int32), .int (0 : Int32), .int (0 : Int32)]))] := hD
  obtain ⟨_, h2⟩ := h2
  subst h2
  refine lv_istore (lv' := [(4, .int (0 : Int32)), (3, .int (nI (gLen.getD w 0 + 16))), (2, .int (nI (gLen.getD w 0))), (0, .ref q_b), (1, .ref (X.1 w))]) hx hb dJ5_init_a7421_29 hl (by decide) rfl (fun ls hl => ?_)
  refine lv_aload_n hx hb dJ5_init_a7421_31 rfl (lv_at hl 3 rfl) ?_
  refine lv_iload hx hb dJ5_init_a7421_32 (lv_at hl 0 rfl) ?_
  refine va_put (D := D) (ci := 7) (v := .int (0 : Int32)) (ty := .byte) (C := RJ4) (T := TJ4) (N := 4) hx hb hts hinJ4 tyJ4 tyJ4_ok nmJ4 hown hK hP hD hS 0 rfl rfl 1 (by decide) (hts (.fieldLink RJ5 22 "java/lang/AbstractStringBuilder" "coder" "B") (by decide +kernel)) (fun _ h9 => h9) rfl (by decide +kernel) (by decide) (by decide) (Nat.le_of_ble_eq_true rfl) dJ5_init_a7421_34 (fun H locs hP hD hS => ?_)
  have hP : va_P D vwCl [(q_b, .inr (7, [.null, .int (0 : Int32), .int (0 : Int32), .int (0 : Int32)]))] H := hP
  have hD : va_D A [(q_b, .inr (7, [.null, .int (0 : Int32), .int (0 : Int32), .int (0 : Int32)]))] := hD
  refine lv_aload_n hx hb dJ5_init_a7421_37 rfl (lv_at hl 3 rfl) ?_
  refine lv_iload hx hb dJ5_init_a7421_38 (lv_at hl 0 rfl) ?_
  refine lv_if_ne (tgt := 49) hx hb dJ5_init_a7421_40 (by decide) (fun hbr => absurd rfl hbr) (fun _ => ?_)
  refine lv_iload_n hx hb dJ5_init_a7421_43 rfl (lv_at hl 1 rfl) ?_
  refine g_newa (atype := .byte) (a0 := ((gLen.getD w 0 + 16), .inl (fun _ => (0 : Int32)))) (N' := (gLen.getD w 0 + 16)) hx hb (hts (.arrayClass .byte) (by decide +kernel)) rfl 2 rfl hK hP hD hS hA (fun _ => rfl) (nI_pos (by omega)) (nI_clamp (by omega)) (show (gLen.getD w 0 + 16) * 1 ≤ 536870912 by omega) (Nat.le_of_ble_eq_true rfl) (show 0 + (gLen.getD w 0 + 16) ≤ 830 by omega) dJ5_init_a7421_44 (fun q_n H hP hD hS => ?_)
  have hP : va_P D vwCl [(q_b, .inr (7, [.null, .int (0 : Int32), .int (0 : Int32), .int (0 : Int32)])), (q_n, .inl (cB, (gLen.getD w 0 + 16), .inl ((fun _ => (0 : Int32)))))] H := hP
  have hD : va_D A [(q_b, .inr (7, [.null, .int (0 : Int32), .int (0 : Int32), .int (0 : Int32)])), (q_n, .inl (cB, (gLen.getD w 0 + 16), .inl ((fun _ => (0 : Int32)))))] := hD
  refine lv_goto (tgt := 53) hx hb dJ5_init_a7421_46 (by decide) ?_
  refine va_put (D := D) (ci := 7) (v := .ref q_n) (ty := (.array .byte)) (C := RJ4) (T := TJ4) (N := 4) hx hb hts hinJ4 tyJ4 tyJ4_ok nmJ4 hown hK hP hD hS 0 rfl rfl 0 (by decide) (hts (.fieldLink RJ5 15 "java/lang/AbstractStringBuilder" "value" "[B") (by decide +kernel)) (fun _ h9 => h9) rfl (by decide +kernel) rfl rfl (Nat.le_of_ble_eq_true rfl) dJ5_init_a7421_53 (fun H locs hP hD hS => ?_)
  have hP : va_P D vwCl [(q_b, .inr (7, [.ref q_n, .int (0 : Int32), .int (0 : Int32), .int (0 : Int32)])), (q_n, .inl (cB, (gLen.getD w 0 + 16), .inl ((fun _ => (0 : Int32)))))] H := hP
  have hD : va_D A [(q_b, .inr (7, [.ref q_n, .int (0 : Int32), .int (0 : Int32), .int (0 : Int32)])), (q_n, .inl (cB, (gLen.getD w 0 + 16), .inl ((fun _ => (0 : Int32)))))] := hD
  refine lv_aload_n hx hb dJ5_init_a7421_56 rfl (lv_at hl 3 rfl) ?_
  refine lv_aload_n hx hb dJ5_init_a7421_57 rfl (lv_at hl 4 rfl) ?_
  have hPc := hP.sub (ws' := [(q_b, .inr (7, [.ref q_n, .int (0 : Int32), .int (0 : Int32), .int (0 : Int32)])), (q_n, .inl (cB, (gLen.getD w 0 + 16), .inl ((fun _ => (0 : Int32)))))]) [0, 1] rfl
  have hDc := hD.sub (ws' := [(q_b, .inr (7, [.ref q_n, .int (0 : Int32), .int (0 : Int32), .int (0 : Int32)])), (q_n, .inl (cB, (gLen.getD w 0 + 16), .inl ((fun _ => (0 : Int32)))))]) [0, 1] (by decide +kernel) rfl
  have hFc := va_free (wc := [(q_b, .inr (7, [.ref q_n, .int (0 : Int32), .int (0 : Int32), .int (0 : Int32)])), (q_n, .inl (cB, (gLen.getD w 0 + 16), .inl ((fun _ => (0 : Int32)))))]) hD hS hA [0, 1] rfl
  refine va_callr (va_runU (As := [.ref (X.1 w)]) (rest := []) ⟨hx, hb, hml, hown, hts⟩ (c_J4_append_cf1ce l D X cI cZ cB cG H.size w hw q_b q_n (gLen.getD w 0 + 16) 0 (fun _ => (0 : Int32)) gF_0 (Nat.zero_le _) (by omega) (by omega)) (va_cwO 1 hts gJ5_init_a7421_J4_append_cf1ce_u43J4 rfl rfl rfl (show Cond.code yJ5_append_cf1ce cJ5_append_cf1ce 3 (some (.object "java/lang/AbstractStringBuilder")) ∈ wsJ5_init_a7421 by decide +kernel) (by decide +kernel) ⟨Nat.le_of_ble_eq_true rfl, Nat.le_of_ble_eq_true rfl⟩) ⟨g_blind, va_recv hK hP (ci := 7) (q0 := 0) rfl rfl, fun U hU hW => g_side hU hW hPc hK hDc hE hS hFc⟩ rfl rfl hl.1 rfl (lv_room (Nat.le_of_ble_eq_true rfl)) dJ5_init_a7421_58 ⟨Nat.le_of_ble_eq_true rfl, (show 0 + (gLen.getD w 0 + 16) + 802 ≤ 830 by omega)⟩) hS (fun q _ h => hFc q h) hFc (fun u r3 t H1 locs ht hvm h3 hB hz1 hk1 hS => ?_)
  obtain ⟨v1, m1, f1⟩ := u
  obtain ⟨hb9, hP1, hK1, hD1⟩ := hB
  have hb9 := hb9.symm
  subst hb9
  rw [ht] at hP1
  obtain ⟨hP, hD⟩ := va_join (wr := ([] : va_W)) (w1 := [(q_b, .inr (7, [.ref v1, .int (0 : Int32), .int (0 : Int32), .int (nI (0 + gLen.getD w 0))])), (v1, .inl (cB, m1, .inl f1))]) hP hD [0, 1] [] rfl rfl (by decide +kernel) (by decide +kernel) hk1 hFc hP1 hD1
  generalize H1 = H at hP hS ⊢
  have hP : va_P D vwCl [(q_b, .inr (7, [.ref v1, .int (0 : Int32), .int (0 : Int32), .int (nI (0 + gLen.getD w 0))])), (v1, .inl (cB, m1, .inl f1))] H := hP
  have hD : va_D A [(q_b, .inr (7, [.ref v1, .int (0 : Int32), .int (0 : Int32), .int (nI (0 + gLen.getD w 0))])), (v1, .inl (cB, m1, .inl f1))] := hD
  obtain ⟨e1, e2, e3, e4, e5⟩ := h3
  dsimp only at e1 e2 e3 e4 e5
  refine lv_pop hx hb dJ5_init_a7421_61 rfl ?_
  rw [Nat.zero_add] at hP hD e1
  have hP : va_P D vwCl [(q_b, .inr (7, [.ref v1, .int (0 : Int32), .int (0 : Int32), .int (nI (gLen.getD w 0))])), (v1, .inl (cB, m1, .inl f1))] H := hP
  have hD : va_D A [(q_b, .inr (7, [.ref v1, .int (0 : Int32), .int (0 : Int32), .int (nI (gLen.getD w 0))])), (v1, .inl (cB, m1, .inl f1))] := hD
  exact hret (v1, m1, f1) (Nat.le_of_ble_eq_true rfl) (show 0 + (gLen.getD w 0 + 16) + 802 ≤ 830 by omega) ⟨e1, e2, fun j hj => by rw [← e4 j hj, Nat.zero_add], e5⟩ hP hD hS dJ5_init_a7421_62
abbrev rm_J4_init_a7421 : Room := { frames := 8, cells := 2, slots := 830, locals := 238 }
set_option maxHeartbeats 8000000 in
set_option maxRecDepth 100000 in
theorem c_J4_init_a7421 (l : Launch) (D : va_G) (X : gX) (cI cZ cB cG : ClassId) (sz : Nat) (w : Nat) (hw : w < 9) (q_b : Nat) : Met l yJ4_init_a7421 wsJ4_init_a7421 rm_J4_init_a7421 (gP D X (gT cI cZ cB cG) sz [.ref q_b, .ref (X.1 w)] [(q_b, .inr (7, [.null, .int (0 : Int32), .int (0 : Int32), .int (0 : Int32)]))]) (va_Qv (fun (u : Nat × Nat × (Nat → Int32)) => gLen.getD w 0 ≤ u.2.1 ∧ u.2.1 ≤ 802 ∧ (∀ j, j < gLen.getD w 0 → u.2.2 j = (gByt.getD w []).getD j 0) ∧ gF u.2.2) (fun u t => gB D (gT cI cZ cB cG) (va_A [(q_b, .inr (7, [.null, .int (0 : Int32), .int (0 : Int32), .int (0 : Int32)]))] sz) [(q_b, .inr (7, [.ref u.1, .int (0 : Int32), .int (0 : Int32), .int (nI (gLen.getD w 0))])), (u.1, .inl (cB, u.2.1, .inl u.2.2))] t) (va_A [(q_b, .inr (7, [.null, .int (0 : Int32), .int (0 : Int32), .int (0 : Int32)]))] sz)) 2 830 (va_A [(q_b, .inr (7, [.null, .int (0 : Int32), .int (0 : Int32), .int (0 : Int32)]))] sz) := by
  refine g_ofMv (post := fun (u : Nat × Nat × (Nat → Int32)) => gLen.getD w 0 ≤ u.2.1 ∧ u.2.1 ≤ 802 ∧ (∀ j, j < gLen.getD w 0 → u.2.2 j = (gByt.getD w []).getD j 0) ∧ gF u.2.2) (W1 := fun (u : Nat × Nat × (Nat → Int32)) => [(q_b, .inr (7, [.ref u.1, .int (0 : Int32), .int (0 : Int32), .int (nI (gLen.getD w 0))])), (u.1, .inl (cB, u.2.1, .inl u.2.2))]) (cc := cJ4_init_a7421) (maxL := 2) (by decide +kernel) (Nat.le_of_ble_eq_true rfl) rfl ?_
  intro pp ee ss mth args below meth cdx A Q hx hb hml hown hts hini hA hK hE H hP hD hS ls hl hret
  have hl : lv_has ls 2 [(0, .ref q_b), (1, .ref (X.1 w))] := hl
  refine lv_aload_n hx hb dJ4_init_a7421_0 rfl (lv_at hl 0 rfl) ?_
  refine lv_aload_n hx hb dJ4_init_a7421_1 rfl (lv_at hl 1 rfl) ?_
  have hPc := hP.sub (ws' := [(q_b, .inr (7, [.null, .int (0 : Int32), .int (0 : Int32), .int (0 : Int32)]))]) [0] rfl
  have hDc := hD.sub (ws' := [(q_b, .inr (7, [.null, .int (0 : Int32), .int (0 : Int32), .int (0 : Int32)]))]) [0] (by decide +kernel) rfl
  have hFc := va_free (wc := [(q_b, .inr (7, [.null, .int (0 : Int32), .int (0 : Int32), .int (0 : Int32)]))]) hD hS hA [0] rfl
  refine va_callv (va_runI (As := [.ref (X.1 w)]) (rest := []) ⟨hx, hb, hml, hown, hts⟩ (c_J5_init_a7421 l D X cI cZ cB cG H.size w hw q_b) (cwI 1 hts gJ4_init_a7421_J5_init_a7421 rfl rfl rfl (hts (.initialized RJ5) (by decide +kernel)) (hts (.methodLink RJ4 7 yJ5_init_a7421) (by decide +kernel)) (hts (.instanceMethod yJ5_init_a7421) (by decide +kernel)) rfl (by decide +kernel) ⟨Nat.le_of_ble_eq_true rfl, Nat.le_of_ble_eq_true rfl⟩) ⟨g_blind, fun U hU hW => g_side hU hW hPc hK hDc hE hS hFc⟩ rfl rfl hl.1 rfl (lv_room (Nat.le_of_ble_eq_true rfl)) dJ4_init_a7421_2 ⟨Nat.le_of_ble_eq_true rfl, Nat.le_of_ble_eq_true rfl⟩) hS (fun q _ h => hFc q h) hFc (fun u t H1 locs ht hvm h1 hB hz1 hk1 hS => ?_)
  obtain ⟨v1, m1, f1⟩ := u
  obtain ⟨hP1, hK1, hD1⟩ := hB
  rw [ht] at hP1
  obtain ⟨hP, hD⟩ := va_join (wr := ([] : va_W)) (w1 := [(q_b, .inr (7, [.ref v1, .int (0 : Int32), .int (0 : Int32), .int (nI (gLen.getD w 0))])), (v1, .inl (cB, m1, .inl f1))]) hP hD [0] [] rfl rfl (by decide +kernel) (by decide +kernel) hk1 hFc hP1 hD1
  generalize H1 = H at hP hS ⊢
  have hP : va_P D vwCl [(q_b, .inr (7, [.ref v1, .int (0 : Int32), .int (0 : Int32), .int (nI (gLen.getD w 0))])), (v1, .inl (cB, m1, .inl f1))] H := hP
  have hD : va_D A [(q_b, .inr (7, [.ref v1, .int (0 : Int32), .int (0 : Int32), .int (nI (gLen.getD w 0))])), (v1, .inl (cB, m1, .inl f1))] := hD
  exact hret (v1, m1, f1) (Nat.le_of_ble_eq_true rfl) (Nat.le_of_ble_eq_true rfl) h1 hP hD hS dJ4_init_a7421_5
abbrev rm_J1_canEncode_fc78d : Room := { frames := 1, cells := 0, slots := 0, locals := 80 }
set_option maxHeartbeats 8000000 in
set_option maxRecDepth 100000 in
theorem c_J1_canEncode_fc78d (l : Launch) (D : va_G) (X : gX) (cI cZ cB cG : ClassId) (sz : Nat) (c : Nat) (hc : c < 128) : Met l yJ1_canEncode_fc78d wsJ1_canEncode_fc78d rm_J1_canEncode_fc78d (gP D X (gT cI cZ cB cG) sz [.int (nI c)] ([] : va_W)) (va_Qi (fun (r : Int32) (u : Unit) => narrow .boolean (.int r) = .int r ∧ (r = 1)) (fun u t => gB D (gT cI cZ cB cG) (va_A ([] : va_W) sz) ([] : va_W) t) (va_A ([] : va_W) sz)) 0 0 (va_A ([] : va_W) sz) := by
  refine g_ofWx .boolean (post := fun (r : Int32) (u : Unit) => r = 1) (W1 := fun (u : Unit) => ([] : va_W)) (cc := cJ1_canEncode_fc78d) (maxL := 1) (by decide +kernel) (Nat.le_of_ble_eq_true rfl) rfl ?_
  intro pp ee ss mth args below meth cdx A Q hx hb hml hown hts hA hK hE H hP hD hS ls hl hret
  have hl : lv_has ls 1 [(0, .int (nI c))] := hl
  refine lv_iload_n hx hb dJ1_canEncode_fc78d_0 rfl (lv_at hl 0 rfl) ?_
  refine lv_sipush (v := (255 : Int32)) hx hb dJ1_canEncode_fc78d_1 (by decide) ?_
  refine lv_icmp_gt (tgt := 11) hx hb dJ1_canEncode_fc78d_4 (by decide) (fun hbr => absurd hbr ((show ¬ nI 255 < nI c from (c8 c hc).2.2.2))) (fun _ => ?_)
  refine lv_iconst (v := (1 : Int32)) hx hb dJ1_canEncode_fc78d_7 (by decide) ?_
  refine lv_goto (tgt := 12) hx hb dJ1_canEncode_fc78d_8 (by decide) ?_
  exact hret (1 : Int32) () (by decide) rfl hP hD hS dJ1_canEncode_fc78d_12
abbrev rm_J5_append_3fe6f : Room := { frames := 4, cells := 1, slots := 802, locals := 150 }
set_option maxHeartbeats 8000000 in
set_option maxRecDepth 100000 in
theorem c_J5_append_3fe6f (l : Launch) (D : va_G) (X : gX) (cI cZ cB cG : ClassId) (sz : Nat) (c : Nat) (hc : c < 128) (q_b q_v m n : Nat) (f : Nat → Int32) (hf : gF f) (hnm : n ≤ m) (hm : m ≤ 802) (hn : n + 1 ≤ 400) : Met l yJ5_append_3fe6f wsJ5_append_3fe6f rm_J5_append_3fe6f (gP D X (gT cI cZ cB cG) sz [.ref q_b, .int (nI c)] [(q_b, .inr (7, [.ref q_v, .int (0 : Int32), .int (0 : Int32), .int (nI n)])), (q_v, .inl (cB, m, .inl f))]) (va_Qr (fun (u : Nat × Nat × (Nat → Int32)) => n + 1 ≤ u.2.1 ∧ u.2.1 ≤ 802 ∧ (∀ j, j < n → u.2.2 j = f j) ∧ u.2.2 n = nI c ∧ gF u.2.2) (fun u a t => a = q_b ∧ gB D (gT cI cZ cB cG) (va_A [(q_b, .inr (7, [.ref q_v, .int (0 : Int32), .int (0 : Int32), .int (nI n)])), (q_v, .inl (cB, m, .inl f))] sz) [(q_b, .inr (7, [.ref u.1, .int (0 : Int32), .int (0 : Int32), .int (nI (n + 1))])), (u.1, .inl (cB, u.2.1, .inl u.2.2))] t) (va_A [(q_b, .inr (7, [.ref q_v, .int (0 : Int32), .int (0 : Int32), .int (nI n)])), (q_v, .inl (cB, m, .inl f))] sz)) 1 802 (va_A [(q_b, .inr (7, [.ref q_v, .int (0 : Int32), .int (0 : Int32), .int (nI n)])), (q_v, .inl (cB, m, .inl f))] sz) := by
  refine g_ofMs (post := fun (u : Nat × Nat × (Nat → Int32)) => n + 1 ≤ u.2.1 ∧ u.2.1 ≤ 802 ∧ (∀ j, j < n → u.2.2 j = f j) ∧ u.2.2 n = nI c ∧ gF u.2.2) (W1 := fun (u : Nat × Nat × (Nat → Int32)) => [(q_b, .inr (7, [.ref u.1, .int (0 : Int32), .int (0 : Int32), .int (nI (n + 1))])), (u.1, .inl (cB, u.2.1, .inl u.2.2))]) (cc := cJ5_append_3fe6f) (maxL := 2) q_b (by decide +kernel) (Nat.le_of_ble_eq_true rfl) rfl (by first | exact Or.inl ⟨_, rfl⟩ | exact Or.inr ⟨_, rfl⟩) ?_
  intro pp ee ss mth args below meth cdx A Q hx hb hml hown hts hini hA hK hE H hP hD hS ls hl hret
  have hl : lv_has ls 2 [(0, .ref q_b), (1, .int (nI c))] := hl
  have hinJ4 : ∀ w ∈ u_ws RJ4 TJ4 4, w ∈ wsJ5_append_3fe6f := by decide +kernel
  refine lv_aload_n hx hb dJ5_append_3fe6f_0 rfl (lv_at hl 0 rfl) ?_
  refine lv_aload_n hx hb dJ5_append_3fe6f_1 rfl (lv_at hl 0 rfl) ?_
  refine va_get (D := D) (ci := 7) (v := .int (nI n)) (C := RJ4) (T := TJ4) (N := 4) hx hb hts hinJ4 hown hK hP 0 rfl rfl 3 (by decide) (hts (.fieldLink RJ5 79 "java/lang/AbstractStringBuilder" "count" "I") (by decide +kernel)) (fun _ h9 => h9) rfl dJ5_append_3fe6f_2 ?_
  refine lv_iconst (v := (1 : Int32)) hx hb dJ5_append_3fe6f_5 (by decide) ?_
  refine lv_iadd hx hb dJ5_append_3fe6f_6 ?_
  refine W.eq (g2 := F0 mth 7 ls [.int (nI (n + 1)), .ref q_b]) (by rw [nI_1]) ?_
  have hPc := hP.sub (ws' := [(q_b, .inr (7, [.ref q_v, .int (0 : Int32), .int (0 : Int32), .int (nI n)])), (q_v, .inl (cB, m, .inl f))]) [0, 1] rfl
  have hDc := hD.sub (ws' := [(q_b, .inr (7, [.ref q_v, .int (0 : Int32), .int (0 : Int32), .int (nI n)])), (q_v, .inl (cB, m, .inl f))]) [0, 1] (by decide +kernel) rfl
  have hFc := va_free (wc := [(q_b, .inr (7, [.ref q_v, .int (0 : Int32), .int (0 : Int32), .int (nI n)])), (q_v, .inl (cB, m, .inl f))]) hD hS hA [0, 1] rfl
  refine va_callv (va_runU (As := [.int (nI (n + 1))]) (rest := []) ⟨hx, hb, hml, hown, hts⟩ (c_J5_ensureCapacityInternal_d00df l D X cI cZ cB cG H.size q_b q_v m (n + 1) (nI n) f hf hm hn) (va_cwU 1 hts gJ5_append_3fe6f_J5_ensureCapacityInternal_d00df_u100J4 rfl rfl rfl rfl (by decide +kernel) ⟨Nat.le_of_ble_eq_true rfl, Nat.le_of_ble_eq_true rfl⟩) ⟨g_blind, va_recv hK hP (ci := 7) (q0 := 0) rfl rfl, fun U hU hW => g_side hU hW hPc hK hDc hE hS hFc⟩ rfl rfl hl.1 rfl (lv_room (Nat.le_of_ble_eq_true rfl)) dJ5_append_3fe6f_7 ⟨Nat.le_of_ble_eq_true rfl, Nat.le_of_ble_eq_true rfl⟩) hS (fun q _ h => hFc q h) hFc (fun u t H1 locs ht hvm h1 hB hz1 hk1 hS => ?_)
  obtain ⟨v1, m1, f1⟩ := u
  obtain ⟨hP1, hK1, hD1⟩ := hB
  rw [ht] at hP1
  obtain ⟨hP, hD⟩ := va_join (wr := ([] : va_W)) (w1 := [(q_b, .inr (7, [.ref v1, .int (0 : Int32), .int (0 : Int32), .int (nI n)])), (v1, .inl (cB, m1, .inl f1))]) hP hD [0, 1] [] rfl rfl (by decide +kernel) (by decide +kernel) hk1 hFc hP1 hD1
  generalize H1 = H at hP hS ⊢
  have hP : va_P D vwCl [(q_b, .inr (7, [.ref v1, .int (0 : Int32), .int (0 : Int32), .int (nI n)])), (v1, .inl (cB, m1, .inl f1))] H := hP
  have hD : va_D A [(q_b, .inr (7, [.ref v1, .int (0 : Int32), .int (0 : Int32), .int (nI n)])), (v1, .inl (cB, m1, .inl f1))] := hD
  obtain ⟨e1, e2, e3, e4⟩ := h1
  dsimp only at e1 e2 e3 e4
  refine lv_aload_n hx hb dJ5_append_3fe6f_10 rfl (lv_at hl 0 rfl) ?_
  have hPc := hP.sub (ws' := [(q_b, .inr (7, [.ref v1, .int (0 : Int32), .int (0 : Int32), .int (nI n)]))]) [0] rfl
  have hDc := hD.sub (ws' := [(q_b, .inr (7, [.ref v1, .int (0 : Int32), .int (0 : Int32), .int (nI n)]))]) [0] (by decide +kernel) rfl
  have hFc := va_free (wc := [(q_b, .inr (7, [.ref v1, .int (0 : Int32), .int (0 : Int32), .int (nI n)]))]) hD hS hA [0] rfl
  refine va_calli (va_runU (As := []) (rest := []) ⟨hx, hb, hml, hown, hts⟩ (c_J5_isLatin1_aae02 l D X cI cZ cB cG H.size q_b v1 (nI n)) (va_cwU 0 hts gJ5_append_3fe6f_J5_isLatin1_aae02_u83J4 rfl rfl rfl rfl (by decide +kernel) ⟨Nat.le_of_ble_eq_true rfl, Nat.le_of_ble_eq_true rfl⟩) ⟨g_blind, va_recv hK hP (ci := 7) (q0 := 0) rfl rfl, fun U hU hW => g_side hU hW hPc hK hDc hE hS hFc⟩ rfl rfl hl.1 rfl (lv_room (Nat.le_of_ble_eq_true rfl)) dJ5_append_3fe6f_11 ⟨Nat.le_of_ble_eq_true rfl, Nat.le_of_ble_eq_true rfl⟩) hS (fun q _ h => hFc q h) hFc (fun r2 u t H1 locs ht hvm h2 hB hz1 hk1 hS => ?_)
  obtain ⟨hP1, hK1, hD1⟩ := hB
  rw [ht] at hP1
  obtain ⟨hP, hD⟩ := va_join (wr := [(v1, .inl (cB, m1, .inl f1))]) (w1 := [(q_b, .inr (7, [.ref v1, .int (0 : Int32), .int (0 : Int32), .int (nI n)]))]) hP hD [0] [1] rfl rfl (by decide +kernel) (by decide +kernel) hk1 hFc hP1 hD1
  generalize H1 = H at hP hS ⊢
  have hP : va_P D vwCl [(v1, .inl (cB, m1, .inl f1)), (q_b, .inr (7, [.ref v1, .int (0 : Int32), .int (0 : Int32), .int (nI n)]))] H := hP
  have hD : va_D A [(v1, .inl (cB, m1, .inl f1)), (q_b, .inr (7, [.ref v1, .int (0 : Int32), .int (0 : Int32), .int (nI n)]))] := hD
  obtain ⟨_, h2⟩ := h2
  subst h2
  refine lv_if_eq (tgt := 45) hx hb dJ5_append_3fe6f_14 (by decide) (fun hbr => absurd hbr (by decide)) (fun _ => ?_)
  refine lv_iload_n hx hb dJ5_append_3fe6f_17 rfl (lv_at hl 1 rfl) ?_
  have hPc := hP.sub (ws' := ([] : va_W)) [] rfl
  have hDc := hD.sub (ws' := ([] : va_W)) [] (by decide +kernel) rfl
  have hFc := va_free (wc := ([] : va_W)) hD hS hA [] rfl
  refine va_calli (va_runS (As := [.int (nI c)]) (rest := []) ⟨hx, hb, hml, hown, hts⟩ (c_J1_canEncode_fc78d l D X cI cZ cB cG H.size c hc) (va_cwS 1 hts gJ5_append_3fe6f_J1_canEncode_fc78d rfl rfl rfl (by decide +kernel) ⟨Nat.le_of_ble_eq_true rfl, Nat.le_of_ble_eq_true rfl⟩) ⟨g_blind, fun U hU hW => g_side hU hW hPc hK hDc hE hS hFc⟩ rfl rfl hl.1 rfl (lv_room (Nat.le_of_ble_eq_true rfl)) dJ5_append_3fe6f_18 ⟨Nat.le_of_ble_eq_true rfl, Nat.le_of_ble_eq_true rfl⟩) hS (fun q _ h => hFc q h) hFc (fun r3 u t H1 locs ht hvm h3 hB hz1 hk1 hS => ?_)
  obtain ⟨hP1, hK1, hD1⟩ := hB
  rw [ht] at hP1
  obtain ⟨hP, hD⟩ := va_join (wr := [(v1, .inl (cB, m1, .inl f1)), (q_b, .inr (7, [.ref v1, .int (0 : Int32), .int (0 : Int32), .int (nI n)]))]) (w1 := ([] : va_W)) hP hD [] [0, 1] rfl rfl (by decide +kernel) (by decide +kernel) hk1 hFc hP1 hD1
  generalize H1 = H at hP hS ⊢
  have hP : va_P D vwCl [(v1, .inl (cB, m1, .inl f1)), (q_b, .inr (7, [.ref v1, .int (0 : Int32), .int (0 : Int32), .int (nI n)]))] H := hP
  have hD : va_D A [(v1, .inl (cB, m1, .inl f1)), (q_b, .inr (7, [.ref v1, .int (0 : Int32), .int (0 : Int32), .int (nI n)]))] := hD
  obtain ⟨_, h3⟩ := h3
  subst h3
  refine lv_if_eq (tgt := 45) hx hb dJ5_append_3fe6f_21 (by decide) (fun hbr => absurd hbr (by decide)) (fun _ => ?_)
  refine lv_aload_n hx hb dJ5_append_3fe6f_24 rfl (lv_at hl 0 rfl) ?_
  refine va_get (D := D) (ci := 7) (v := .ref v1) (C := RJ4) (T := TJ4) (N := 4) hx hb hts hinJ4 hown hK hP 1 rfl rfl 0 (by decide) (hts (.fieldLink RJ5 15 "java/lang/AbstractStringBuilder" "value" "[B") (by decide +kernel)) (fun _ h9 => h9) rfl dJ5_append_3fe6f_25 ?_
  refine lv_aload_n hx hb dJ5_append_3fe6f_28 rfl (lv_at hl 0 rfl) ?_
  refine lv_dup hx hb dJ5_append_3fe6f_29 rfl ?_
  refine va_get (D := D) (ci := 7) (v := .int (nI n)) (C := RJ4) (T := TJ4) (N := 4) hx hb hts hinJ4 hown hK hP 1 rfl rfl 3 (by decide) (hts (.fieldLink RJ5 79 "java/lang/AbstractStringBuilder" "count" "I") (by decide +kernel)) (fun _ h9 => h9) rfl dJ5_append_3fe6f_30 ?_
  refine lv_dup_x1 hx hb dJ5_append_3fe6f_33 rfl rfl ?_
  refine lv_iconst (v := (1 : Int32)) hx hb dJ5_append_3fe6f_34 (by decide) ?_
  refine lv_iadd hx hb dJ5_append_3fe6f_35 ?_
  refine W.eq (g2 := F0 mth 36 ls [.int (nI (n + 1)), .ref q_b, .int (nI n), .ref v1]) (by rw [nI_1]) ?_
  refine va_put (D := D) (ci := 7) (v := .int (nI (n + 1))) (ty := .int) (C := RJ4) (T := TJ4) (N := 4) hx hb hts hinJ4 tyJ4 tyJ4_ok nmJ4 hown hK hP hD hS 1 rfl rfl 3 (by decide) (hts (.fieldLink RJ5 79 "java/lang/AbstractStringBuilder" "count" "I") (by decide +kernel)) (fun _ h9 => h9) rfl (by decide +kernel) rfl rfl (Nat.le_of_ble_eq_true rfl) dJ5_append_3fe6f_36 (fun H locs hP hD hS => ?_)
  have hP : va_P D vwCl [(v1, .inl (cB, m1, .inl f1)), (q_b, .inr (7, [.ref v1, .int (0 : Int32), .int (0 : Int32), .int (nI (n + 1))]))] H := hP
  have hD : va_D A [(v1, .inl (cB, m1, .inl f1)), (q_b, .inr (7, [.ref v1, .int (0 : Int32), .int (0 : Int32), .int (nI (n + 1))]))] := hD
  refine lv_iload_n hx hb dJ5_append_3fe6f_39 rfl (lv_at hl 1 rfl) ?_
  refine lv_i2b (v := (nI c).toInt8.toInt32) hx hb dJ5_append_3fe6f_40 rfl ?_
  refine va_bast hx hb hK hP hD hS 0 2 rfl rfl (n := m1) (vp_in_nI e1 (by omega)) dJ5_append_3fe6f_41 (fun H locs hP hD hS => ?_)
  have hP : va_P D vwCl [(v1, .inl (cB, m1, .inl ((upd f1 (nI n).toNatClampNeg (vp_nar .byte ((nI c).toInt8.toInt32)))))), (q_b, .inr (7, [.ref v1, .int (0 : Int32), .int (0 : Int32), .int (nI (n + 1))]))] H := hP
  have hD : va_D A [(v1, .inl (cB, m1, .inl ((upd f1 (nI n).toNatClampNeg (vp_nar .byte ((nI c).toInt8.toInt32)))))), (q_b, .inr (7, [.ref v1, .int (0 : Int32), .int (0 : Int32), .int (nI (n + 1))]))] := hD
  rw [show (nI n).toNatClampNeg = n from nI_clamp (by omega), (c8 c hc).1, (c8 c hc).2.1] at hP hD
  have hP : va_P D vwCl [(v1, .inl (cB, m1, .inl ((upd f1 n (nI c))))), (q_b, .inr (7, [.ref v1, .int (0 : Int32), .int (0 : Int32), .int (nI (n + 1))]))] H := hP
  have hD : va_D A [(v1, .inl (cB, m1, .inl ((upd f1 n (nI c))))), (q_b, .inr (7, [.ref v1, .int (0 : Int32), .int (0 : Int32), .int (nI (n + 1))]))] := hD
  refine lv_goto (tgt := 75) hx hb dJ5_append_3fe6f_42 (by decide) ?_
  refine lv_aload_n hx hb dJ5_append_3fe6f_75 rfl (lv_at hl 0 rfl) ?_
  have hP := hP.sub (ws' := [(q_b, .inr (7, [.ref v1, .int (0 : Int32), .int (0 : Int32), .int (nI (n + 1))])), (v1, .inl (cB, m1, .inl ((upd f1 n (nI c)))))]) [1, 0] rfl
  have hD := hD.sub (ws' := [(q_b, .inr (7, [.ref v1, .int (0 : Int32), .int (0 : Int32), .int (nI (n + 1))])), (v1, .inl (cB, m1, .inl ((upd f1 n (nI c)))))]) [1, 0] (by decide +kernel) rfl
  exact hret (v1, m1, upd f1 n (nI c)) (Nat.le_of_ble_eq_true rfl) (Nat.le_of_ble_eq_true rfl) ⟨e1, e2, fun j hj => (pk_un (by omega)).trans (e3 j (by omega)), pk_us, gF_updN e4 (c8 c hc).2.2.1⟩ hP hD hS dJ5_append_3fe6f_76
abbrev rm_J4_append_cf468 : Room := { frames := 5, cells := 1, slots := 802, locals := 171 }
set_option maxHeartbeats 8000000 in
set_option maxRecDepth 100000 in
theorem c_J4_append_cf468 (l : Launch) (D : va_G) (X : gX) (cI cZ cB cG : ClassId) (sz : Nat) (c : Nat) (hc : c < 128) (q_b q_v m n : Nat) (f : Nat → Int32) (hf : gF f) (hnm : n ≤ m) (hm : m ≤ 802) (hn : n + 1 ≤ 400) : Met l yJ4_append_cf468 wsJ4_append_cf468 rm_J4_append_cf468 (gP D X (gT cI cZ cB cG) sz [.ref q_b, .int (nI c)] [(q_b, .inr (7, [.ref q_v, .int (0 : Int32), .int (0 : Int32), .int (nI n)])), (q_v, .inl (cB, m, .inl f))]) (va_Qr (fun (u : Nat × Nat × (Nat → Int32)) => n + 1 ≤ u.2.1 ∧ u.2.1 ≤ 802 ∧ (∀ j, j < n → u.2.2 j = f j) ∧ u.2.2 n = nI c ∧ gF u.2.2) (fun u a t => a = q_b ∧ gB D (gT cI cZ cB cG) (va_A [(q_b, .inr (7, [.ref q_v, .int (0 : Int32), .int (0 : Int32), .int (nI n)])), (q_v, .inl (cB, m, .inl f))] sz) [(q_b, .inr (7, [.ref u.1, .int (0 : Int32), .int (0 : Int32), .int (nI (n + 1))])), (u.1, .inl (cB, u.2.1, .inl u.2.2))] t) (va_A [(q_b, .inr (7, [.ref q_v, .int (0 : Int32), .int (0 : Int32), .int (nI n)])), (q_v, .inl (cB, m, .inl f))] sz)) 1 802 (va_A [(q_b, .inr (7, [.ref q_v, .int (0 : Int32), .int (0 : Int32), .int (nI n)])), (q_v, .inl (cB, m, .inl f))] sz) := by
  refine g_ofMs (post := fun (u : Nat × Nat × (Nat → Int32)) => n + 1 ≤ u.2.1 ∧ u.2.1 ≤ 802 ∧ (∀ j, j < n → u.2.2 j = f j) ∧ u.2.2 n = nI c ∧ gF u.2.2) (W1 := fun (u : Nat × Nat × (Nat → Int32)) => [(q_b, .inr (7, [.ref u.1, .int (0 : Int32), .int (0 : Int32), .int (nI (n + 1))])), (u.1, .inl (cB, u.2.1, .inl u.2.2))]) (cc := cJ4_append_cf468) (maxL := 2) q_b (by decide +kernel) (Nat.le_of_ble_eq_true rfl) rfl (by first | exact Or.inl ⟨_, rfl⟩ | exact Or.inr ⟨_, rfl⟩) ?_
  intro pp ee ss mth args below meth cdx A Q hx hb hml hown hts hini hA hK hE H hP hD hS ls hl hret
  have hl : lv_has ls 2 [(0, .ref q_b), (1, .int (nI c))] := hl
  refine lv_aload_n hx hb dJ4_append_cf468_0 rfl (lv_at hl 0 rfl) ?_
  refine lv_iload_n hx hb dJ4_append_cf468_1 rfl (lv_at hl 1 rfl) ?_
  have hPc := hP.sub (ws' := [(q_b, .inr (7, [.ref q_v, .int (0 : Int32), .int (0 : Int32), .int (nI n)])), (q_v, .inl (cB, m, .inl f))]) [0, 1] rfl
  have hDc := hD.sub (ws' := [(q_b, .inr (7, [.ref q_v, .int (0 : Int32), .int (0 : Int32), .int (nI n)])), (q_v, .inl (cB, m, .inl f))]) [0, 1] (by decide +kernel) rfl
  have hFc := va_free (wc := [(q_b, .inr (7, [.ref q_v, .int (0 : Int32), .int (0 : Int32), .int (nI n)])), (q_v, .inl (cB, m, .inl f))]) hD hS hA [0, 1] rfl
  refine va_callr (va_runSU (As := [.int (nI c)]) (rest := []) (hK.1 7 _ rfl).2 ⟨hx, hb, hml, hown, hts⟩ (c_J5_append_3fe6f l D X cI cZ cB cG H.size c hc q_b q_v m n f hf hnm hm hn) (va_cwSU 1 hts gJ4_append_cf468_J5_append_3fe6f_s50 rfl rfl rfl (by decide +kernel) ⟨Nat.le_of_ble_eq_true rfl, Nat.le_of_ble_eq_true rfl⟩) ⟨g_blind, va_recv hK hP (ci := 7) (q0 := 0) rfl rfl, fun U hU hW => g_side hU hW hPc hK hDc hE hS hFc⟩ rfl rfl hl.1 rfl (lv_room (Nat.le_of_ble_eq_true rfl)) dJ4_append_cf468_2 ⟨Nat.le_of_ble_eq_true rfl, Nat.le_of_ble_eq_true rfl⟩) hS (fun q _ h => hFc q h) hFc (fun u r1 t H1 locs ht hvm h1 hB hz1 hk1 hS => ?_)
  obtain ⟨v1, m1, f1⟩ := u
  obtain ⟨hb9, hP1, hK1, hD1⟩ := hB
  have hb9 := hb9.symm
  subst hb9
  rw [ht] at hP1
  obtain ⟨hP, hD⟩ := va_join (wr := ([] : va_W)) (w1 := [(q_b, .inr (7, [.ref v1, .int (0 : Int32), .int (0 : Int32), .int (nI (n + 1))])), (v1, .inl (cB, m1, .inl f1))]) hP hD [0, 1] [] rfl rfl (by decide +kernel) (by decide +kernel) hk1 hFc hP1 hD1
  generalize H1 = H at hP hS ⊢
  have hP : va_P D vwCl [(q_b, .inr (7, [.ref v1, .int (0 : Int32), .int (0 : Int32), .int (nI (n + 1))])), (v1, .inl (cB, m1, .inl f1))] H := hP
  have hD : va_D A [(q_b, .inr (7, [.ref v1, .int (0 : Int32), .int (0 : Int32), .int (nI (n + 1))])), (v1, .inl (cB, m1, .inl f1))] := hD
  refine lv_pop hx hb dJ4_append_cf468_5 rfl ?_
  refine lv_aload_n hx hb dJ4_append_cf468_6 rfl (lv_at hl 0 rfl) ?_
  exact hret (v1, m1, f1) (Nat.le_of_ble_eq_true rfl) (Nat.le_of_ble_eq_true rfl) h1 hP hD hS dJ4_append_cf468_7
abbrev rm_J6_stringSize_0f7a4 : Room := { frames := 1, cells := 0, slots := 0, locals := 80 }
set_option maxHeartbeats 8000000 in
set_option maxRecDepth 100000 in
theorem c_J6_stringSize_0f7a4 (l : Launch) (D : va_G) (X : gX) (cI cZ cB cG : ClassId) (sz : Nat) (c : Nat) (hc : c < 10) : Met l yJ6_stringSize_0f7a4 wsJ6_stringSize_0f7a4 rm_J6_stringSize_0f7a4 (gP D X (gT cI cZ cB cG) sz [.int (nI c)] ([] : va_W)) (va_Qi (fun (r : Int32) (u : Unit) => r = 1) (fun u t => gB D (gT cI cZ cB cG) (va_A ([] : va_W) sz) ([] : va_W) t) (va_A ([] : va_W) sz)) 0 0 (va_A ([] : va_W) sz) := by
  refine g_ofMi (post := fun (r : Int32) (u : Unit) => r = 1) (W1 := fun (u : Unit) => ([] : va_W)) (cc := cJ6_stringSize_0f7a4) (maxL := 4) (by decide +kernel) (Nat.le_of_ble_eq_true rfl) rfl ?_
  intro pp ee ss mth args below meth cdx A Q hx hb hml hown hts hini hA hK hE H hP hD hS ls hl hret
  have hl : lv_has ls 4 [(0, .int (nI c))] := hl
  have hd9 := dg9 c hc
  refine lv_iconst (v := (1 : Int32)) hx hb dJ6_stringSize_0f7a4_0 (by decide) ?_
  refine lv_istore_n (lv' := [(1, .int (1 : Int32)), (0, .int (nI c))]) hx hb dJ6_stringSize_0f7a4_1 rfl hl (by decide) rfl (fun ls hl => ?_)
  refine lv_iload_n hx hb dJ6_stringSize_0f7a4_2 rfl (lv_at hl 1 rfl) ?_
  refine lv_if_lt (tgt := 11) hx hb dJ6_stringSize_0f7a4_3 (by decide) (fun hbr => absurd hbr ((nI_pos (by omega)))) (fun _ => ?_)
  refine lv_iconst (v := (0 : Int32)) hx hb dJ6_stringSize_0f7a4_6 (by decide) ?_
  refine lv_istore_n (lv' := [(1, .int (0 : Int32)), (0, .int (nI c))]) hx hb dJ6_stringSize_0f7a4_7 rfl hl (by decide) rfl (fun ls hl => ?_)
  refine lv_iload_n hx hb dJ6_stringSize_0f7a4_8 rfl (lv_at hl 1 rfl) ?_
  refine lv_ineg hx hb dJ6_stringSize_0f7a4_9 ?_
  refine lv_istore_n (lv' := [(0, .int (-nI c)), (1, .int (0 : Int32))]) hx hb dJ6_stringSize_0f7a4_10 rfl hl (by decide) rfl (fun ls hl => ?_)
  refine lv_bipush (v := (-10 : Int32)) hx hb dJ6_stringSize_0f7a4_11 (by decide) ?_
  refine lv_istore_n (lv' := [(2, .int (-10 : Int32)), (0, .int (-nI c)), (1, .int (0 : Int32))]) hx hb dJ6_stringSize_0f7a4_13 rfl hl (by decide) rfl (fun ls hl => ?_)
  refine lv_iconst (v := (1 : Int32)) hx hb dJ6_stringSize_0f7a4_14 (by decide) ?_
  refine lv_istore_n (lv' := [(3, .int (1 : Int32)), (2, .int (-10 : Int32)), (0, .int (-nI c)), (1, .int (0 : Int32))]) hx hb dJ6_stringSize_0f7a4_15 rfl hl (by decide) rfl (fun ls hl => ?_)
  refine lv_iload_n hx hb dJ6_stringSize_0f7a4_16 rfl (lv_at hl 0 rfl) ?_
  refine lv_bipush (v := (10 : Int32)) hx hb dJ6_stringSize_0f7a4_17 (by decide) ?_
  refine lv_icmp_ge (tgt := 42) hx hb dJ6_stringSize_0f7a4_19 (by decide) (fun hbr => absurd hbr (by decide)) (fun _ => ?_)
  refine lv_iload_n hx hb dJ6_stringSize_0f7a4_22 rfl (lv_at hl 2 rfl) ?_
  refine lv_iload_n hx hb dJ6_stringSize_0f7a4_23 rfl (lv_at hl 1 rfl) ?_
  refine lv_icmp_le (tgt := 31) hx hb dJ6_stringSize_0f7a4_24 (by decide) (fun hbr => absurd hbr hd9.1) (fun _ => ?_)
  refine lv_iload_n hx hb dJ6_stringSize_0f7a4_27 rfl (lv_at hl 0 rfl) ?_
  refine lv_iload_n hx hb dJ6_stringSize_0f7a4_28 rfl (lv_at hl 3 rfl) ?_
  refine lv_iadd hx hb dJ6_stringSize_0f7a4_29 ?_
  refine W.eq (g2 := F0 mth 30 ls [.int (1 : Int32)]) (by rw [show (1 : Int32) + 0 = 1 from rfl]) ?_
  exact hret (1 : Int32) () (Nat.le_of_ble_eq_true rfl) (Nat.le_of_ble_eq_true rfl) rfl hP hD hS dJ6_stringSize_0f7a4_30
abbrev rm_J6_getChars_ba4f3 : Room := { frames := 1, cells := 0, slots := 0, locals := 80 }
set_option maxHeartbeats 8000000 in
set_option maxRecDepth 100000 in
theorem c_J6_getChars_ba4f3 (l : Launch) (D : va_G) (X : gX) (cI cZ cB cG : ClassId) (sz : Nat) (c : Nat) (hc : c < 10) (q_d m k : Nat) (f : Nat → Int32) (h0 : 0 < k) (h : k ≤ m) (hm : m ≤ 802) : Met l yJ6_getChars_ba4f3 wsJ6_getChars_ba4f3 rm_J6_getChars_ba4f3 (gP D X (gT cI cZ cB cG) sz [.int (nI c), .int (nI k), .ref q_d] [(q_d, .inl (cB, m, .inl f))]) (va_Qi (fun (r : Int32) (u : Unit) => True) (fun u t => gB D (gT cI cZ cB cG) (va_A [(q_d, .inl (cB, m, .inl f))] sz) [(q_d, .inl (cB, m, .inl ((upd f (k - 1) (nI (48 + c))))))] t) (va_A [(q_d, .inl (cB, m, .inl f))] sz)) 0 0 (va_A [(q_d, .inl (cB, m, .inl f))] sz) := by
  refine g_ofMi (post := fun (r : Int32) (u : Unit) => True) (W1 := fun (u : Unit) => [(q_d, .inl (cB, m, .inl ((upd f (k - 1) (nI (48 + c))))))]) (cc := cJ6_getChars_ba4f3) (maxL := 7) (by decide +kernel) (Nat.le_of_ble_eq_true rfl) rfl ?_
  intro pp ee ss mth args below meth cdx A Q hx hb hml hown hts hini hA hK hE H hP hD hS ls hl hret
  have hl : lv_has ls 7 [(0, .int (nI c)), (1, .int (nI k)), (2, .ref q_d)] := hl
  have hd9 := dg9 c hc
  obtain ⟨qo, hZo, hTo⟩ := hE.2.2.2.2.2.2.2.2.2.2.2.2
  have hc8 := c8 (48 + c) (by omega)
  refine lv_iload_n hx hb dJ6_getChars_ba4f3_0 rfl (lv_at hl 1 rfl) ?_
  refine lv_istore (lv' := [(5, .int (nI k)), (0, .int (nI c)), (1, .int (nI k)), (2, .ref q_d)]) hx hb dJ6_getChars_ba4f3_1 hl (by decide) rfl (fun ls hl => ?_)
  refine lv_iload_n hx hb dJ6_getChars_ba4f3_3 rfl (lv_at hl 1 rfl) ?_
  refine lv_if_ge (tgt := 11) hx hb dJ6_getChars_ba4f3_4 (by decide) (fun _ => ?_) (fun hbr => absurd ((nI_pos' (by omega))) hbr)
  refine lv_iconst (v := (0 : Int32)) hx hb dJ6_getChars_ba4f3_11 (by decide) ?_
  refine lv_istore (lv' := [(6, .int (0 : Int32)), (5, .int (nI k)), (0, .int (nI c)), (1, .int (nI k)), (2, .ref q_d)]) hx hb dJ6_getChars_ba4f3_12 hl (by decide) rfl (fun ls hl => ?_)
  refine lv_iload hx hb dJ6_getChars_ba4f3_14 (lv_at hl 0 rfl) ?_
  refine lv_if_ne (tgt := 22) hx hb dJ6_getChars_ba4f3_16 (by decide) (fun hbr => absurd rfl hbr) (fun _ => ?_)
  refine lv_iload_n hx hb dJ6_getChars_ba4f3_19 rfl (lv_at hl 2 rfl) ?_
  refine lv_ineg hx hb dJ6_getChars_ba4f3_20 ?_
  refine lv_istore_n (lv' := [(0, .int (-nI c)), (6, .int (0 : Int32)), (5, .int (nI k)), (1, .int (nI k)), (2, .ref q_d)]) hx hb dJ6_getChars_ba4f3_21 rfl hl (by decide) rfl (fun ls hl => ?_)
  refine lv_iload_n hx hb dJ6_getChars_ba4f3_22 rfl (lv_at hl 0 rfl) ?_
  refine lv_bipush (v := (-100 : Int32)) hx hb dJ6_getChars_ba4f3_23 (by decide) ?_
  refine lv_icmp_gt (tgt := 72) hx hb dJ6_getChars_ba4f3_25 (by decide) (fun _ => ?_) (fun hbr => absurd hd9.2.1 hbr)
  refine lv_aload_n hx hb dJ6_getChars_ba4f3_72 rfl (lv_at hl 4 rfl) ?_
  refine lv_iinc (v := nI (k - 1)) (lv' := [(5, .int (nI (k - 1))), (0, .int (-nI c)), (6, .int (0 : Int32)), (1, .int (nI k)), (2, .ref q_d)]) hx hb dJ6_getChars_ba4f3_73 hl (k := 2) rfl (sb_m1 h0) (by decide) rfl (fun ls hl => ?_)
  refine lv_iload hx hb dJ6_getChars_ba4f3_76 (lv_at hl 0 rfl) ?_
  refine va_gets hx hb hZo hS hown (hts (.fieldLink RJ6 83 "java/lang/Integer" "DigitOnes" "[B") (by decide +kernel)) (fun _ h => h) dJ6_getChars_ba4f3_78 ?_
  refine lv_iload_n hx hb dJ6_getChars_ba4f3_81 rfl (lv_at hl 1 rfl) ?_
  refine lv_ineg hx hb dJ6_getChars_ba4f3_82 ?_
  refine W.eq (g2 := F0 mth 83 ls [.int (nI c), .ref qo, .int (nI (k - 1)), .ref q_d]) (by rw [hd9.2.2.2.1]) ?_
  refine va_tb hx hb hTo hS hd9.2.2.2.2.2 (v := .int (nI (48 + c))) (by rw [hd9.2.2.2.2.1]) dJ6_getChars_ba4f3_83 ?_
  refine va_bast hx hb hK hP hD hS 0 2 rfl rfl (n := m) (vp_in_nI (by omega) (by omega)) dJ6_getChars_ba4f3_84 (fun H locs hP hD hS => ?_)
  have hP : va_P D vwCl [(q_d, .inl (cB, m, .inl ((upd f (nI (k - 1)).toNatClampNeg (vp_nar .byte (nI (48 + c)))))))] H := hP
  have hD : va_D A [(q_d, .inl (cB, m, .inl ((upd f (nI (k - 1)).toNatClampNeg (vp_nar .byte (nI (48 + c)))))))] := hD
  rw [show (nI (k - 1)).toNatClampNeg = k - 1 from nI_clamp (by omega), hc8.2.1] at hP hD
  have hP : va_P D vwCl [(q_d, .inl (cB, m, .inl ((upd f (k - 1) (nI (48 + c))))))] H := hP
  have hD : va_D A [(q_d, .inl (cB, m, .inl ((upd f (k - 1) (nI (48 + c))))))] := hD
  refine lv_iload_n hx hb dJ6_getChars_ba4f3_85 rfl (lv_at hl 1 rfl) ?_
  refine lv_bipush (v := (-9 : Int32)) hx hb dJ6_getChars_ba4f3_86 (by decide) ?_
  refine lv_icmp_ge (tgt := 104) hx hb dJ6_getChars_ba4f3_88 (by decide) (fun _ => ?_) (fun hbr => absurd hd9.2.2.1 hbr)
  refine lv_iload hx hb dJ6_getChars_ba4f3_104 (lv_at hl 2 rfl) ?_
  refine lv_if_eq (tgt := 118) hx hb dJ6_getChars_ba4f3_106 (by decide) (fun _ => ?_) (fun hbr => absurd rfl hbr)
  refine lv_iload hx hb dJ6_getChars_ba4f3_118 (lv_at hl 0 rfl) ?_
  exact hret (nI (k - 1)) () (Nat.le_of_ble_eq_true rfl) (Nat.le_of_ble_eq_true rfl) trivial hP hD hS dJ6_getChars_ba4f3_120
abbrev rm_J5_append_c97b9 : Room := { frames := 4, cells := 1, slots := 802, locals := 150 }
set_option maxHeartbeats 8000000 in
set_option maxRecDepth 100000 in
theorem c_J5_append_c97b9 (l : Launch) (D : va_G) (X : gX) (cI cZ cB cG : ClassId) (sz : Nat) (c : Nat) (hc : c < 10) (q_b q_v m n : Nat) (f : Nat → Int32) (hf : gF f) (hnm : n ≤ m) (hm : m ≤ 802) (hn : n + 1 ≤ 400) : Met l yJ5_append_c97b9 wsJ5_append_c97b9 rm_J5_append_c97b9 (gP D X (gT cI cZ cB cG) sz [.ref q_b, .int (nI c)] [(q_b, .inr (7, [.ref q_v, .int (0 : Int32), .int (0 : Int32), .int (nI n)])), (q_v, .inl (cB, m, .inl f))]) (va_Qr (fun (u : Nat × Nat × (Nat → Int32)) => n + 1 ≤ u.2.1 ∧ u.2.1 ≤ 802 ∧ (∀ j, j < n → u.2.2 j = f j) ∧ u.2.2 n = nI (48 + c) ∧ gF u.2.2) (fun u a t => a = q_b ∧ gB D (gT cI cZ cB cG) (va_A [(q_b, .inr (7, [.ref q_v, .int (0 : Int32), .int (0 : Int32), .int (nI n)])), (q_v, .inl (cB, m, .inl f))] sz) [(q_b, .inr (7, [.ref u.1, .int (0 : Int32), .int (0 : Int32), .int (nI (n + 1))])), (u.1, .inl (cB, u.2.1, .inl u.2.2))] t) (va_A [(q_b, .inr (7, [.ref q_v, .int (0 : Int32), .int (0 : Int32), .int (nI n)])), (q_v, .inl (cB, m, .inl f))] sz)) 1 802 (va_A [(q_b, .inr (7, [.ref q_v, .int (0 : Int32), .int (0 : Int32), .int (nI n)])), (q_v, .inl (cB, m, .inl f))] sz) := by
  refine g_ofMs (post := fun (u : Nat × Nat × (Nat → Int32)) => n + 1 ≤ u.2.1 ∧ u.2.1 ≤ 802 ∧ (∀ j, j < n → u.2.2 j = f j) ∧ u.2.2 n = nI (48 + c) ∧ gF u.2.2) (W1 := fun (u : Nat × Nat × (Nat → Int32)) => [(q_b, .inr (7, [.ref u.1, .int (0 : Int32), .int (0 : Int32), .int (nI (n + 1))])), (u.1, .inl (cB, u.2.1, .inl u.2.2))]) (cc := cJ5_append_c97b9) (maxL := 4) q_b (by decide +kernel) (Nat.le_of_ble_eq_true rfl) rfl (by first | exact Or.inl ⟨_, rfl⟩ | exact Or.inr ⟨_, rfl⟩) ?_
  intro pp ee ss mth args below meth cdx A Q hx hb hml hown hts hini hA hK hE H hP hD hS ls hl hret
  have hl : lv_has ls 4 [(0, .ref q_b), (1, .int (nI c))] := hl
  have hinJ4 : ∀ w ∈ u_ws RJ4 TJ4 4, w ∈ wsJ5_append_c97b9 := by decide +kernel
  refine lv_aload_n hx hb dJ5_append_c97b9_0 rfl (lv_at hl 0 rfl) ?_
  refine va_get (D := D) (ci := 7) (v := .int (nI n)) (C := RJ4) (T := TJ4) (N := 4) hx hb hts hinJ4 hown hK hP 0 rfl rfl 3 (by decide) (hts (.fieldLink RJ5 79 "java/lang/AbstractStringBuilder" "count" "I") (by decide +kernel)) (fun _ h9 => h9) rfl dJ5_append_c97b9_1 ?_
  refine lv_istore_n (lv' := [(2, .int (nI n)), (0, .ref q_b), (1, .int (nI c))]) hx hb dJ5_append_c97b9_4 rfl hl (by decide) rfl (fun ls hl => ?_)
  refine lv_iload_n hx hb dJ5_append_c97b9_5 rfl (lv_at hl 0 rfl) ?_
  refine lv_iload_n hx hb dJ5_append_c97b9_6 rfl (lv_at hl 2 rfl) ?_
  have hPc := hP.sub (ws' := ([] : va_W)) [] rfl
  have hDc := hD.sub (ws' := ([] : va_W)) [] (by decide +kernel) rfl
  have hFc := va_free (wc := ([] : va_W)) hD hS hA [] rfl
  refine va_calli (va_runS (As := [.int (nI c)]) (rest := [.int (nI n)]) ⟨hx, hb, hml, hown, hts⟩ (c_J6_stringSize_0f7a4 l D X cI cZ cB cG H.size c hc) (va_cwS 1 hts gJ5_append_c97b9_J6_stringSize_0f7a4 rfl rfl rfl (by decide +kernel) ⟨Nat.le_of_ble_eq_true rfl, Nat.le_of_ble_eq_true rfl⟩) ⟨g_blind, fun U hU hW => g_side hU hW hPc hK hDc hE hS hFc⟩ rfl rfl hl.1 rfl (lv_room (Nat.le_of_ble_eq_true rfl)) dJ5_append_c97b9_7 ⟨Nat.le_of_ble_eq_true rfl, Nat.le_of_ble_eq_true rfl⟩) hS (fun q _ h => hFc q h) hFc (fun r1 u t H1 locs ht hvm h1 hB hz1 hk1 hS => ?_)
  obtain ⟨hP1, hK1, hD1⟩ := hB
  rw [ht] at hP1
  obtain ⟨hP, hD⟩ := va_join (wr := [(q_b, .inr (7, [.ref q_v, .int (0 : Int32), .int (0 : Int32), .int (nI n)])), (q_v, .inl (cB, m, .inl f))]) (w1 := ([] : va_W)) hP hD [] [0, 1] rfl rfl (by decide +kernel) (by decide +kernel) hk1 hFc hP1 hD1
  generalize H1 = H at hP hS ⊢
  have hP : va_P D vwCl [(q_b, .inr (7, [.ref q_v, .int (0 : Int32), .int (0 : Int32), .int (nI n)])), (q_v, .inl (cB, m, .inl f))] H := hP
  have hD : va_D A [(q_b, .inr (7, [.ref q_v, .int (0 : Int32), .int (0 : Int32), .int (nI n)])), (q_v, .inl (cB, m, .inl f))] := hD
  subst h1
  refine lv_iadd hx hb dJ5_append_c97b9_10 ?_
  refine W.eq (g2 := F0 mth 11 ls [.int (nI (n + 1))]) (by rw [nI_1]) ?_
  refine lv_istore_n (lv' := [(3, .int (nI (n + 1))), (2, .int (nI n)), (0, .ref q_b), (1, .int (nI c))]) hx hb dJ5_append_c97b9_11 rfl hl (by decide) rfl (fun ls hl => ?_)
  refine lv_aload_n hx hb dJ5_append_c97b9_12 rfl (lv_at hl 2 rfl) ?_
  refine lv_iload_n hx hb dJ5_append_c97b9_13 rfl (lv_at hl 0 rfl) ?_
  have hPc := hP.sub (ws' := [(q_b, .inr (7, [.ref q_v, .int (0 : Int32), .int (0 : Int32), .int (nI n)])), (q_v, .inl (cB, m, .inl f))]) [0, 1] rfl
  have hDc := hD.sub (ws' := [(q_b, .inr (7, [.ref q_v, .int (0 : Int32), .int (0 : Int32), .int (nI n)])), (q_v, .inl (cB, m, .inl f))]) [0, 1] (by decide +kernel) rfl
  have hFc := va_free (wc := [(q_b, .inr (7, [.ref q_v, .int (0 : Int32), .int (0 : Int32), .int (nI n)])), (q_v, .inl (cB, m, .inl f))]) hD hS hA [0, 1] rfl
  refine va_callv (va_runU (As := [.int (nI (n + 1))]) (rest := []) ⟨hx, hb, hml, hown, hts⟩ (c_J5_ensureCapacityInternal_d00df l D X cI cZ cB cG H.size q_b q_v m (n + 1) (nI n) f hf hm hn) (va_cwU 1 hts gJ5_append_c97b9_J5_ensureCapacityInternal_d00df_u100J4 rfl rfl rfl rfl (by decide +kernel) ⟨Nat.le_of_ble_eq_true rfl, Nat.le_of_ble_eq_true rfl⟩) ⟨g_blind, va_recv hK hP (ci := 7) (q0 := 0) rfl rfl, fun U hU hW => g_side hU hW hPc hK hDc hE hS hFc⟩ rfl rfl hl.1 rfl (lv_room (Nat.le_of_ble_eq_true rfl)) dJ5_append_c97b9_14 ⟨Nat.le_of_ble_eq_true rfl, Nat.le_of_ble_eq_true rfl⟩) hS (fun q _ h => hFc q h) hFc (fun u t H1 locs ht hvm h2 hB hz1 hk1 hS => ?_)
  obtain ⟨v1, m1, f1⟩ := u
  obtain ⟨hP1, hK1, hD1⟩ := hB
  rw [ht] at hP1
  obtain ⟨hP, hD⟩ := va_join (wr := ([] : va_W)) (w1 := [(q_b, .inr (7, [.ref v1, .int (0 : Int32), .int (0 : Int32), .int (nI n)])), (v1, .inl (cB, m1, .inl f1))]) hP hD [0, 1] [] rfl rfl (by decide +kernel) (by decide +kernel) hk1 hFc hP1 hD1
  generalize H1 = H at hP hS ⊢
  have hP : va_P D vwCl [(q_b, .inr (7, [.ref v1, .int (0 : Int32), .int (0 : Int32), .int (nI n)])), (v1, .inl (cB, m1, .inl f1))] H := hP
  have hD : va_D A [(q_b, .inr (7, [.ref v1, .int (0 : Int32), .int (0 : Int32), .int (nI n)])), (v1, .inl (cB, m1, .inl f1))] := hD
  obtain ⟨e1, e2, e3, e4⟩ := h2
  dsimp only at e1 e2 e3 e4
  refine lv_aload_n hx hb dJ5_append_c97b9_17 rfl (lv_at hl 2 rfl) ?_
  have hPc := hP.sub (ws' := [(q_b, .inr (7, [.ref v1, .int (0 : Int32), .int (0 : Int32), .int (nI n)]))]) [0] rfl
  have hDc := hD.sub (ws' := [(q_b, .inr (7, [.ref v1, .int (0 : Int32), .int (0 : Int32), .int (nI n)]))]) [0] (by decide +kernel) rfl
  have hFc := va_free (wc := [(q_b, .inr (7, [.ref v1, .int (0 : Int32), .int (0 : Int32), .int (nI n)]))]) hD hS hA [0] rfl
  refine va_calli (va_runU (As := []) (rest := []) ⟨hx, hb, hml, hown, hts⟩ (c_J5_isLatin1_aae02 l D X cI cZ cB cG H.size q_b v1 (nI n)) (va_cwU 0 hts gJ5_append_c97b9_J5_isLatin1_aae02_u83J4 rfl rfl rfl rfl (by decide +kernel) ⟨Nat.le_of_ble_eq_true rfl, Nat.le_of_ble_eq_true rfl⟩) ⟨g_blind, va_recv hK hP (ci := 7) (q0 := 0) rfl rfl, fun U hU hW => g_side hU hW hPc hK hDc hE hS hFc⟩ rfl rfl hl.1 rfl (lv_room (Nat.le_of_ble_eq_true rfl)) dJ5_append_c97b9_18 ⟨Nat.le_of_ble_eq_true rfl, Nat.le_of_ble_eq_true rfl⟩) hS (fun q _ h => hFc q h) hFc (fun r3 u t H1 locs ht hvm h3 hB hz1 hk1 hS => ?_)
  obtain ⟨hP1, hK1, hD1⟩ := hB
  rw [ht] at hP1
  obtain ⟨hP, hD⟩ := va_join (wr := [(v1, .inl (cB, m1, .inl f1))]) (w1 := [(q_b, .inr (7, [.ref v1, .int (0 : Int32), .int (0 : Int32), .int (nI n)]))]) hP hD [0] [1] rfl rfl (by decide +kernel) (by decide +kernel) hk1 hFc hP1 hD1
  generalize H1 = H at hP hS ⊢
  have hP : va_P D vwCl [(v1, .inl (cB, m1, .inl f1)), (q_b, .inr (7, [.ref v1, .int (0 : Int32), .int (0 : Int32), .int (nI n)]))] H := hP
  have hD : va_D A [(v1, .inl (cB, m1, .inl f1)), (q_b, .inr (7, [.ref v1, .int (0 : Int32), .int (0 : Int32), .int (nI n)]))] := hD
  obtain ⟨_, h3⟩ := h3
  subst h3
  refine lv_if_eq (tgt := 37) hx hb dJ5_append_c97b9_21 (by decide) (fun hbr => absurd hbr (by decide)) (fun _ => ?_)
  refine lv_iload_n hx hb dJ5_append_c97b9_24 rfl (lv_at hl 3 rfl) ?_
  refine lv_iload_n hx hb dJ5_append_c97b9_25 rfl (lv_at hl 0 rfl) ?_
  refine lv_aload_n hx hb dJ5_append_c97b9_26 rfl (lv_at hl 2 rfl) ?_
  refine va_get (D := D) (ci := 7) (v := .ref v1) (C := RJ4) (T := TJ4) (N := 4) hx hb hts hinJ4 hown hK hP 1 rfl rfl 0 (by decide) (hts (.fieldLink RJ5 15 "java/lang/AbstractStringBuilder" "value" "[B") (by decide +kernel)) (fun _ h9 => h9) rfl dJ5_append_c97b9_27 ?_
  have hPc := hP.sub (ws' := [(v1, .inl (cB, m1, .inl f1))]) [0] rfl
  have hDc := hD.sub (ws' := [(v1, .inl (cB, m1, .inl f1))]) [0] (by decide +kernel) rfl
  have hFc := va_free (wc := [(v1, .inl (cB, m1, .inl f1))]) hD hS hA [0] rfl
  refine va_calli (va_runS (As := [.int (nI c), .int (nI (n + 1)), .ref v1]) (rest := []) ⟨hx, hb, hml, hown, hts⟩ (c_J6_getChars_ba4f3 l D X cI cZ cB cG H.size c hc v1 m1 (n + 1) f1 (Nat.succ_pos _) e1 e2) (va_cwS 3 hts gJ5_append_c97b9_J6_getChars_ba4f3 rfl rfl rfl (by decide +kernel) ⟨Nat.le_of_ble_eq_true rfl, Nat.le_of_ble_eq_true rfl⟩) ⟨g_blind, fun U hU hW => g_side hU hW hPc hK hDc hE hS hFc⟩ rfl rfl hl.1 rfl (lv_room (Nat.le_of_ble_eq_true rfl)) dJ5_append_c97b9_30 ⟨Nat.le_of_ble_eq_true rfl, Nat.le_of_ble_eq_true rfl⟩) hS (fun q _ h => hFc q h) hFc (fun r4 u t H1 locs ht hvm h4 hB hz1 hk1 hS => ?_)
  obtain ⟨hP1, hK1, hD1⟩ := hB
  rw [ht] at hP1
  obtain ⟨hP, hD⟩ := va_join (wr := [(q_b, .inr (7, [.ref v1, .int (0 : Int32), .int (0 : Int32), .int (nI n)]))]) (w1 := [(v1, .inl (cB, m1, .inl ((upd f1 (n + 1 - 1) (nI (48 + c))))))]) hP hD [0] [1] rfl rfl (by decide +kernel) (by decide +kernel) hk1 hFc hP1 hD1
  generalize H1 = H at hP hS ⊢
  have hP : va_P D vwCl [(q_b, .inr (7, [.ref v1, .int (0 : Int32), .int (0 : Int32), .int (nI n)])), (v1, .inl (cB, m1, .inl ((upd f1 (n + 1 - 1) (nI (48 + c))))))] H := hP
  have hD : va_D A [(q_b, .inr (7, [.ref v1, .int (0 : Int32), .int (0 : Int32), .int (nI n)])), (v1, .inl (cB, m1, .inl ((upd f1 (n + 1 - 1) (nI (48 + c))))))] := hD
  have hP : va_P D vwCl [(q_b, .inr (7, [.ref v1, .int (0 : Int32), .int (0 : Int32), .int (nI n)])), (v1, .inl (cB, m1, .inl ((upd f1 n (nI (48 + c))))))] H := hP
  have hD : va_D A [(q_b, .inr (7, [.ref v1, .int (0 : Int32), .int (0 : Int32), .int (nI n)])), (v1, .inl (cB, m1, .inl ((upd f1 n (nI (48 + c))))))] := hD
  refine lv_pop hx hb dJ5_append_c97b9_33 rfl ?_
  refine lv_goto (tgt := 48) hx hb dJ5_append_c97b9_34 (by decide) ?_
  refine lv_aload_n hx hb dJ5_append_c97b9_48 rfl (lv_at hl 2 rfl) ?_
  refine lv_iload_n hx hb dJ5_append_c97b9_49 rfl (lv_at hl 0 rfl) ?_
  refine va_put (D := D) (ci := 7) (v := .int (nI (n + 1))) (ty := .int) (C := RJ4) (T := TJ4) (N := 4) hx hb hts hinJ4 tyJ4 tyJ4_ok nmJ4 hown hK hP hD hS 0 rfl rfl 3 (by decide) (hts (.fieldLink RJ5 79 "java/lang/AbstractStringBuilder" "count" "I") (by decide +kernel)) (fun _ h9 => h9) rfl (by decide +kernel) rfl rfl (Nat.le_of_ble_eq_true rfl) dJ5_append_c97b9_50 (fun H locs hP hD hS => ?_)
  have hP : va_P D vwCl [(q_b, .inr (7, [.ref v1, .int (0 : Int32), .int (0 : Int32), .int (nI (n + 1))])), (v1, .inl (cB, m1, .inl ((upd f1 n (nI (48 + c))))))] H := hP
  have hD : va_D A [(q_b, .inr (7, [.ref v1, .int (0 : Int32), .int (0 : Int32), .int (nI (n + 1))])), (v1, .inl (cB, m1, .inl ((upd f1 n (nI (48 + c))))))] := hD
  refine lv_aload_n hx hb dJ5_append_c97b9_53 rfl (lv_at hl 2 rfl) ?_
  have hP := hP.sub (ws' := [(q_b, .inr (7, [.ref v1, .int (0 : Int32), .int (0 : Int32), .int (nI (n + 1))])), (v1, .inl (cB, m1, .inl ((upd f1 n (nI (48 + c))))))]) [0, 1] rfl
  have hD := hD.sub (ws' := [(q_b, .inr (7, [.ref v1, .int (0 : Int32), .int (0 : Int32), .int (nI (n + 1))])), (v1, .inl (cB, m1, .inl ((upd f1 n (nI (48 + c))))))]) [0, 1] (by decide +kernel) rfl
  exact hret (v1, m1, upd f1 n (nI (48 + c))) (Nat.le_of_ble_eq_true rfl) (Nat.le_of_ble_eq_true rfl) ⟨e1, e2, fun j hj => (pk_un (by omega)).trans (e3 j (by omega)), pk_us, gF_updN e4 (c8 (48 + c) (by omega)).2.2.1⟩ hP hD hS dJ5_append_c97b9_54
abbrev rm_J4_append_bf812 : Room := { frames := 5, cells := 1, slots := 802, locals := 173 }
set_option maxHeartbeats 8000000 in
set_option maxRecDepth 100000 in
theorem c_J4_append_bf812 (l : Launch) (D : va_G) (X : gX) (cI cZ cB cG : ClassId) (sz : Nat) (c : Nat) (hc : c < 10) (q_b q_v m n : Nat) (f : Nat → Int32) (hf : gF f) (hnm : n ≤ m) (hm : m ≤ 802) (hn : n + 1 ≤ 400) : Met l yJ4_append_bf812 wsJ4_append_bf812 rm_J4_append_bf812 (gP D X (gT cI cZ cB cG) sz [.ref q_b, .int (nI c)] [(q_b, .inr (7, [.ref q_v, .int (0 : Int32), .int (0 : Int32), .int (nI n)])), (q_v, .inl (cB, m, .inl f))]) (va_Qr (fun (u : Nat × Nat × (Nat → Int32)) => n + 1 ≤ u.2.1 ∧ u.2.1 ≤ 802 ∧ (∀ j, j < n → u.2.2 j = f j) ∧ u.2.2 n = nI (48 + c) ∧ gF u.2.2) (fun u a t => a = q_b ∧ gB D (gT cI cZ cB cG) (va_A [(q_b, .inr (7, [.ref q_v, .int (0 : Int32), .int (0 : Int32), .int (nI n)])), (q_v, .inl (cB, m, .inl f))] sz) [(q_b, .inr (7, [.ref u.1, .int (0 : Int32), .int (0 : Int32), .int (nI (n + 1))])), (u.1, .inl (cB, u.2.1, .inl u.2.2))] t) (va_A [(q_b, .inr (7, [.ref q_v, .int (0 : Int32), .int (0 : Int32), .int (nI n)])), (q_v, .inl (cB, m, .inl f))] sz)) 1 802 (va_A [(q_b, .inr (7, [.ref q_v, .int (0 : Int32), .int (0 : Int32), .int (nI n)])), (q_v, .inl (cB, m, .inl f))] sz) := by
  refine g_ofMs (post := fun (u : Nat × Nat × (Nat → Int32)) => n + 1 ≤ u.2.1 ∧ u.2.1 ≤ 802 ∧ (∀ j, j < n → u.2.2 j = f j) ∧ u.2.2 n = nI (48 + c) ∧ gF u.2.2) (W1 := fun (u : Nat × Nat × (Nat → Int32)) => [(q_b, .inr (7, [.ref u.1, .int (0 : Int32), .int (0 : Int32), .int (nI (n + 1))])), (u.1, .inl (cB, u.2.1, .inl u.2.2))]) (cc := cJ4_append_bf812) (maxL := 2) q_b (by decide +kernel) (Nat.le_of_ble_eq_true rfl) rfl (by first | exact Or.inl ⟨_, rfl⟩ | exact Or.inr ⟨_, rfl⟩) ?_
  intro pp ee ss mth args below meth cdx A Q hx hb hml hown hts hini hA hK hE H hP hD hS ls hl hret
  have hl : lv_has ls 2 [(0, .ref q_b), (1, .int (nI c))] := hl
  refine lv_aload_n hx hb dJ4_append_bf812_0 rfl (lv_at hl 0 rfl) ?_
  refine lv_iload_n hx hb dJ4_append_bf812_1 rfl (lv_at hl 1 rfl) ?_
  have hPc := hP.sub (ws' := [(q_b, .inr (7, [.ref q_v, .int (0 : Int32), .int (0 : Int32), .int (nI n)])), (q_v, .inl (cB, m, .inl f))]) [0, 1] rfl
  have hDc := hD.sub (ws' := [(q_b, .inr (7, [.ref q_v, .int (0 : Int32), .int (0 : Int32), .int (nI n)])), (q_v, .inl (cB, m, .inl f))]) [0, 1] (by decide +kernel) rfl
  have hFc := va_free (wc := [(q_b, .inr (7, [.ref q_v, .int (0 : Int32), .int (0 : Int32), .int (nI n)])), (q_v, .inl (cB, m, .inl f))]) hD hS hA [0, 1] rfl
  refine va_callr (va_runSU (As := [.int (nI c)]) (rest := []) (hK.1 7 _ rfl).2 ⟨hx, hb, hml, hown, hts⟩ (c_J5_append_c97b9 l D X cI cZ cB cG H.size c hc q_b q_v m n f hf hnm hm hn) (va_cwSU 1 hts gJ4_append_bf812_J5_append_c97b9_s53 rfl rfl rfl (by decide +kernel) ⟨Nat.le_of_ble_eq_true rfl, Nat.le_of_ble_eq_true rfl⟩) ⟨g_blind, va_recv hK hP (ci := 7) (q0 := 0) rfl rfl, fun U hU hW => g_side hU hW hPc hK hDc hE hS hFc⟩ rfl rfl hl.1 rfl (lv_room (Nat.le_of_ble_eq_true rfl)) dJ4_append_bf812_2 ⟨Nat.le_of_ble_eq_true rfl, Nat.le_of_ble_eq_true rfl⟩) hS (fun q _ h => hFc q h) hFc (fun u r1 t H1 locs ht hvm h1 hB hz1 hk1 hS => ?_)
  obtain ⟨v1, m1, f1⟩ := u
  obtain ⟨hb9, hP1, hK1, hD1⟩ := hB
  have hb9 := hb9.symm
  subst hb9
  rw [ht] at hP1
  obtain ⟨hP, hD⟩ := va_join (wr := ([] : va_W)) (w1 := [(q_b, .inr (7, [.ref v1, .int (0 : Int32), .int (0 : Int32), .int (nI (n + 1))])), (v1, .inl (cB, m1, .inl f1))]) hP hD [0, 1] [] rfl rfl (by decide +kernel) (by decide +kernel) hk1 hFc hP1 hD1
  generalize H1 = H at hP hS ⊢
  have hP : va_P D vwCl [(q_b, .inr (7, [.ref v1, .int (0 : Int32), .int (0 : Int32), .int (nI (n + 1))])), (v1, .inl (cB, m1, .inl f1))] H := hP
  have hD : va_D A [(q_b, .inr (7, [.ref v1, .int (0 : Int32), .int (0 : Int32), .int (nI (n + 1))])), (v1, .inl (cB, m1, .inl f1))] := hD
  refine lv_pop hx hb dJ4_append_bf812_5 rfl ?_
  refine lv_aload_n hx hb dJ4_append_bf812_6 rfl (lv_at hl 0 rfl) ?_
  exact hret (v1, m1, f1) (Nat.le_of_ble_eq_true rfl) (Nat.le_of_ble_eq_true rfl) h1 hP hD hS dJ4_append_bf812_7
