/-! texts as lists of letters -/
def wN : List (List Nat) := [[103, 97, 109, 101], [101, 118, 101, 110], [111, 100, 100], [109, 111, 118, 101], [116, 111, 107, 101, 110], [59, 101, 118, 101, 110, 32], [59, 111, 100, 100, 32], [59, 109, 111, 118, 101, 32], [59, 116, 111, 107, 101, 110, 32]]
def wT (w : Nat) : List Nat := wN.getD w []
theorem wT_ok : ∀ w, w < 9 → gLen.getD w 0 = (wT w).length ∧ ∀ j, j < gLen.getD w 0 → (gByt.getD w []).getD j 0 = nI ((wT w).getD j 0) := by decide +kernel
theorem sbT_of {t s : List Nat} {m m1 : Nat} {f f1 : Nat → Int32} (h : sbT t m f) (h1 : t.length + s.length ≤ m1) (h2 : m1 ≤ 802) (h3 : ∀ j, j < t.length → f1 j = f j) (h4 : ∀ j, j < s.length → f1 (t.length + j) = nI (s.getD j 0)) (h5 : gF f1) : sbT (t ++ s) m1 f1 := by
  refine ⟨by rw [List.length_append]; exact h1, h2, h5, fun j hj => ?_⟩
  rw [List.length_append] at hj
  rcases Nat.lt_or_ge j t.length with q | q
  · rw [h3 j q, h.2.2.2 j q, List.getD_eq_getElem?_getD, List.getD_eq_getElem?_getD, List.getElem?_append_left q]
  · obtain ⟨i, rfl⟩ := Nat.exists_eq_add_of_le q
    rw [h4 i (by omega), List.getD_eq_getElem?_getD, List.getD_eq_getElem?_getD, List.getElem?_append_right q, Nat.add_sub_cancel_left]
theorem sbT_w {t : List Nat} {m m1 w : Nat} {f f1 : Nat → Int32} (hw : w < 9) (h : sbT t m f) (h1 : t.length + gLen.getD w 0 ≤ m1) (h2 : m1 ≤ 802) (h3 : ∀ j, j < t.length → f1 j = f j) (h4 : ∀ j, j < gLen.getD w 0 → f1 (t.length + j) = (gByt.getD w []).getD j 0) (h5 : gF f1) : sbT (t ++ wT w) m1 f1 := by
  obtain ⟨e1, e2⟩ := wT_ok w hw
  rw [e1] at h1 h4
  exact sbT_of h h1 h2 h3 (fun j hj => (h4 j hj).trans (e2 j (by rw [e1]; exact hj))) h5
theorem sbT_c {t : List Nat} {m m1 c : Nat} {f f1 : Nat → Int32} (h : sbT t m f) (h1 : t.length + 1 ≤ m1) (h2 : m1 ≤ 802) (h3 : ∀ j, j < t.length → f1 j = f j) (h4 : f1 t.length = nI c) (h5 : gF f1) : sbT (t ++ [c]) m1 f1 :=
  sbT_of h h1 h2 h3 (fun j hj => by
    obtain rfl : j = 0 := by simp at hj; omega
    exact h4) h5
theorem sbT_0 {w m : Nat} {f : Nat → Int32} (hw : w < 9) (h1 : gLen.getD w 0 ≤ m) (h2 : m ≤ 802) (h3 : ∀ j, j < gLen.getD w 0 → f j = (gByt.getD w []).getD j 0) (h4 : gF f) : sbT (wT w) m f := by
  obtain ⟨e1, e2⟩ := wT_ok w hw
  exact ⟨by rw [← e1]; exact h1, h2, h4, fun j hj => (h3 j (by rw [e1]; exact hj)).trans (e2 j (by rw [e1]; exact hj))⟩
set_option maxHeartbeats 8000000 in
set_option maxRecDepth 100000 in
theorem c_J4_append_15ec4t (l : Launch) (D : va_G) (X : gX) (cI cZ cB cG : ClassId) (sz : Nat) (w : Nat) (hw : w < 9) (q_b q_v m : Nat) (tx : List Nat) (f : Nat → Int32) (hT : sbT tx m f) (hn : tx.length + gLen.getD w 0 ≤ 400) : Met l yJ4_append_15ec4 wsJ4_append_15ec4 rm_J4_append_15ec4 (gP D X (gT cI cZ cB cG) sz [.ref q_b, .ref (X.1 w)] [(q_b, .inr (7, [.ref q_v, .int (0 : Int32), .int (0 : Int32), .int (nI tx.length)])), (q_v, .inl (cB, m, .inl f))]) (va_Qr (fun (u : Nat × Nat × (Nat → Int32)) => sbT (tx ++ wT w) u.2.1 u.2.2) (fun u a t => a = q_b ∧ gB D (gT cI cZ cB cG) (va_A [(q_b, .inr (7, [.ref q_v, .int (0 : Int32), .int (0 : Int32), .int (nI tx.length)])), (q_v, .inl (cB, m, .inl f))] sz) [(q_b, .inr (7, [.ref u.1, .int (0 : Int32), .int (0 : Int32), .int (nI (tx ++ wT w).length)])), (u.1, .inl (cB, u.2.1, .inl u.2.2))] t) (va_A [(q_b, .inr (7, [.ref q_v, .int (0 : Int32), .int (0 : Int32), .int (nI tx.length)])), (q_v, .inl (cB, m, .inl f))] sz)) 1 802 (va_A [(q_b, .inr (7, [.ref q_v, .int (0 : Int32), .int (0 : Int32), .int (nI tx.length)])), (q_v, .inl (cB, m, .inl f))] sz) := by
  refine g_ofMs (post := fun (u : Nat × Nat × (Nat → Int32)) => sbT (tx ++ wT w) u.2.1 u.2.2) (W1 := fun (u : Nat × Nat × (Nat → Int32)) => [(q_b, .inr (7, [.ref u.1, .int (0 : Int32), .int (0 : Int32), .int (nI (tx ++ wT w).length)])), (u.1, .inl (cB, u.2.1, .inl u.2.2))]) (cc := cJ4_append_15ec4) (maxL := 2) q_b (by decide +kernel) (Nat.le_of_ble_eq_true rfl) rfl (by first | exact Or.inl ⟨_, rfl⟩ | exact Or.inr ⟨_, rfl⟩) ?_
  intro pp ee ss mth args below meth cdx A Q hx hb hml hown hts hini hA hK hE H hP hD hS ls hl hret
  have hl : lv_has ls 2 [(0, .ref q_b), (1, .ref (X.1 w))] := hl
  refine lv_aload_n hx hb dJ4_append_15ec4_0 rfl (lv_at hl 0 rfl) ?_
  refine lv_aload_n hx hb dJ4_append_15ec4_1 rfl (lv_at hl 1 rfl) ?_
  have hPc := hP.sub (ws' := [(q_b, .inr (7, [.ref q_v, .int (0 : Int32), .int (0 : Int32), .int (nI tx.length)])), (q_v, .inl (cB, m, .inl f))]) [0, 1] rfl
  have hDc := hD.sub (ws' := [(q_b, .inr (7, [.ref q_v, .int (0 : Int32), .int (0 : Int32), .int (nI tx.length)])), (q_v, .inl (cB, m, .inl f))]) [0, 1] (by decide +kernel) rfl
  have hFc := va_free (wc := [(q_b, .inr (7, [.ref q_v, .int (0 : Int32), .int (0 : Int32), .int (nI tx.length)])), (q_v, .inl (cB, m, .inl f))]) hD hS hA [0, 1] rfl
  refine va_callr (va_runSU (As := [.ref (X.1 w)]) (rest := []) (hK.1 7 _ rfl).2 ⟨hx, hb, hml, hown, hts⟩ (c_J5_append_cf1ce l D X cI cZ cB cG H.size w hw q_b q_v m tx.length f hT.2.2.1 hT.1 hT.2.1 hn) (va_cwSU 1 hts gJ4_append_15ec4_J5_append_cf1ce_s29 rfl rfl rfl (by decide +kernel) ⟨Nat.le_of_ble_eq_true rfl, Nat.le_of_ble_eq_true rfl⟩) ⟨g_blind, va_recv hK hP (ci := 7) (q0 := 0) rfl rfl, fun U hU hW => g_side hU hW hPc hK hDc hE hS hFc⟩ rfl rfl hl.1 rfl (lv_room (Nat.le_of_ble_eq_true rfl)) dJ4_append_15ec4_2 ⟨Nat.le_of_ble_eq_true rfl, Nat.le_of_ble_eq_true rfl⟩) hS (fun q _ h => hFc q h) hFc (fun u r1 t H1 locs ht hvm h1 hB hz1 hk1 hS => ?_)
  obtain ⟨v1, m1, f1⟩ := u
  obtain ⟨hb9, hP1, hK1, hD1⟩ := hB
  have hb9 := hb9.symm
  subst hb9
  rw [ht] at hP1
  obtain ⟨hP, hD⟩ := va_join (wr := ([] : va_W)) (w1 := [(q_b, .inr (7, [.ref v1, .int (0 : Int32), .int (0 : Int32), .int (nI (tx.length + gLen.getD w 0))])), (v1, .inl (cB, m1, .inl f1))]) hP hD [0, 1] [] rfl rfl (by decide +kernel) (by decide +kernel) hk1 hFc hP1 hD1
  generalize H1 = H at hP hS ⊢
  have hP : va_P D vwCl [(q_b, .inr (7, [.ref v1, .int (0 : Int32), .int (0 : Int32), .int (nI (tx.length + gLen.getD w 0))])), (v1, .inl (cB, m1, .inl f1))] H := hP
  have hD : va_D A [(q_b, .inr (7, [.ref v1, .int (0 : Int32), .int (0 : Int32), .int (nI (tx.length + gLen.getD w 0))])), (v1, .inl (cB, m1, .inl f1))] := hD
  refine lv_pop hx hb dJ4_append_15ec4_5 rfl ?_
  refine lv_aload_n hx hb dJ4_append_15ec4_6 rfl (lv_at hl 0 rfl) ?_
  obtain ⟨e1, e2, e3, e4, e5⟩ := h1
  dsimp only at e1 e2 e3 e4 e5
  rw [show tx.length + gLen.getD w 0 = (tx ++ wT w).length from by rw [List.length_append, (wT_ok w hw).1]] at hP hD
  have hP : va_P D vwCl [(q_b, .inr (7, [.ref v1, .int (0 : Int32), .int (0 : Int32), .int (nI (tx ++ wT w).length)])), (v1, .inl (cB, m1, .inl f1))] H := hP
  have hD : va_D A [(q_b, .inr (7, [.ref v1, .int (0 : Int32), .int (0 : Int32), .int (nI (tx ++ wT w).length)])), (v1, .inl (cB, m1, .inl f1))] := hD
  exact hret (v1, m1, f1) (Nat.le_of_ble_eq_true rfl) (Nat.le_of_ble_eq_true rfl) (sbT_w hw hT e1 e2 e3 e4 e5) hP hD hS dJ4_append_15ec4_7
set_option maxHeartbeats 8000000 in
set_option maxRecDepth 100000 in
theorem c_J4_append_cf468t (l : Launch) (D : va_G) (X : gX) (cI cZ cB cG : ClassId) (sz : Nat) (c : Nat) (hc : c < 128) (q_b q_v m : Nat) (tx : List Nat) (f : Nat → Int32) (hT : sbT tx m f) (hn : tx.length + 1 ≤ 400) : Met l yJ4_append_cf468 wsJ4_append_cf468 rm_J4_append_cf468 (gP D X (gT cI cZ cB cG) sz [.ref q_b, .int (nI c)] [(q_b, .inr (7, [.ref q_v, .int (0 : Int32), .int (0 : Int32), .int (nI tx.length)])), (q_v, .inl (cB, m, .inl f))]) (va_Qr (fun (u : Nat × Nat × (Nat → Int32)) => sbT (tx ++ [c]) u.2.1 u.2.2) (fun u a t => a = q_b ∧ gB D (gT cI cZ cB cG) (va_A [(q_b, .inr (7, [.ref q_v, .int (0 : Int32), .int (0 : Int32), .int (nI tx.length)])), (q_v, .inl (cB, m, .inl f))] sz) [(q_b, .inr (7, [.ref u.1, .int (0 : Int32), .int (0 : Int32), .int (nI (tx ++ [c]).length)])), (u.1, .inl (cB, u.2.1, .inl u.2.2))] t) (va_A [(q_b, .inr (7, [.ref q_v, .int (0 : Int32), .int (0 : Int32), .int (nI tx.length)])), (q_v, .inl (cB, m, .inl f))] sz)) 1 802 (va_A [(q_b, .inr (7, [.ref q_v, .int (0 : Int32), .int (0 : Int32), .int (nI tx.length)])), (q_v, .inl (cB, m, .inl f))] sz) := by
  refine g_ofMs (post := fun (u : Nat × Nat × (Nat → Int32)) => sbT (tx ++ [c]) u.2.1 u.2.2) (W1 := fun (u : Nat × Nat × (Nat → Int32)) => [(q_b, .inr (7, [.ref u.1, .int (0 : Int32), .int (0 : Int32), .int (nI (tx ++ [c]).length)])), (u.1, .inl (cB, u.2.1, .inl u.2.2))]) (cc := cJ4_append_cf468) (maxL := 2) q_b (by decide +kernel) (Nat.le_of_ble_eq_true rfl) rfl (by first | exact Or.inl ⟨_, rfl⟩ | exact Or.inr ⟨_, rfl⟩) ?_
  intro pp ee ss mth args below meth cdx A Q hx hb hml hown hts hini hA hK hE H hP hD hS ls hl hret
  have hl : lv_has ls 2 [(0, .ref q_b), (1, .int (nI c))] := hl
  refine lv_aload_n hx hb dJ4_append_cf468_0 rfl (lv_at hl 0 rfl) ?_
  refine lv_iload_n hx hb dJ4_append_cf468_1 rfl (lv_at hl 1 rfl) ?_
  have hPc := hP.sub (ws' := [(q_b, .inr (7, [.ref q_v, .int (0 : Int32), .int (0 : Int32), .int (nI tx.length)])), (q_v, .inl (cB, m, .inl f))]) [0, 1] rfl
  have hDc := hD.sub (ws' := [(q_b, .inr (7, [.ref q_v, .int (0 : Int32), .int (0 : Int32), .int (nI tx.length)])), (q_v, .inl (cB, m, .inl f))]) [0, 1] (by decide +kernel) rfl
  have hFc := va_free (wc := [(q_b, .inr (7, [.ref q_v, .int (0 : Int32), .int (0 : Int32), .int (nI tx.length)])), (q_v, .inl (cB, m, .inl f))]) hD hS hA [0, 1] rfl
  refine va_callr (va_runSU (As := [.int (nI c)]) (rest := []) (hK.1 7 _ rfl).2 ⟨hx, hb, hml, hown, hts⟩ (c_J5_append_3fe6f l D X cI cZ cB cG H.size c hc q_b q_v m tx.length f hT.2.2.1 hT.1 hT.2.1 hn) (va_cwSU 1 hts gJ4_append_cf468_J5_append_3fe6f_s50 rfl rfl rfl (by decide +kernel) ⟨Nat.le_of_ble_eq_true rfl, Nat.le_of_ble_eq_true rfl⟩) ⟨g_blind, va_recv hK hP (ci := 7) (q0 := 0) rfl rfl, fun U hU hW => g_side hU hW hPc hK hDc hE hS hFc⟩ rfl rfl hl.1 rfl (lv_room (Nat.le_of_ble_eq_true rfl)) dJ4_append_cf468_2 ⟨Nat.le_of_ble_eq_true rfl, Nat.le_of_ble_eq_true rfl⟩) hS (fun q _ h => hFc q h) hFc (fun u r1 t H1 locs ht hvm h1 hB hz1 hk1 hS => ?_)
  obtain ⟨v1, m1, f1⟩ := u
  obtain ⟨hb9, hP1, hK1, hD1⟩ := hB
  have hb9 := hb9.symm
  subst hb9
  rw [ht] at hP1
  obtain ⟨hP, hD⟩ := va_join (wr := ([] : va_W)) (w1 := [(q_b, .inr (7, [.ref v1, .int (0 : Int32), .int (0 : Int32), .int (nI (tx.length + 1))])), (v1, .inl (cB, m1, .inl f1))]) hP hD [0, 1] [] rfl rfl (by decide +kernel) (by decide +kernel) hk1 hFc hP1 hD1
  generalize H1 = H at hP hS ⊢
  have hP : va_P D vwCl [(q_b, .inr (7, [.ref v1, .int (0 : Int32), .int (0 : Int32), .int (nI (tx.length + 1))])), (v1, .inl (cB, m1, .inl f1))] H := hP
  have hD : va_D A [(q_b, .inr (7, [.ref v1, .int (0 : Int32), .int (0 : Int32), .int (nI (tx.length + 1))])), (v1, .inl (cB, m1, .inl f1))] := hD
  refine lv_pop hx hb dJ4_append_cf468_5 rfl ?_
  refine lv_aload_n hx hb dJ4_append_cf468_6 rfl (lv_at hl 0 rfl) ?_
  obtain ⟨e1, e2, e3, e4, e5⟩ := h1
  dsimp only at e1 e2 e3 e4 e5
  rw [show tx.length + 1 = (tx ++ [c]).length from by rw [List.length_append]; rfl] at hP hD
  have hP : va_P D vwCl [(q_b, .inr (7, [.ref v1, .int (0 : Int32), .int (0 : Int32), .int (nI (tx ++ [c]).length)])), (v1, .inl (cB, m1, .inl f1))] H := hP
  have hD : va_D A [(q_b, .inr (7, [.ref v1, .int (0 : Int32), .int (0 : Int32), .int (nI (tx ++ [c]).length)])), (v1, .inl (cB, m1, .inl f1))] := hD
  exact hret (v1, m1, f1) (Nat.le_of_ble_eq_true rfl) (Nat.le_of_ble_eq_true rfl) (sbT_c hT e1 e2 e3 e4 e5) hP hD hS dJ4_append_cf468_7
set_option maxHeartbeats 8000000 in
set_option maxRecDepth 100000 in
theorem c_J4_append_bf812t (l : Launch) (D : va_G) (X : gX) (cI cZ cB cG : ClassId) (sz : Nat) (c : Nat) (hc : c < 10) (q_b q_v m : Nat) (tx : List Nat) (f : Nat → Int32) (hT : sbT tx m f) (hn : tx.length + 1 ≤ 400) : Met l yJ4_append_bf812 wsJ4_append_bf812 rm_J4_append_bf812 (gP D X (gT cI cZ cB cG) sz [.ref q_b, .int (nI c)] [(q_b, .inr (7, [.ref q_v, .int (0 : Int32), .int (0 : Int32), .int (nI tx.length)])), (q_v, .inl (cB, m, .inl f))]) (va_Qr (fun (u : Nat × Nat × (Nat → Int32)) => sbT (tx ++ [48 + c]) u.2.1 u.2.2) (fun u a t => a = q_b ∧ gB D (gT cI cZ cB cG) (va_A [(q_b, .inr (7, [.ref q_v, .int (0 : Int32), .int (0 : Int32), .int (nI tx.length)])), (q_v, .inl (cB, m, .inl f))] sz) [(q_b, .inr (7, [.ref u.1, .int (0 : Int32), .int (0 : Int32), .int (nI (tx ++ [48 + c]).length)])), (u.1, .inl (cB, u.2.1, .inl u.2.2))] t) (va_A [(q_b, .inr (7, [.ref q_v, .int (0 : Int32), .int (0 : Int32), .int (nI tx.length)])), (q_v, .inl (cB, m, .inl f))] sz)) 1 802 (va_A [(q_b, .inr (7, [.ref q_v, .int (0 : Int32), .int (0 : Int32), .int (nI tx.length)])), (q_v, .inl (cB, m, .inl f))] sz) := by
  refine g_ofMs (post := fun (u : Nat × Nat × (Nat → Int32)) => sbT (tx ++ [48 + c]) u.2.1 u.2.2) (W1 := fun (u : Nat × Nat × (Nat → Int32)) => [(q_b, .inr (7, [.ref u.1, .int (0 : Int32), .int (0 : Int32), .int (nI (tx ++ [48 + c]).length)])), (u.1, .inl (cB, u.2.1, .inl u.2.2))]) (cc := cJ4_append_bf812) (maxL := 2) q_b (by decide +kernel) (Nat.le_of_ble_eq_true rfl) rfl (by first | exact Or.inl ⟨_, rfl⟩ | exact Or.inr ⟨_, rfl⟩) ?_
  intro pp ee ss mth args below meth cdx A Q hx hb hml hown hts hini hA hK hE H hP hD hS ls hl hret
  have hl : lv_has ls 2 [(0, .ref q_b), (1, .int (nI c))] := hl
  refine lv_aload_n hx hb dJ4_append_bf812_0 rfl (lv_at hl 0 rfl) ?_
  refine lv_iload_n hx hb dJ4_append_bf812_1 rfl (lv_at hl 1 rfl) ?_
  have hPc := hP.sub (ws' := [(q_b, .inr (7, [.ref q_v, .int (0 : Int32), .int (0 : Int32), .int (nI tx.length)])), (q_v, .inl (cB, m, .inl f))]) [0, 1] rfl
  have hDc := hD.sub (ws' := [(q_b, .inr (7, [.ref q_v, .int (0 : Int32), .int (0 : Int32), .int (nI tx.length)])), (q_v, .inl (cB, m, .inl f))]) [0, 1] (by decide +kernel) rfl
  have hFc := va_free (wc := [(q_b, .inr (7, [.ref q_v, .int (0 : Int32), .int (0 : Int32), .int (nI tx.length)])), (q_v, .inl (cB, m, .inl f))]) hD hS hA [0, 1] rfl
  refine va_callr (va_runSU (As := [.int (nI c)]) (rest := []) (hK.1 7 _ rfl).2 ⟨hx, hb, hml, hown, hts⟩ (c_J5_append_c97b9 l D X cI cZ cB cG H.size c hc q_b q_v m tx.length f hT.2.2.1 hT.1 hT.2.1 hn) (va_cwSU 1 hts gJ4_append_bf812_J5_append_c97b9_s53 rfl rfl rfl (by decide +kernel) ⟨Nat.le_of_ble_eq_true rfl, Nat.le_of_ble_eq_true rfl⟩) ⟨g_blind, va_recv hK hP (ci := 7) (q0 := 0) rfl rfl, fun U hU hW => g_side hU hW hPc hK hDc hE hS hFc⟩ rfl rfl hl.1 rfl (lv_room (Nat.le_of_ble_eq_true rfl)) dJ4_append_bf812_2 ⟨Nat.le_of_ble_eq_true rfl, Nat.le_of_ble_eq_true rfl⟩) hS (fun q _ h => hFc q h) hFc (fun u r1 t H1 locs ht hvm h1 hB hz1 hk1 hS => ?_)
  obtain ⟨v1, m1, f1⟩ := u
  obtain ⟨hb9, hP1, hK1, hD1⟩ := hB
  have hb9 := hb9.symm
  subst hb9
  rw [ht] at hP1
  obtain ⟨hP, hD⟩ := va_join (wr := ([] : va_W)) (w1 := [(q_b, .inr (7, [.ref v1, .int (0 : Int32), .int (0 : Int32), .int (nI (tx.length + 1))])), (v1, .inl (cB, m1, .inl f1))]) hP hD [0, 1] [] rfl rfl (by decide +kernel) (by decide +kernel) hk1 hFc hP1 hD1
  generalize H1 = H at hP hS ⊢
  have hP : va_P D vwCl [(q_b, .inr (7, [.ref v1, .int (0 : Int32), .int (0 : Int32), .int (nI (tx.length + 1))])), (v1, .inl (cB, m1, .inl f1))] H := hP
  have hD : va_D A [(q_b, .inr (7, [.ref v1, .int (0 : Int32), .int (0 : Int32), .int (nI (tx.length + 1))])), (v1, .inl (cB, m1, .inl f1))] := hD
  refine lv_pop hx hb dJ4_append_bf812_5 rfl ?_
  refine lv_aload_n hx hb dJ4_append_bf812_6 rfl (lv_at hl 0 rfl) ?_
  obtain ⟨e1, e2, e3, e4, e5⟩ := h1
  dsimp only at e1 e2 e3 e4 e5
  rw [show tx.length + 1 = (tx ++ [48 + c]).length from by rw [List.length_append]; rfl] at hP hD
  have hP : va_P D vwCl [(q_b, .inr (7, [.ref v1, .int (0 : Int32), .int (0 : Int32), .int (nI (tx ++ [48 + c]).length)])), (v1, .inl (cB, m1, .inl f1))] H := hP
  have hD : va_D A [(q_b, .inr (7, [.ref v1, .int (0 : Int32), .int (0 : Int32), .int (nI (tx ++ [48 + c]).length)])), (v1, .inl (cB, m1, .inl f1))] := hD
  exact hret (v1, m1, f1) (Nat.le_of_ble_eq_true rfl) (Nat.le_of_ble_eq_true rfl) (sbT_c hT e1 e2 e3 e4 e5) hP hD hS dJ4_append_bf812_7
set_option maxHeartbeats 8000000 in
set_option maxRecDepth 100000 in
theorem c_J4_init_a7421t (l : Launch) (D : va_G) (X : gX) (cI cZ cB cG : ClassId) (sz : Nat) (w : Nat) (hw : w < 9) (q_b : Nat) : Met l yJ4_init_a7421 wsJ4_init_a7421 rm_J4_init_a7421 (gP D X (gT cI cZ cB cG) sz [.ref q_b, .ref (X.1 w)] [(q_b, .inr (7, [.null, .int (0 : Int32), .int (0 : Int32), .int (0 : Int32)]))]) (va_Qv (fun (u : Nat × Nat × (Nat → Int32)) => sbT (wT w) u.2.1 u.2.2) (fun u t => gB D (gT cI cZ cB cG) (va_A [(q_b, .inr (7, [.null, .int (0 : Int32), .int (0 : Int32), .int (0 : Int32)]))] sz) [(q_b, .inr (7, [.ref u.1, .int (0 : Int32), .int (0 : Int32), .int (nI (wT w).length)])), (u.1, .inl (cB, u.2.1, .inl u.2.2))] t) (va_A [(q_b, .inr (7, [.null, .int (0 : Int32), .int (0 : Int32), .int (0 : Int32)]))] sz)) 2 830 (va_A [(q_b, .inr (7, [.null, .int (0 : Int32), .int (0 : Int32), .int (0 : Int32)]))] sz) := by
  refine g_ofMv (post := fun (u : Nat × Nat × (Nat → Int32)) => sbT (wT w) u.2.1 u.2.2) (W1 := fun (u : Nat × Nat × (Nat → Int32)) => [(q_b, .inr (7, [.ref u.1, .int (0 : Int32), .int (0 : Int32), .int (nI (wT w).length)])), (u.1, .inl (cB, u.2.1, .inl u.2.2))]) (cc := cJ4_init_a7421) (maxL := 2) (by decide +kernel) (Nat.le_of_ble_eq_true rfl) rfl ?_
  intro pp ee ss mth args below meth cdx A Q hx hb hml hown hts hini hA hK hE H hP hD hS ls hl hret
  have hl : lv_has ls 2 [(0, .ref q_b), (1, .ref (X.1 w))] := hl
  refine lv_aload_n hx hb dJ4_init_a7421_0 rfl (lv_at hl 0 rfl) ?_
  refine lv_aload_n hx hb dJ4_init_a7421_1 rfl (lv_at hl 1 rfl) ?_
  have hPc := hP.sub (ws' := [(q_b, .inr (7, [.null, .int (0 : Int32), .int (0 : Int32), .int (0 : Int32)]))]) [0] rfl
  have hDc := hD.sub (ws' := [(q_b, .inr (7, [.null, .int (0 : Int32), .int (0 : Int32), .int (0 : Int32)]))]) [0] (by decide +kernel) rfl
  have hFc := va_free (wc := [(q_b, .inr (7, [.null, .int (0 : Int32), .int (0 : Int32), .int (0 : Int32)]))]) hD hS hA [0] rfl
  refine va_callv (va_runI (As := [.ref (X.1 w)]) (rest := []) ⟨hx, hb, hml, hown, hts⟩ (c_J5_init_a7421 l D X cI cZ cB cG H.size w hw q_b) (cwI 1 hts gJ4_init_a7421_J5_init_a7421 rfl rfl rfl (hts (.initialized RJ5) (by decide +kernel)) (hts (.methodLink RJ4 7 yJ5_init_a7421) (by decide +kernel)) (hts (.instanceMethod yJ5_init_a7421) (by decide +kernel)) rfl (by decide +kernel) ⟨Nat.le_of_ble_eq_true rfl, Nat.le_of_ble_eq_true rfl⟩) ⟨g_blind, fun U hU hW => g_side hU hW hPc hK hDc hE hS hFc⟩ rfl rfl hl.1 rfl (lv_room (Nat.le_of_ble_eq_true rfl)) dJ4_init_a7421_2 ⟨Nat.le_of_ble_eq_true rfl, Nat.le_of_ble_eq_true rfl⟩) hS (fun q _ h => hFc q h) hFc (fun u t H1 locs ht hvm h1 hB hz1 hk1 hS => ?_)
  obtain ⟨v1, m1, f1⟩ := u
  obtain ⟨hP1, hK1, hD1⟩ := hB
  rw [ht] at hP1
  obtain ⟨hP, hD⟩ := va_join (wr := ([] : va_W)) (w1 := [(q_b, .inr (7, [.ref v1, .int (0 : Int32), .int (0 : Int32), .int (nI (gLen.getD w 0))])), (v1, .inl (cB, m1, .inl f1))]) hP hD [0] [] rfl rfl (by decide +kernel) (by decide +kernel) hk1 hFc hP1 hD1
  generalize H1 = H at hP hS ⊢
  have hP : va_P D vwCl [(q_b, .inr (7, [.ref v1, .int (0 : Int32), .int (0 : Int32), .int (nI (gLen.getD w 0))])), (v1, .inl (cB, m1, .inl f1))] H := hP
  have hD : va_D A [(q_b, .inr (7, [.ref v1, .int (0 : Int32), .int (0 : Int32), .int (nI (gLen.getD w 0))])), (v1, .inl (cB, m1, .inl f1))] := hD
  obtain ⟨e1, e2, e3, e4⟩ := h1
  dsimp only at e1 e2 e3 e4
  rw [(wT_ok w hw).1] at hP hD
  have hP : va_P D vwCl [(q_b, .inr (7, [.ref v1, .int (0 : Int32), .int (0 : Int32), .int (nI (wT w).length)])), (v1, .inl (cB, m1, .inl f1))] H := hP
  have hD : va_D A [(q_b, .inr (7, [.ref v1, .int (0 : Int32), .int (0 : Int32), .int (nI (wT w).length)])), (v1, .inl (cB, m1, .inl f1))] := hD
  exact hret (v1, m1, f1) (Nat.le_of_ble_eq_true rfl) (Nat.le_of_ble_eq_true rfl) (sbT_0 hw e1 e2 e3 e4) hP hD hS dJ4_init_a7421_5
