abbrev wd_X1_clear (cI cZ cB cG : ClassId) (q_t : Nat) (q_t_calls : Nat) (q_t_from : Nat) (q_t_to : Nat) (q_t_heard : Nat) (t_places : Int32) (t_odd : Int32) (t_moves : Int32) (t_token : Int32) (t_made : Int32) : va_W := [(q_t, .inr (1, [.int t_places, .int t_odd, .ref q_t_calls, .int t_moves, .ref q_t_from, .ref q_t_to, .int t_token, .int t_made, .ref q_t_heard]))]
def wp_X1_clear (post : Int32 → Int32 → Int32 → Int32 → Int32 → Prop) : Prop := (post (0 : Int32) (0 : Int32) (0 : Int32) (0 : Int32) (0 : Int32))
abbrev rm_X1_clear : Room := { frames := 1, cells := 0, slots := 0, locals := 80 }
theorem in_X1_clear_X1 : ∀ w ∈ u_ws RX1 TX1 9, w ∈ wsX1_clear := by decide +kernel
theorem k_X1_clear_24 : Cond.fieldLink RX1 24 "ParityGame$Game" "places" "I" ∈ wsX1_clear := by decide +kernel
theorem k_X1_clear_28 : Cond.fieldLink RX1 28 "ParityGame$Game" "odd" "I" ∈ wsX1_clear := by decide +kernel
theorem k_X1_clear_31 : Cond.fieldLink RX1 31 "ParityGame$Game" "moves" "I" ∈ wsX1_clear := by decide +kernel
theorem k_X1_clear_34 : Cond.fieldLink RX1 34 "ParityGame$Game" "token" "I" ∈ wsX1_clear := by decide +kernel
theorem k_X1_clear_37 : Cond.fieldLink RX1 37 "ParityGame$Game" "made" "I" ∈ wsX1_clear := by decide +kernel
set_option maxHeartbeats 40000000 in
set_option maxRecDepth 100000 in
theorem c_X1_clear (l : Launch) (D : va_G) (X : gX) (cI cZ cB cG : ClassId) (sz : Nat) (q_t : Nat) (q_t_calls : Nat) (q_t_from : Nat) (q_t_to : Nat) (q_t_heard : Nat) (t_places : Int32) (t_odd : Int32) (t_moves : Int32) (t_token : Int32) (t_made : Int32) (post : Int32 → Int32 → Int32 → Int32 → Int32 → Prop) (hf : wp_X1_clear post) : Met l yX1_clear wsX1_clear rm_X1_clear (gP D X (gT cI cZ cB cG) sz [.ref q_t] (wd_X1_clear cI cZ cB cG q_t q_t_calls q_t_from q_t_to q_t_heard t_places t_odd t_moves t_token t_made)) (va_Qv (fun (u : Int32 × Int32 × Int32 × Int32 × Int32) => post u.1 u.2.1 u.2.2.1 u.2.2.2.1 u.2.2.2.2) (fun u t => gB D (gT cI cZ cB cG) (va_A (wd_X1_clear cI cZ cB cG q_t q_t_calls q_t_from q_t_to q_t_heard t_places t_odd t_moves t_token t_made) sz) (wd_X1_clear cI cZ cB cG q_t q_t_calls q_t_from q_t_to q_t_heard u.1 u.2.1 u.2.2.1 u.2.2.2.1 u.2.2.2.2) t) (va_A (wd_X1_clear cI cZ cB cG q_t q_t_calls q_t_from q_t_to q_t_heard t_places t_odd t_moves t_token t_made) sz)) 0 0 (va_A (wd_X1_clear cI cZ cB cG q_t q_t_calls q_t_from q_t_to q_t_heard t_places t_odd t_moves t_token t_made) sz) := by
  refine g_ofWv (cc := cX1_clear) (maxL := 1) (by decide +kernel) (Nat.le_of_ble_eq_true rfl) rfl ?_
  intro p e s m args below meth c A Q hx hb hml hown hts hA hK hE H hP hD hS ls hl hret
  have hinX1 := in_X1_clear_X1
  have k24 := hts _ k_X1_clear_24
  have k28 := hts _ k_X1_clear_28
  have k31 := hts _ k_X1_clear_31
  have k34 := hts _ k_X1_clear_34
  have k37 := hts _ k_X1_clear_37
  have hl : lv_has ls 1 [(0, .ref q_t)] := hl
  unfold wp_X1_clear at hf
  refine lv_aload_n hx hb dX1_clear_0 rfl (lv_at hl 0 rfl) ?_
  refine lv_iconst (v := (0 : Int32)) hx hb dX1_clear_1 (by decide) ?_
  refine va_put (D := D) (ci := 1) (v := .int (0 : Int32)) (ty := .int) (C := RX1) (T := TX1) (N := 9) hx hb hts hinX1 tyX1 tyX1_ok nmX1 hown hK hP hD hS 0 rfl rfl 0 (by decide) k24 (fun _ h9 => h9) rfl (by decide +kernel) rfl rfl (Nat.le_of_ble_eq_true rfl) dX1_clear_2 (fun H locs hP hD hS => ?_)
  have hP : va_P D vwCl (wd_X1_clear cI cZ cB cG q_t q_t_calls q_t_from q_t_to q_t_heard (0 : Int32) t_odd t_moves t_token t_made) H := hP
  have hD : va_D A (wd_X1_clear cI cZ cB cG q_t q_t_calls q_t_from q_t_to q_t_heard (0 : Int32) t_odd t_moves t_token t_made) := hD
  refine lv_aload_n hx hb dX1_clear_5 rfl (lv_at hl 0 rfl) ?_
  refine lv_iconst (v := (0 : Int32)) hx hb dX1_clear_6 (by decide) ?_
  refine va_put (D := D) (ci := 1) (v := .int (0 : Int32)) (ty := .int) (C := RX1) (T := TX1) (N := 9) hx hb hts hinX1 tyX1 tyX1_ok nmX1 hown hK hP hD hS 0 rfl rfl 1 (by decide) k28 (fun _ h9 => h9) rfl (by decide +kernel) rfl rfl (Nat.le_of_ble_eq_true rfl) dX1_clear_7 (fun H locs hP hD hS => ?_)
  have hP : va_P D vwCl (wd_X1_clear cI cZ cB cG q_t q_t_calls q_t_from q_t_to q_t_heard (0 : Int32) (0 : Int32) t_moves t_token t_made) H := hP
  have hD : va_D A (wd_X1_clear cI cZ cB cG q_t q_t_calls q_t_from q_t_to q_t_heard (0 : Int32) (0 : Int32) t_moves t_token t_made) := hD
  refine lv_aload_n hx hb dX1_clear_10 rfl (lv_at hl 0 rfl) ?_
  refine lv_iconst (v := (0 : Int32)) hx hb dX1_clear_11 (by decide) ?_
  refine va_put (D := D) (ci := 1) (v := .int (0 : Int32)) (ty := .int) (C := RX1) (T := TX1) (N := 9) hx hb hts hinX1 tyX1 tyX1_ok nmX1 hown hK hP hD hS 0 rfl rfl 3 (by decide) k31 (fun _ h9 => h9) rfl (by decide +kernel) rfl rfl (Nat.le_of_ble_eq_true rfl) dX1_clear_12 (fun H locs hP hD hS => ?_)
  have hP : va_P D vwCl (wd_X1_clear cI cZ cB cG q_t q_t_calls q_t_from q_t_to q_t_heard (0 : Int32) (0 : Int32) (0 : Int32) t_token t_made) H := hP
  have hD : va_D A (wd_X1_clear cI cZ cB cG q_t q_t_calls q_t_from q_t_to q_t_heard (0 : Int32) (0 : Int32) (0 : Int32) t_token t_made) := hD
  refine lv_aload_n hx hb dX1_clear_15 rfl (lv_at hl 0 rfl) ?_
  refine lv_iconst (v := (0 : Int32)) hx hb dX1_clear_16 (by decide) ?_
  refine va_put (D := D) (ci := 1) (v := .int (0 : Int32)) (ty := .int) (C := RX1) (T := TX1) (N := 9) hx hb hts hinX1 tyX1 tyX1_ok nmX1 hown hK hP hD hS 0 rfl rfl 6 (by decide) k34 (fun _ h9 => h9) rfl (by decide +kernel) rfl rfl (Nat.le_of_ble_eq_true rfl) dX1_clear_17 (fun H locs hP hD hS => ?_)
  have hP : va_P D vwCl (wd_X1_clear cI cZ cB cG q_t q_t_calls q_t_from q_t_to q_t_heard (0 : Int32) (0 : Int32) (0 : Int32) (0 : Int32) t_made) H := hP
  have hD : va_D A (wd_X1_clear cI cZ cB cG q_t q_t_calls q_t_from q_t_to q_t_heard (0 : Int32) (0 : Int32) (0 : Int32) (0 : Int32) t_made) := hD
  refine lv_aload_n hx hb dX1_clear_20 rfl (lv_at hl 0 rfl) ?_
  refine lv_iconst (v := (0 : Int32)) hx hb dX1_clear_21 (by decide) ?_
  refine va_put (D := D) (ci := 1) (v := .int (0 : Int32)) (ty := .int) (C := RX1) (T := TX1) (N := 9) hx hb hts hinX1 tyX1 tyX1_ok nmX1 hown hK hP hD hS 0 rfl rfl 7 (by decide) k37 (fun _ h9 => h9) rfl (by decide +kernel) rfl rfl (Nat.le_of_ble_eq_true rfl) dX1_clear_22 (fun H locs hP hD hS => ?_)
  have hP : va_P D vwCl (wd_X1_clear cI cZ cB cG q_t q_t_calls q_t_from q_t_to q_t_heard (0 : Int32) (0 : Int32) (0 : Int32) (0 : Int32) (0 : Int32)) H := hP
  have hD : va_D A (wd_X1_clear cI cZ cB cG q_t q_t_calls q_t_from q_t_to q_t_heard (0 : Int32) (0 : Int32) (0 : Int32) (0 : Int32) (0 : Int32)) := hD
  exact hret (((0 : Int32), (0 : Int32), (0 : Int32), (0 : Int32), (0 : Int32))) hf hP hD hS dX1_clear_25
abbrev wd_X1_copy (cI cZ cB cG : ClassId) (q_o1 : Nat) (q_t : Nat) (q_o1_calls : Nat) (q_o1_from : Nat) (q_o1_heard : Nat) (q_o1_to : Nat) (q_t_calls : Nat) (q_t_from : Nat) (q_t_heard : Nat) (q_t_to : Nat) (o1_places : Int32) (o1_odd : Int32) (o1_moves : Int32) (o1_token : Int32) (o1_made : Int32) (t_places : Int32) (t_odd : Int32) (t_moves : Int32) (t_token : Int32) (t_made : Int32) (o1_calls : (Nat → Int32)) (o1_from : (Nat → Int32)) (o1_heard : (Nat → Int32)) (o1_to : (Nat → Int32)) (t_calls : (Nat → Int32)) (t_from : (Nat → Int32)) (t_heard : (Nat → Int32)) (t_to : (Nat → Int32)) : va_W := [(q_o1, .inr (1, [.int o1_places, .int o1_odd, .ref q_o1_calls, .int o1_moves, .ref q_o1_from, .ref q_o1_to, .int o1_token, .int o1_made, .ref q_o1_heard])), (q_t, .inr (1, [.int t_places, .int t_odd, .ref q_t_calls, .int t_moves, .ref q_t_from, .ref q_t_to, .int t_token, .int t_made, .ref q_t_heard])), (q_o1_calls, .inl (cI, 20, .inl o1_calls)), (q_o1_from, .inl (cI, 60, .inl o1_from)), (q_o1_heard, .inl (cI, 10, .inl o1_heard)), (q_o1_to, .inl (cI, 60, .inl o1_to)), (q_t_calls, .inl (cI, 20, .inl t_calls)), (q_t_from, .inl (cI, 60, .inl t_from)), (q_t_heard, .inl (cI, 10, .inl t_heard)), (q_t_to, .inl (cI, 60, .inl t_to))]
def wp_X1_copy (o1_places : Int32) (o1_odd : Int32) (o1_moves : Int32) (o1_token : Int32) (o1_made : Int32) (o1_calls : (Nat → Int32)) (o1_from : (Nat → Int32)) (o1_heard : (Nat → Int32)) (o1_to : (Nat → Int32)) (t_calls : (Nat → Int32)) (t_from : (Nat → Int32)) (t_heard : (Nat → Int32)) (t_to : (Nat → Int32)) (post : Int32 → Int32 → Int32 → Int32 → Int32 → (Nat → Int32) → (Nat → Int32) → (Nat → Int32) → (Nat → Int32) → Prop) : Prop := (post o1_places o1_odd o1_moves o1_token o1_made (va_cpy o1_calls t_calls 0 0 20) (va_cpy o1_from t_from 0 0 60) (va_cpy o1_heard t_heard 0 0 10) (va_cpy o1_to t_to 0 0 60))
abbrev rm_X1_copy : Room := { frames := 1, cells := 0, slots := 0, locals := 80 }
theorem in_X1_copy_X1 : ∀ w ∈ u_ws RX1 TX1 9, w ∈ wsX1_copy := by decide +kernel
theorem k_X1_copy_9 : Cond.fieldLink RX1 9 "ParityGame$Game" "calls" "[I" ∈ wsX1_copy := by decide +kernel
theorem k_X1_copy_15 : Cond.fieldLink RX1 15 "ParityGame$Game" "from" "[I" ∈ wsX1_copy := by decide +kernel
theorem k_X1_copy_18 : Cond.fieldLink RX1 18 "ParityGame$Game" "to" "[I" ∈ wsX1_copy := by decide +kernel
theorem k_X1_copy_21 : Cond.fieldLink RX1 21 "ParityGame$Game" "heard" "[I" ∈ wsX1_copy := by decide +kernel
theorem k_X1_copy_24 : Cond.fieldLink RX1 24 "ParityGame$Game" "places" "I" ∈ wsX1_copy := by decide +kernel
theorem k_X1_copy_28 : Cond.fieldLink RX1 28 "ParityGame$Game" "odd" "I" ∈ wsX1_copy := by decide +kernel
theorem k_X1_copy_31 : Cond.fieldLink RX1 31 "ParityGame$Game" "moves" "I" ∈ wsX1_copy := by decide +kernel
theorem k_X1_copy_34 : Cond.fieldLink RX1 34 "ParityGame$Game" "token" "I" ∈ wsX1_copy := by decide +kernel
theorem k_X1_copy_37 : Cond.fieldLink RX1 37 "ParityGame$Game" "made" "I" ∈ wsX1_copy := by decide +kernel
theorem kc_X1_copy_40 : ∀ w ∈ ([.methodLink RX1 40 arraycopyName, .native arraycopyName, .static arraycopyName, .initialized "java/lang/System"] : List Cond), w ∈ wsX1_copy := by decide +kernel
set_option maxHeartbeats 40000000 in
set_option maxRecDepth 100000 in
theorem c_X1_copy (l : Launch) (D : va_G) (X : gX) (cI cZ cB cG : ClassId) (sz : Nat) (q_o1 : Nat) (q_t : Nat) (q_o1_calls : Nat) (q_o1_from : Nat) (q_o1_heard : Nat) (q_o1_to : Nat) (q_t_calls : Nat) (q_t_from : Nat) (q_t_heard : Nat) (q_t_to : Nat) (o1_places : Int32) (o1_odd : Int32) (o1_moves : Int32) (o1_token : Int32) (o1_made : Int32) (t_places : Int32) (t_odd : Int32) (t_moves : Int32) (t_token : Int32) (t_made : Int32) (o1_calls : (Nat → Int32)) (o1_from : (Nat → Int32)) (o1_heard : (Nat → Int32)) (o1_to : (Nat → Int32)) (t_calls : (Nat → Int32)) (t_from : (Nat → Int32)) (t_heard : (Nat → Int32)) (t_to : (Nat → Int32)) (post : Int32 → Int32 → Int32 → Int32 → Int32 → (Nat → Int32) → (Nat → Int32) → (Nat → Int32) → (Nat → Int32) → Prop) (hf : wp_X1_copy o1_places o1_odd o1_moves o1_token o1_made o1_calls o1_from o1_heard o1_to t_calls t_from t_heard t_to post) : Met l yX1_copy wsX1_copy rm_X1_copy (gP D X (gT cI cZ cB cG) sz [.ref q_t, .ref q_o1] (wd_X1_copy cI cZ cB cG q_o1 q_t q_o1_calls q_o1_from q_o1_heard q_o1_to q_t_calls q_t_from q_t_heard q_t_to o1_places o1_odd o1_moves o1_token o1_made t_places t_odd t_moves t_token t_made o1_calls o1_from o1_heard o1_to t_calls t_from t_heard t_to)) (va_Qv (fun (u : Int32 × Int32 × Int32 × Int32 × Int32 × (Nat → Int32) × (Nat → Int32) × (Nat → Int32) × (Nat → Int32)) => post u.1 u.2.1 u.2.2.1 u.2.2.2.1 u.2.2.2.2.1 u.2.2.2.2.2.1 u.2.2.2.2.2.2.1 u.2.2.2.2.2.2.2.1 u.2.2.2.2.2.2.2.2) (fun u t => gB D (gT cI cZ cB cG) (va_A (wd_X1_copy cI cZ cB cG q_o1 q_t q_o1_calls q_o1_from q_o1_heard q_o1_to q_t_calls q_t_from q_t_heard q_t_to o1_places o1_odd o1_moves o1_token o1_made t_places t_odd t_moves t_token t_made o1_calls o1_from o1_heard o1_to t_calls t_from t_heard t_to) sz) (wd_X1_copy cI cZ cB cG q_o1 q_t q_o1_calls q_o1_from q_o1_heard q_o1_to q_t_calls q_t_from q_t_heard q_t_to o1_places o1_odd o1_moves o1_token o1_made u.1 u.2.1 u.2.2.1 u.2.2.2.1 u.2.2.2.2.1 o1_calls o1_from o1_heard o1_to u.2.2.2.2.2.1 u.2.2.2.2.2.2.1 u.2.2.2.2.2.2.2.1 u.2.2.2.2.2.2.2.2) t) (va_A (wd_X1_copy cI cZ cB cG q_o1 q_t q_o1_calls q_o1_from q_o1_heard q_o1_to q_t_calls q_t_from q_t_heard q_t_to o1_places o1_odd o1_moves o1_token o1_made t_places t_odd t_moves t_token t_made o1_calls o1_from o1_heard o1_to t_calls t_from t_heard t_to) sz)) 0 0 (va_A (wd_X1_copy cI cZ cB cG q_o1 q_t q_o1_calls q_o1_from q_o1_heard q_o1_to q_t_calls q_t_from q_t_heard q_t_to o1_places o1_odd o1_moves o1_token o1_made t_places t_odd t_moves t_token t_made o1_calls o1_from o1_heard o1_to t_calls t_from t_heard t_to) sz) := by
  refine g_ofWv (cc := cX1_copy) (maxL := 2) (by decide +kernel) (Nat.le_of_ble_eq_true rfl) rfl ?_
  intro p e s m args below meth c A Q hx hb hml hown hts hA hK hE H hP hD hS ls hl hret
  have hinX1 := in_X1_copy_X1
  have k9 := hts _ k_X1_copy_9
  have k15 := hts _ k_X1_copy_15
  have k18 := hts _ k_X1_copy_18
  have k21 := hts _ k_X1_copy_21
  have k24 := hts _ k_X1_copy_24
  have k28 := hts _ k_X1_copy_28
  have k31 := hts _ k_X1_copy_31
  have k34 := hts _ k_X1_copy_34
  have k37 := hts _ k_X1_copy_37
  have kc40 := hts _ (kc_X1_copy_40 _ (List.mem_of_getElem? (i := 0) rfl))
  have hcnat := hts _ (kc_X1_copy_40 _ (List.mem_of_getElem? (i := 1) rfl))
  have hcstat := hts _ (kc_X1_copy_40 _ (List.mem_of_getElem? (i := 2) rfl))
  have hcini := hts _ (kc_X1_copy_40 _ (List.mem_of_getElem? (i := 3) rfl))
  have hl : lv_has ls 2 [(0, .ref q_t), (1, .ref q_o1)] := hl
  unfold wp_X1_copy at hf
  refine lv_aload_n hx hb dX1_copy_0 rfl (lv_at hl 0 rfl) ?_
  refine lv_aload_n hx hb dX1_copy_1 rfl (lv_at hl 1 rfl) ?_
  refine va_get (D := D) (ci := 1) (v := .int o1_places) (C := RX1) (T := TX1) (N := 9) hx hb hts hinX1 hown hK hP 0 rfl rfl 0 (by decide) k24 (fun _ h9 => h9) rfl dX1_copy_2 ?_
  refine va_put (D := D) (ci := 1) (v := .int o1_places) (ty := .int) (C := RX1) (T := TX1) (N := 9) hx hb hts hinX1 tyX1 tyX1_ok nmX1 hown hK hP hD hS 1 rfl rfl 0 (by decide) k24 (fun _ h9 => h9) rfl (by decide +kernel) rfl rfl (Nat.le_of_ble_eq_true rfl) dX1_copy_5 (fun H locs hP hD hS => ?_)
  have hP : va_P D vwCl (wd_X1_copy cI cZ cB cG q_o1 q_t q_o1_calls q_o1_from q_o1_heard q_o1_to q_t_calls q_t_from q_t_heard q_t_to o1_places o1_odd o1_moves o1_token o1_made o1_places t_odd t_moves t_token t_made o1_calls o1_from o1_heard o1_to t_calls t_from t_heard t_to) H := hP
  have hD : va_D A (wd_X1_copy cI cZ cB cG q_o1 q_t q_o1_calls q_o1_from q_o1_heard q_o1_to q_t_calls q_t_from q_t_heard q_t_to o1_places o1_odd o1_moves o1_token o1_made o1_places t_odd t_moves t_token t_made o1_calls o1_from o1_heard o1_to t_calls t_from t_heard t_to) := hD
  refine lv_aload_n hx hb dX1_copy_8 rfl (lv_at hl 0 rfl) ?_
  refine lv_aload_n hx hb dX1_copy_9 rfl (lv_at hl 1 rfl) ?_
  refine va_get (D := D) (ci := 1) (v := .int o1_odd) (C := RX1) (T := TX1) (N := 9) hx hb hts hinX1 hown hK hP 0 rfl rfl 1 (by decide) k28 (fun _ h9 => h9) rfl dX1_copy_10 ?_
  refine va_put (D := D) (ci := 1) (v := .int o1_odd) (ty := .int) (C := RX1) (T := TX1) (N := 9) hx hb hts hinX1 tyX1 tyX1_ok nmX1 hown hK hP hD hS 1 rfl rfl 1 (by decide) k28 (fun _ h9 => h9) rfl (by decide +kernel) rfl rfl (Nat.le_of_ble_eq_true rfl) dX1_copy_13 (fun H locs hP hD hS => ?_)
  have hP : va_P D vwCl (wd_X1_copy cI cZ cB cG q_o1 q_t q_o1_calls q_o1_from q_o1_heard q_o1_to q_t_calls q_t_from q_t_heard q_t_to o1_places o1_odd o1_moves o1_token o1_made o1_places o1_odd t_moves t_token t_made o1_calls o1_from o1_heard o1_to t_calls t_from t_heard t_to) H := hP
  have hD : va_D A (wd_X1_copy cI cZ cB cG q_o1 q_t q_o1_calls q_o1_from q_o1_heard q_o1_to q_t_calls q_t_from q_t_heard q_t_to o1_places o1_odd o1_moves o1_token o1_made o1_places o1_odd t_moves t_token t_made o1_calls o1_from o1_heard o1_to t_calls t_from t_heard t_to) := hD
  refine lv_aload_n hx hb dX1_copy_16 rfl (lv_at hl 1 rfl) ?_
  refine va_get (D := D) (ci := 1) (v := .ref q_o1_calls) (C := RX1) (T := TX1) (N := 9) hx hb hts hinX1 hown hK hP 0 rfl rfl 2 (by decide) k9 (fun _ h9 => h9) rfl dX1_copy_17 ?_
  refine lv_iconst (v := (0 : Int32)) hx hb dX1_copy_20 (by decide) ?_
  refine lv_aload_n hx hb dX1_copy_21 rfl (lv_at hl 0 rfl) ?_
  refine va_get (D := D) (ci := 1) (v := .ref q_t_calls) (C := RX1) (T := TX1) (N := 9) hx hb hts hinX1 hown hK hP 1 rfl rfl 2 (by decide) k9 (fun _ h9 => h9) rfl dX1_copy_22 ?_
  refine lv_iconst (v := (0 : Int32)) hx hb dX1_copy_25 (by decide) ?_
  refine lv_bipush (v := (20 : Int32)) hx hb dX1_copy_26 (by decide) ?_
  refine va_copyi hx hb (hml.trans hl.1.symm) hown kc40 hcnat hcstat hcini hK hP hD hS 2 6 0 0 rfl rfl rfl rfl rfl (by decide) (by decide) (by decide) (by decide) (by decide) (fun _ _ => rfl) (Nat.le_of_ble_eq_true rfl) (Nat.le_of_ble_eq_true rfl) dX1_copy_28 (fun H locs hP hD hS => ?_)
  have hP : va_P D vwCl (wd_X1_copy cI cZ cB cG q_o1 q_t q_o1_calls q_o1_from q_o1_heard q_o1_to q_t_calls q_t_from q_t_heard q_t_to o1_places o1_odd o1_moves o1_token o1_made o1_places o1_odd t_moves t_token t_made o1_calls o1_from o1_heard o1_to (va_cpy o1_calls t_calls 0 0 20) t_from t_heard t_to) H := hP
  have hD : va_D A (wd_X1_copy cI cZ cB cG q_o1 q_t q_o1_calls q_o1_from q_o1_heard q_o1_to q_t_calls q_t_from q_t_heard q_t_to o1_places o1_odd o1_moves o1_token o1_made o1_places o1_odd t_moves t_token t_made o1_calls o1_from o1_heard o1_to (va_cpy o1_calls t_calls 0 0 20) t_from t_heard t_to) := hD
  refine lv_aload_n hx hb dX1_copy_31 rfl (lv_at hl 0 rfl) ?_
  refine lv_aload_n hx hb dX1_copy_32 rfl (lv_at hl 1 rfl) ?_
  refine va_get (D := D) (ci := 1) (v := .int o1_moves) (C := RX1) (T := TX1) (N := 9) hx hb hts hinX1 hown hK hP 0 rfl rfl 3 (by decide) k31 (fun _ h9 => h9) rfl dX1_copy_33 ?_
  refine va_put (D := D) (ci := 1) (v := .int o1_moves) (ty := .int) (C := RX1) (T := TX1) (N := 9) hx hb hts hinX1 tyX1 tyX1_ok nmX1 hown hK hP hD hS 1 rfl rfl 3 (by decide) k31 (fun _ h9 => h9) rfl (by decide +kernel) rfl rfl (Nat.le_of_ble_eq_true rfl) dX1_copy_36 (fun H locs hP hD hS => ?_)
  have hP : va_P D vwCl (wd_X1_copy cI cZ cB cG q_o1 q_t q_o1_calls q_o1_from q_o1_heard q_o1_to q_t_calls q_t_from q_t_heard q_t_to o1_places o1_odd o1_moves o1_token o1_made o1_places o1_odd o1_moves t_token t_made o1_calls o1_from o1_heard o1_to (va_cpy o1_calls t_calls 0 0 20) t_from t_heard t_to) H := hP
  have hD : va_D A (wd_X1_copy cI cZ cB cG q_o1 q_t q_o1_calls q_o1_from q_o1_heard q_o1_to q_t_calls q_t_from q_t_heard q_t_to o1_places o1_odd o1_moves o1_token o1_made o1_places o1_odd o1_moves t_token t_made o1_calls o1_from o1_heard o1_to (va_cpy o1_calls t_calls 0 0 20) t_from t_heard t_to) := hD
  refine lv_aload_n hx hb dX1_copy_39 rfl (lv_at hl 1 rfl) ?_
  refine va_get (D := D) (ci := 1) (v := .ref q_o1_from) (C := RX1) (T := TX1) (N := 9) hx hb hts hinX1 hown hK hP 0 rfl rfl 4 (by decide) k15 (fun _ h9 => h9) rfl dX1_copy_40 ?_
  refine lv_iconst (v := (0 : Int32)) hx hb dX1_copy_43 (by decide) ?_
  refine lv_aload_n hx hb dX1_copy_44 rfl (lv_at hl 0 rfl) ?_
  refine va_get (D := D) (ci := 1) (v := .ref q_t_from) (C := RX1) (T := TX1) (N := 9) hx hb hts hinX1 hown hK hP 1 rfl rfl 4 (by decide) k15 (fun _ h9 => h9) rfl dX1_copy_45 ?_
  refine lv_iconst (v := (0 : Int32)) hx hb dX1_copy_48 (by decide) ?_
  refine lv_bipush (v := (60 : Int32)) hx hb dX1_copy_49 (by decide) ?_
  refine va_copyi hx hb (hml.trans hl.1.symm) hown kc40 hcnat hcstat hcini hK hP hD hS 3 7 0 0 rfl rfl rfl rfl rfl (by decide) (by decide) (by decide) (by decide) (by decide) (fun _ _ => rfl) (Nat.le_of_ble_eq_true rfl) (Nat.le_of_ble_eq_true rfl) dX1_copy_51 (fun H locs hP hD hS => ?_)
  have hP : va_P D vwCl (wd_X1_copy cI cZ cB cG q_o1 q_t q_o1_calls q_o1_from q_o1_heard q_o1_to q_t_calls q_t_from q_t_heard q_t_to o1_places o1_odd o1_moves o1_token o1_made o1_places o1_odd o1_moves t_token t_made o1_calls o1_from o1_heard o1_to (va_cpy o1_calls t_calls 0 0 20) (va_cpy o1_from t_from 0 0 60) t_heard t_to) H := hP
  have hD : va_D A (wd_X1_copy cI cZ cB cG q_o1 q_t q_o1_calls q_o1_from q_o1_heard q_o1_to q_t_calls q_t_from q_t_heard q_t_to o1_places o1_odd o1_moves o1_token o1_made o1_places o1_odd o1_moves t_token t_made o1_calls o1_from o1_heard o1_to (va_cpy o1_calls t_calls 0 0 20) (va_cpy o1_from t_from 0 0 60) t_heard t_to) := hD
  refine lv_aload_n hx hb dX1_copy_54 rfl (lv_at hl 1 rfl) ?_
  refine va_get (D := D) (ci := 1) (v := .ref q_o1_to) (C := RX1) (T := TX1) (N := 9) hx hb hts hinX1 hown hK hP 0 rfl rfl 5 (by decide) k18 (fun _ h9 => h9) rfl dX1_copy_55 ?_
  refine lv_iconst (v := (0 : Int32)) hx hb dX1_copy_58 (by decide) ?_
  refine lv_aload_n hx hb dX1_copy_59 rfl (lv_at hl 0 rfl) ?_
  refine va_get (D := D) (ci := 1) (v := .ref q_t_to) (C := RX1) (T := TX1) (N := 9) hx hb hts hinX1 hown hK hP 1 rfl rfl 5 (by decide) k18 (fun _ h9 => h9) rfl dX1_copy_60 ?_
  refine lv_iconst (v := (0 : Int32)) hx hb dX1_copy_63 (by decide) ?_
  refine lv_bipush (v := (60 : Int32)) hx hb dX1_copy_64 (by decide) ?_
  refine va_copyi hx hb (hml.trans hl.1.symm) hown kc40 hcnat hcstat hcini hK hP hD hS 5 9 0 0 rfl rfl rfl rfl rfl (by decide) (by decide) (by decide) (by decide) (by decide) (fun _ _ => rfl) (Nat.le_of_ble_eq_true rfl) (Nat.le_of_ble_eq_true rfl) dX1_copy_66 (fun H locs hP hD hS => ?_)
  have hP : va_P D vwCl (wd_X1_copy cI cZ cB cG q_o1 q_t q_o1_calls q_o1_from q_o1_heard q_o1_to q_t_calls q_t_from q_t_heard q_t_to o1_places o1_odd o1_moves o1_token o1_made o1_places o1_odd o1_moves t_token t_made o1_calls o1_from o1_heard o1_to (va_cpy o1_calls t_calls 0 0 20) (va_cpy o1_from t_from 0 0 60) t_heard (va_cpy o1_to t_to 0 0 60)) H := hP
  have hD : va_D A (wd_X1_copy cI cZ cB cG q_o1 q_t q_o1_calls q_o1_from q_o1_heard q_o1_to q_t_calls q_t_from q_t_heard q_t_to o1_places o1_odd o1_moves o1_token o1_made o1_places o1_odd o1_moves t_token t_made o1_calls o1_from o1_heard o1_to (va_cpy o1_calls t_calls 0 0 20) (va_cpy o1_from t_from 0 0 60) t_heard (va_cpy o1_to t_to 0 0 60)) := hD
  refine lv_aload_n hx hb dX1_copy_69 rfl (lv_at hl 0 rfl) ?_
  refine lv_aload_n hx hb dX1_copy_70 rfl (lv_at hl 1 rfl) ?_
  refine va_get (D := D) (ci := 1) (v := .int o1_token) (C := RX1) (T := TX1) (N := 9) hx hb hts hinX1 hown hK hP 0 rfl rfl 6 (by decide) k34 (fun _ h9 => h9) rfl dX1_copy_71 ?_
  refine va_put (D := D) (ci := 1) (v := .int o1_token) (ty := .int) (C := RX1) (T := TX1) (N := 9) hx hb hts hinX1 tyX1 tyX1_ok nmX1 hown hK hP hD hS 1 rfl rfl 6 (by decide) k34 (fun _ h9 => h9) rfl (by decide +kernel) rfl rfl (Nat.le_of_ble_eq_true rfl) dX1_copy_74 (fun H locs hP hD hS => ?_)
  have hP : va_P D vwCl (wd_X1_copy cI cZ cB cG q_o1 q_t q_o1_calls q_o1_from q_o1_heard q_o1_to q_t_calls q_t_from q_t_heard q_t_to o1_places o1_odd o1_moves o1_token o1_made o1_places o1_odd o1_moves o1_token t_made o1_calls o1_from o1_heard o1_to (va_cpy o1_calls t_calls 0 0 20) (va_cpy o1_from t_from 0 0 60) t_heard (va_cpy o1_to t_to 0 0 60)) H := hP
  have hD : va_D A (wd_X1_copy cI cZ cB cG q_o1 q_t q_o1_calls q_o1_from q_o1_heard q_o1_to q_t_calls q_t_from q_t_heard q_t_to o1_places o1_odd o1_moves o1_token o1_made o1_places o1_odd o1_moves o1_token t_made o1_calls o1_from o1_heard o1_to (va_cpy o1_calls t_calls 0 0 20) (va_cpy o1_from t_from 0 0 60) t_heard (va_cpy o1_to t_to 0 0 60)) := hD
  refine lv_aload_n hx hb dX1_copy_77 rfl (lv_at hl 0 rfl) ?_
  refine lv_aload_n hx hb dX1_copy_78 rfl (lv_at hl 1 rfl) ?_
  refine va_get (D := D) (ci := 1) (v := .int o1_made) (C := RX1) (T := TX1) (N := 9) hx hb hts hinX1 hown hK hP 0 rfl rfl 7 (by decide) k37 (fun _ h9 => h9) rfl dX1_copy_79 ?_
  refine va_put (D := D) (ci := 1) (v := .int o1_made) (ty := .int) (C := RX1) (T := TX1) (N := 9) hx hb hts hinX1 tyX1 tyX1_ok nmX1 hown hK hP hD hS 1 rfl rfl 7 (by decide) k37 (fun _ h9 => h9) rfl (by decide +kernel) rfl rfl (Nat.le_of_ble_eq_true rfl) dX1_copy_82 (fun H locs hP hD hS => ?_)
  have hP : va_P D vwCl (wd_X1_copy cI cZ cB cG q_o1 q_t q_o1_calls q_o1_from q_o1_heard q_o1_to q_t_calls q_t_from q_t_heard q_t_to o1_places o1_odd o1_moves o1_token o1_made o1_places o1_odd o1_moves o1_token o1_made o1_calls o1_from o1_heard o1_to (va_cpy o1_calls t_calls 0 0 20) (va_cpy o1_from t_from 0 0 60) t_heard (va_cpy o1_to t_to 0 0 60)) H := hP
  have hD : va_D A (wd_X1_copy cI cZ cB cG q_o1 q_t q_o1_calls q_o1_from q_o1_heard q_o1_to q_t_calls q_t_from q_t_heard q_t_to o1_places o1_odd o1_moves o1_token o1_made o1_places o1_odd o1_moves o1_token o1_made o1_calls o1_from o1_heard o1_to (va_cpy o1_calls t_calls 0 0 20) (va_cpy o1_from t_from 0 0 60) t_heard (va_cpy o1_to t_to 0 0 60)) := hD
  refine lv_aload_n hx hb dX1_copy_85 rfl (lv_at hl 1 rfl) ?_
  refine va_get (D := D) (ci := 1) (v := .ref q_o1_heard) (C := RX1) (T := TX1) (N := 9) hx hb hts hinX1 hown hK hP 0 rfl rfl 8 (by decide) k21 (fun _ h9 => h9) rfl dX1_copy_86 ?_
  refine lv_iconst (v := (0 : Int32)) hx hb dX1_copy_89 (by decide) ?_
  refine lv_aload_n hx hb dX1_copy_90 rfl (lv_at hl 0 rfl) ?_
  refine va_get (D := D) (ci := 1) (v := .ref q_t_heard) (C := RX1) (T := TX1) (N := 9) hx hb hts hinX1 hown hK hP 1 rfl rfl 8 (by decide) k21 (fun _ h9 => h9) rfl dX1_copy_91 ?_
  refine lv_iconst (v := (0 : Int32)) hx hb dX1_copy_94 (by decide) ?_
  refine lv_bipush (v := (10 : Int32)) hx hb dX1_copy_95 (by decide) ?_
  refine va_copyi hx hb (hml.trans hl.1.symm) hown kc40 hcnat hcstat hcini hK hP hD hS 4 8 0 0 rfl rfl rfl rfl rfl (by decide) (by decide) (by decide) (by decide) (by decide) (fun _ _ => rfl) (Nat.le_of_ble_eq_true rfl) (Nat.le_of_ble_eq_true rfl) dX1_copy_97 (fun H locs hP hD hS => ?_)
  have hP : va_P D vwCl (wd_X1_copy cI cZ cB cG q_o1 q_t q_o1_calls q_o1_from q_o1_heard q_o1_to q_t_calls q_t_from q_t_heard q_t_to o1_places o1_odd o1_moves o1_token o1_made o1_places o1_odd o1_moves o1_token o1_made o1_calls o1_from o1_heard o1_to (va_cpy o1_calls t_calls 0 0 20) (va_cpy o1_from t_from 0 0 60) (va_cpy o1_heard t_heard 0 0 10) (va_cpy o1_to t_to 0 0 60)) H := hP
  have hD : va_D A (wd_X1_copy cI cZ cB cG q_o1 q_t q_o1_calls q_o1_from q_o1_heard q_o1_to q_t_calls q_t_from q_t_heard q_t_to o1_places o1_odd o1_moves o1_token o1_made o1_places o1_odd o1_moves o1_token o1_made o1_calls o1_from o1_heard o1_to (va_cpy o1_calls t_calls 0 0 20) (va_cpy o1_from t_from 0 0 60) (va_cpy o1_heard t_heard 0 0 10) (va_cpy o1_to t_to 0 0 60)) := hD
  exact hret ((o1_places, o1_odd, o1_moves, o1_token, o1_made, (va_cpy o1_calls t_calls 0 0 20), (va_cpy o1_from t_from 0 0 60), (va_cpy o1_heard t_heard 0 0 10), (va_cpy o1_to t_to 0 0 60))) hf hP hD hS dX1_copy_100
abbrev wd_X1_hasPlace (cI cZ cB cG : ClassId) (q_t : Nat) (q_t_calls : Nat) (q_t_from : Nat) (q_t_to : Nat) (q_t_heard : Nat) (t_places : Int32) (t_odd : Int32) (t_moves : Int32) (t_token : Int32) (t_made : Int32) : va_W := [(q_t, .inr (1, [.int t_places, .int t_odd, .ref q_t_calls, .int t_moves, .ref q_t_from, .ref q_t_to, .int t_token, .int t_made, .ref q_t_heard]))]
def wp_X1_hasPlace (a1 : Int32) (t_places : Int32) (post : Int32 → Prop) : Prop := ((a1 < (0 : Int32) → (post (0 : Int32))) ∧ (¬ (a1 < (0 : Int32)) → ((t_places ≤ a1 → (post (0 : Int32))) ∧ (¬ (t_places ≤ a1) → (post (1 : Int32))))))
abbrev rm_X1_hasPlace : Room := { frames := 1, cells := 0, slots := 0, locals := 80 }
theorem in_X1_hasPlace_X1 : ∀ w ∈ u_ws RX1 TX1 9, w ∈ wsX1_hasPlace := by decide +kernel
theorem k_X1_hasPlace_24 : Cond.fieldLink RX1 24 "ParityGame$Game" "places" "I" ∈ wsX1_hasPlace := by decide +kernel
set_option maxHeartbeats 40000000 in
set_option maxRecDepth 100000 in
theorem c_X1_hasPlace (l : Launch) (D : va_G) (X : gX) (cI cZ cB cG : ClassId) (sz : Nat) (q_t : Nat) (q_t_calls : Nat) (q_t_from : Nat) (q_t_to : Nat) (q_t_heard : Nat) (a1 : Int32) (t_places : Int32) (t_odd : Int32) (t_moves : Int32) (t_token : Int32) (t_made : Int32) (post : Int32 → Prop) (hf : wp_X1_hasPlace a1 t_places post) : Met l yX1_hasPlace wsX1_hasPlace rm_X1_hasPlace (gP D X (gT cI cZ cB cG) sz [.ref q_t, .int a1] (wd_X1_hasPlace cI cZ cB cG q_t q_t_calls q_t_from q_t_to q_t_heard t_places t_odd t_moves t_token t_made)) (va_Qi (fun (r : Int32) (u : Unit) => narrow .boolean (.int r) = .int r ∧ post r) (fun u t => gB D (gT cI cZ cB cG) (va_A (wd_X1_hasPlace cI cZ cB cG q_t q_t_calls q_t_from q_t_to q_t_heard t_places t_odd t_moves t_token t_made) sz) (wd_X1_hasPlace cI cZ cB cG q_t q_t_calls q_t_from q_t_to q_t_heard t_places t_odd t_moves t_token t_made) t) (va_A (wd_X1_hasPlace cI cZ cB cG q_t q_t_calls q_t_from q_t_to q_t_heard t_places t_odd t_moves t_token t_made) sz)) 0 0 (va_A (wd_X1_hasPlace cI cZ cB cG q_t q_t_calls q_t_from q_t_to q_t_heard t_places t_odd t_moves t_token t_made) sz) := by
  refine g_ofWz (cc := cX1_hasPlace) (maxL := 2) (by decide +kernel) (Nat.le_of_ble_eq_true rfl) rfl ?_
  intro p e s m args below meth c A Q hx hb hml hown hts hA hK hE H hP hD hS ls hl hret
  have hinX1 := in_X1_hasPlace_X1
  have k24 := hts _ k_X1_hasPlace_24
  have hl : lv_has ls 2 [(0, .ref q_t), (1, .int a1)] := hl
  unfold wp_X1_hasPlace at hf
  refine lv_iload_n hx hb dX1_hasPlace_0 rfl (lv_at hl 1 rfl) ?_
  refine lv_if_lt (tgt := 16) hx hb dX1_hasPlace_1 (by decide) (fun hc => ?_) (fun hc => ?_)
  · have hf := hf.1 hc
    refine lv_iconst (v := (0 : Int32)) hx hb dX1_hasPlace_16 (by decide) ?_
    exact hret (0 : Int32) () (by decide) hf hP hD hS dX1_hasPlace_17
  · have hf := hf.2 hc
    refine lv_iload_n hx hb dX1_hasPlace_4 rfl (lv_at hl 1 rfl) ?_
    refine lv_aload_n hx hb dX1_hasPlace_5 rfl (lv_at hl 0 rfl) ?_
    refine va_get (D := D) (ci := 1) (v := .int t_places) (C := RX1) (T := TX1) (N := 9) hx hb hts hinX1 hown hK hP 0 rfl rfl 0 (by decide) k24 (fun _ h9 => h9) rfl dX1_hasPlace_6 ?_
    refine lv_icmp_ge (tgt := 16) hx hb dX1_hasPlace_9 (by decide) (fun hc => ?_) (fun hc => ?_)
    · have hf := hf.1 hc
      refine lv_iconst (v := (0 : Int32)) hx hb dX1_hasPlace_16 (by decide) ?_
      exact hret (0 : Int32) () (by decide) hf hP hD hS dX1_hasPlace_17
    · have hf := hf.2 hc
      refine lv_iconst (v := (1 : Int32)) hx hb dX1_hasPlace_12 (by decide) ?_
      refine lv_goto (tgt := 17) hx hb dX1_hasPlace_13 (by decide) ?_
      exact hret (1 : Int32) () (by decide) hf hP hD hS dX1_hasPlace_17
abbrev wd_X1_ownerOf (cI cZ cB cG : ClassId) (q_t : Nat) (q_t_calls : Nat) (q_t_from : Nat) (q_t_to : Nat) (q_t_heard : Nat) (t_places : Int32) (t_odd : Int32) (t_moves : Int32) (t_token : Int32) (t_made : Int32) : va_W := [(q_t, .inr (1, [.int t_places, .int t_odd, .ref q_t_calls, .int t_moves, .ref q_t_from, .ref q_t_to, .int t_token, .int t_made, .ref q_t_heard]))]
def wp_X1_ownerOf (a1 : Int32) (t_odd : Int32) (post : Int32 → Prop) : Prop := (post (((((t_odd).toUInt32 >>> ((a1).toUInt32 &&& Int32.toUInt32 31)).toInt32) &&& (1 : Int32))))
abbrev rm_X1_ownerOf : Room := { frames := 1, cells := 0, slots := 0, locals := 80 }
theorem in_X1_ownerOf_X1 : ∀ w ∈ u_ws RX1 TX1 9, w ∈ wsX1_ownerOf := by decide +kernel
theorem k_X1_ownerOf_28 : Cond.fieldLink RX1 28 "ParityGame$Game" "odd" "I" ∈ wsX1_ownerOf := by decide +kernel
set_option maxHeartbeats 40000000 in
set_option maxRecDepth 100000 in
theorem c_X1_ownerOf (l : Launch) (D : va_G) (X : gX) (cI cZ cB cG : ClassId) (sz : Nat) (q_t : Nat) (q_t_calls : Nat) (q_t_from : Nat) (q_t_to : Nat) (q_t_heard : Nat) (a1 : Int32) (t_places : Int32) (t_odd : Int32) (t_moves : Int32) (t_token : Int32) (t_made : Int32) (post : Int32 → Prop) (hf : wp_X1_ownerOf a1 t_odd post) : Met l yX1_ownerOf wsX1_ownerOf rm_X1_ownerOf (gP D X (gT cI cZ cB cG) sz [.ref q_t, .int a1] (wd_X1_ownerOf cI cZ cB cG q_t q_t_calls q_t_from q_t_to q_t_heard t_places t_odd t_moves t_token t_made)) (va_Qi (fun (r : Int32) (u : Unit) => post r) (fun u t => gB D (gT cI cZ cB cG) (va_A (wd_X1_ownerOf cI cZ cB cG q_t q_t_calls q_t_from q_t_to q_t_heard t_places t_odd t_moves t_token t_made) sz) (wd_X1_ownerOf cI cZ cB cG q_t q_t_calls q_t_from q_t_to q_t_heard t_places t_odd t_moves t_token t_made) t) (va_A (wd_X1_ownerOf cI cZ cB cG q_t q_t_calls q_t_from q_t_to q_t_heard t_places t_odd t_moves t_token t_made) sz)) 0 0 (va_A (wd_X1_ownerOf cI cZ cB cG q_t q_t_calls q_t_from q_t_to q_t_heard t_places t_odd t_moves t_token t_made) sz) := by
  refine g_ofWi (cc := cX1_ownerOf) (maxL := 2) (by decide +kernel) (Nat.le_of_ble_eq_true rfl) rfl ?_
  intro p e s m args below meth c A Q hx hb hml hown hts hA hK hE H hP hD hS ls hl hret
  have hinX1 := in_X1_ownerOf_X1
  have k28 := hts _ k_X1_ownerOf_28
  have hl : lv_has ls 2 [(0, .ref q_t), (1, .int a1)] := hl
  unfold wp_X1_ownerOf at hf
  refine lv_aload_n hx hb dX1_ownerOf_0 rfl (lv_at hl 0 rfl) ?_
  refine va_get (D := D) (ci := 1) (v := .int t_odd) (C := RX1) (T := TX1) (N := 9) hx hb hts hinX1 hown hK hP 0 rfl rfl 1 (by decide) k28 (fun _ h9 => h9) rfl dX1_ownerOf_1 ?_
  refine lv_iload_n hx hb dX1_ownerOf_4 rfl (lv_at hl 1 rfl) ?_
  refine lv_iushr (v := (((t_odd).toUInt32 >>> ((a1).toUInt32 &&& Int32.toUInt32 31)).toInt32)) hx hb dX1_ownerOf_5 rfl ?_
  refine lv_iconst (v := (1 : Int32)) hx hb dX1_ownerOf_6 (by decide) ?_
  refine lv_iand hx hb dX1_ownerOf_7 ?_
  exact hret (((((t_odd).toUInt32 >>> ((a1).toUInt32 &&& Int32.toUInt32 31)).toInt32) &&& (1 : Int32))) () hf hP hD hS dX1_ownerOf_8
abbrev wd_X1_greatestCall (cI cZ cB cG : ClassId) (q_t : Nat) (q_t_calls : Nat) (q_t_from : Nat) (q_t_to : Nat) (q_t_heard : Nat) (t_places : Int32) (t_odd : Int32) (t_moves : Int32) (t_token : Int32) (t_made : Int32) (t_calls : (Nat → Int32)) : va_W := [(q_t, .inr (1, [.int t_places, .int t_odd, .ref q_t_calls, .int t_moves, .ref q_t_from, .ref q_t_to, .int t_token, .int t_made, .ref q_t_heard])), (q_t_calls, .inl (cI, 20, .inl t_calls))]
def F_X1_greatestCall_4 (t_places : Int32) (t_calls : (Nat → Int32)) (K0 : Int32 → Int32 → Prop) (rec : Int32 → Int32 → Prop) (v1 : Int32) (v2 : Int32) : Prop := ((t_places ≤ v2 → (K0 v1 v2)) ∧ (¬ (t_places ≤ v2) → (vp_in v2 20 ∧ (rec ((if v1 < (t_calls v2.toNatClampNeg) then (t_calls v2.toNatClampNeg) else v1)) ((v2 + (1 : Int32)))))))
def wp_X1_greatestCall (t_places : Int32) (t_calls : (Nat → Int32)) (post : Int32 → Prop) : Prop := (∃ n, fx2 (F_X1_greatestCall_4 t_places t_calls (fun v1_1 v2_2 => (post v1_1))) n (0 : Int32) (0 : Int32))
abbrev rm_X1_greatestCall : Room := { frames := 1, cells := 0, slots := 0, locals := 80 }
theorem in_X1_greatestCall_X1 : ∀ w ∈ u_ws RX1 TX1 9, w ∈ wsX1_greatestCall := by decide +kernel
theorem k_X1_greatestCall_9 : Cond.fieldLink RX1 9 "ParityGame$Game" "calls" "[I" ∈ wsX1_greatestCall := by decide +kernel
theorem k_X1_greatestCall_24 : Cond.fieldLink RX1 24 "ParityGame$Game" "places" "I" ∈ wsX1_greatestCall := by decide +kernel
theorem km_X1_greatestCall_46 : ∀ w ∈ ([.methodLink RX1 46 Lib.Math.max.name, .static Lib.Math.max.name, .initialized "java/lang/Math", .code Lib.Math.max.name Lib.Math.max.code 2 (some .int)] : List Cond), w ∈ wsX1_greatestCall := by decide +kernel
set_option maxHeartbeats 40000000 in
set_option maxRecDepth 100000 in
theorem c_X1_greatestCall (l : Launch) (D : va_G) (X : gX) (cI cZ cB cG : ClassId) (sz : Nat) (q_t : Nat) (q_t_calls : Nat) (q_t_from : Nat) (q_t_to : Nat) (q_t_heard : Nat) (t_places : Int32) (t_odd : Int32) (t_moves : Int32) (t_token : Int32) (t_made : Int32) (t_calls : (Nat → Int32)) (post : Int32 → Prop) (hf : wp_X1_greatestCall t_places t_calls post) : Met l yX1_greatestCall wsX1_greatestCall rm_X1_greatestCall (gP D X (gT cI cZ cB cG) sz [.ref q_t] (wd_X1_greatestCall cI cZ cB cG q_t q_t_calls q_t_from q_t_to q_t_heard t_places t_odd t_moves t_token t_made t_calls)) (va_Qi (fun (r : Int32) (u : Unit) => post r) (fun u t => gB D (gT cI cZ cB cG) (va_A (wd_X1_greatestCall cI cZ cB cG q_t q_t_calls q_t_from q_t_to q_t_heard t_places t_odd t_moves t_token t_made t_calls) sz) (wd_X1_greatestCall cI cZ cB cG q_t q_t_calls q_t_from q_t_to q_t_heard t_places t_odd t_moves t_token t_made t_calls) t) (va_A (wd_X1_greatestCall cI cZ cB cG q_t q_t_calls q_t_from q_t_to q_t_heard t_places t_odd t_moves t_token t_made t_calls) sz)) 0 0 (va_A (wd_X1_greatestCall cI cZ cB cG q_t q_t_calls q_t_from q_t_to q_t_heard t_places t_odd t_moves t_token t_made t_calls) sz) := by
  refine g_ofWi (cc := cX1_greatestCall) (maxL := 3) (by decide +kernel) (Nat.le_of_ble_eq_true rfl) rfl ?_
  intro p e s m args below meth c A Q hx hb hml hown hts hA hK hE H hP hD hS ls hl hret
  have hinX1 := in_X1_greatestCall_X1
  have k9 := hts _ k_X1_greatestCall_9
  have k24 := hts _ k_X1_greatestCall_24
  have km46 := hts _ (km_X1_greatestCall_46 _ (List.mem_of_getElem? (i := 0) rfl))
  have hmstat := hts _ (km_X1_greatestCall_46 _ (List.mem_of_getElem? (i := 1) rfl))
  have hmini := hts _ (km_X1_greatestCall_46 _ (List.mem_of_getElem? (i := 2) rfl))
  have hmcode := hts _ (km_X1_greatestCall_46 _ (List.mem_of_getElem? (i := 3) rfl))
  have hl : lv_has ls 3 [(0, .ref q_t)] := hl
  have L4 : ∀ (K0 : Int32 → Int32 → Prop) (_ : ∀ (v1 : Int32) (v2 : Int32) (H : Heap) (locs : List Loc) (ls : Array Slot), K0 v1 v2 → va_P D vwCl (wd_X1_greatestCall cI cZ cB cG q_t q_t_calls q_t_from q_t_to q_t_heard t_places t_odd t_moves t_token t_made t_calls) H → va_D A (wd_X1_greatestCall cI cZ cB cG q_t q_t_calls q_t_from q_t_to q_t_heard t_places t_odd t_moves t_token t_made t_calls) → va_S A s.heap H locs → lv_has ls 3 [(1, .int v1)] → W p l e (rm_X1_greatestCall) s m args below meth c H locs 0 0 Q (F0 m 29 ls []))  (n : Nat) (v1 : Int32) (v2 : Int32) (H : Heap) (locs : List Loc) (ls : Array Slot), fx2 (F_X1_greatestCall_4 t_places t_calls K0) n v1 v2 → va_P D vwCl (wd_X1_greatestCall cI cZ cB cG q_t q_t_calls q_t_from q_t_to q_t_heard t_places t_odd t_moves t_token t_made t_calls) H → va_D A (wd_X1_greatestCall cI cZ cB cG q_t q_t_calls q_t_from q_t_to q_t_heard t_places t_odd t_moves t_token t_made t_calls) → va_S A s.heap H locs → lv_has ls 3 [(0, .ref q_t), (1, .int v1), (2, .int v2)] → W p l e (rm_X1_greatestCall) s m args below meth c H locs 0 0 Q (F0 m 4 ls []) := by
    intro K0 hK0 n
    induction n with
    | zero => intro v1 v2 H locs ls hf; exact (hf : False).elim
    | succ n ih =>
      intro v1 v2 H locs ls hf hP hD hS hl
      have hf : F_X1_greatestCall_4 t_places t_calls K0 (fx2 (F_X1_greatestCall_4 t_places t_calls K0) n) v1 v2 := hf
      unfold F_X1_greatestCall_4 at hf
      refine lv_iload_n hx hb dX1_greatestCall_4 rfl (lv_at hl 2 rfl) ?_
      refine lv_aload_n hx hb dX1_greatestCall_5 rfl (lv_at hl 0 rfl) ?_
      refine va_get (D := D) (ci := 1) (v := .int t_places) (C := RX1) (T := TX1) (N := 9) hx hb hts hinX1 hown hK hP 0 rfl rfl 0 (by decide) k24 (fun _ h9 => h9) rfl dX1_greatestCall_6 ?_
      refine lv_icmp_ge (tgt := 29) hx hb dX1_greatestCall_9 (by decide) (fun hc => ?_) (fun hc => ?_)
      · have hf := hf.1 hc
        exact hK0 _ _ _ _ _ hf hP hD hS (lv_sub hl [1] rfl)
      · have hf := hf.2 hc
        refine lv_iload_n hx hb dX1_greatestCall_12 rfl (lv_at hl 1 rfl) ?_
        refine lv_aload_n hx hb dX1_greatestCall_13 rfl (lv_at hl 0 rfl) ?_
        refine va_get (D := D) (ci := 1) (v := .ref q_t_calls) (C := RX1) (T := TX1) (N := 9) hx hb hts hinX1 hown hK hP 0 rfl rfl 2 (by decide) k9 (fun _ h9 => h9) rfl dX1_greatestCall_14 ?_
        refine lv_iload_n hx hb dX1_greatestCall_17 rfl (lv_at hl 2 rfl) ?_
        refine va_iald hx hb hK hP 1 0 rfl rfl (n := 20) hf.1 dX1_greatestCall_18 ?_
        have hf := hf.2
        refine va_mmax hx hb (hml.trans hl.1.symm) hown km46 hmstat hmini hmcode (Nat.le_of_ble_eq_true rfl) (Nat.le_of_ble_eq_true rfl) (Nat.le_of_ble_eq_true rfl) (Nat.le_of_ble_eq_true rfl) dX1_greatestCall_19 ?_
        refine lv_istore_n (lv' := [(1, .int ((if v1 < (t_calls v2.toNatClampNeg) then (t_calls v2.toNatClampNeg) else v1))), (0, .ref q_t), (2, .int v2)]) hx hb dX1_greatestCall_22 rfl hl (by decide) rfl (fun ls hl => ?_)
        refine lv_iinc (v := (v2 + (1 : Int32))) (lv' := [(2, .int ((v2 + (1 : Int32)))), (1, .int ((if v1 < (t_calls v2.toNatClampNeg) then (t_calls v2.toNatClampNeg) else v1))), (0, .ref q_t)]) hx hb dX1_greatestCall_23 hl (k := 2) rfl rfl (by decide) rfl (fun ls hl => ?_)
        refine lv_goto (tgt := 4) hx hb dX1_greatestCall_26 (by decide) ?_
        exact ih _ _ _ _ _ hf hP hD hS (lv_sub hl [2, 1, 0] rfl)
  unfold wp_X1_greatestCall at hf
  refine lv_iconst (v := (0 : Int32)) hx hb dX1_greatestCall_0 (by decide) ?_
  refine lv_istore_n (lv' := [(1, .int (0 : Int32)), (0, .ref q_t)]) hx hb dX1_greatestCall_1 rfl hl (by decide) rfl (fun ls hl => ?_)
  refine lv_iconst (v := (0 : Int32)) hx hb dX1_greatestCall_2 (by decide) ?_
  refine lv_istore_n (lv' := [(2, .int (0 : Int32)), (1, .int (0 : Int32)), (0, .ref q_t)]) hx hb dX1_greatestCall_3 rfl hl (by decide) rfl (fun ls hl => ?_)
  obtain ⟨n, hf⟩ := hf
  refine L4 _ ?_  n _ _ _ _ _ hf hP hD hS (lv_sub hl [2, 1, 0] rfl)
  intro v1_1 v2_2 H locs ls hf hP hD hS hl
  refine lv_iload_n hx hb dX1_greatestCall_29 rfl (lv_at hl 0 rfl) ?_
  exact hret v1_1 () hf hP hD hS dX1_greatestCall_30
abbrev wd_X1_movesFrom (cI cZ cB cG : ClassId) (q_t : Nat) (q_t_from : Nat) (q_t_calls : Nat) (q_t_to : Nat) (q_t_heard : Nat) (t_places : Int32) (t_odd : Int32) (t_moves : Int32) (t_token : Int32) (t_made : Int32) (t_from : (Nat → Int32)) : va_W := [(q_t, .inr (1, [.int t_places, .int t_odd, .ref q_t_calls, .int t_moves, .ref q_t_from, .ref q_t_to, .int t_token, .int t_made, .ref q_t_heard])), (q_t_from, .inl (cI, 60, .inl t_from))]
def F_X1_movesFrom_4 (v1 : Int32) (t_moves : Int32) (t_from : (Nat → Int32)) (K0 : Int32 → Int32 → Prop) (rec : Int32 → Int32 → Prop) (v2 : Int32) (v3 : Int32) : Prop := ((t_moves ≤ v3 → (K0 v2 v3)) ∧ (¬ (t_moves ≤ v3) → (vp_in v3 60 ∧ ((¬ (t_from v3.toNatClampNeg) = v1 → (rec v2 ((v3 + (1 : Int32))))) ∧ ((t_from v3.toNatClampNeg) = v1 → (rec ((v2 + (1 : Int32))) ((v3 + (1 : Int32)))))))))
def wp_X1_movesFrom (a1 : Int32) (t_moves : Int32) (t_from : (Nat → Int32)) (post : Int32 → Prop) : Prop := (∃ n, fx2 (F_X1_movesFrom_4 a1 t_moves t_from (fun v2_1 v3_2 => (post v2_1))) n (0 : Int32) (0 : Int32))
abbrev rm_X1_movesFrom : Room := { frames := 1, cells := 0, slots := 0, locals := 80 }
theorem in_X1_movesFrom_X1 : ∀ w ∈ u_ws RX1 TX1 9, w ∈ wsX1_movesFrom := by decide +kernel
theorem k_X1_movesFrom_15 : Cond.fieldLink RX1 15 "ParityGame$Game" "from" "[I" ∈ wsX1_movesFrom := by decide +kernel
theorem k_X1_movesFrom_31 : Cond.fieldLink RX1 31 "ParityGame$Game" "moves" "I" ∈ wsX1_movesFrom := by decide +kernel
set_option maxHeartbeats 40000000 in
set_option maxRecDepth 100000 in
theorem c_X1_movesFrom (l : Launch) (D : va_G) (X : gX) (cI cZ cB cG : ClassId) (sz : Nat) (q_t : Nat) (q_t_from : Nat) (q_t_calls : Nat) (q_t_to : Nat) (q_t_heard : Nat) (a1 : Int32) (t_places : Int32) (t_odd : Int32) (t_moves : Int32) (t_token : Int32) (t_made : Int32) (t_from : (Nat → Int32)) (post : Int32 → Prop) (hf : wp_X1_movesFrom a1 t_moves t_from post) : Met l yX1_movesFrom wsX1_movesFrom rm_X1_movesFrom (gP D X (gT cI cZ cB cG) sz [.ref q_t, .int a1] (wd_X1_movesFrom cI cZ cB cG q_t q_t_from q_t_calls q_t_to q_t_heard t_places t_odd t_moves t_token t_made t_from)) (va_Qi (fun (r : Int32) (u : Unit) => post r) (fun u t => gB D (gT cI cZ cB cG) (va_A (wd_X1_movesFrom cI cZ cB cG q_t q_t_from q_t_calls q_t_to q_t_heard t_places t_odd t_moves t_token t_made t_from) sz) (wd_X1_movesFrom cI cZ cB cG q_t q_t_from q_t_calls q_t_to q_t_heard t_places t_odd t_moves t_token t_made t_from) t) (va_A (wd_X1_movesFrom cI cZ cB cG q_t q_t_from q_t_calls q_t_to q_t_heard t_places t_odd t_moves t_token t_made t_from) sz)) 0 0 (va_A (wd_X1_movesFrom cI cZ cB cG q_t q_t_from q_t_calls q_t_to q_t_heard t_places t_odd t_moves t_token t_made t_from) sz) := by
  refine g_ofWi (cc := cX1_movesFrom) (maxL := 4) (by decide +kernel) (Nat.le_of_ble_eq_true rfl) rfl ?_
  intro p e s m args below meth c A Q hx hb hml hown hts hA hK hE H hP hD hS ls hl hret
  have hinX1 := in_X1_movesFrom_X1
  have k15 := hts _ k_X1_movesFrom_15
  have k31 := hts _ k_X1_movesFrom_31
  have hl : lv_has ls 4 [(0, .ref q_t), (1, .int a1)] := hl
  have L4 : ∀ (v1 : Int32) (K0 : Int32 → Int32 → Prop) (_ : ∀ (v2 : Int32) (v3 : Int32) (H : Heap) (locs : List Loc) (ls : Array Slot), K0 v2 v3 → va_P D vwCl (wd_X1_movesFrom cI cZ cB cG q_t q_t_from q_t_calls q_t_to q_t_heard t_places t_odd t_moves t_token t_made t_from) H → va_D A (wd_X1_movesFrom cI cZ cB cG q_t q_t_from q_t_calls q_t_to q_t_heard t_places t_odd t_moves t_token t_made t_from) → va_S A s.heap H locs → lv_has ls 4 [(2, .int v2)] → W p l e (rm_X1_movesFrom) s m args below meth c H locs 0 0 Q (F0 m 31 ls []))  (n : Nat) (v2 : Int32) (v3 : Int32) (H : Heap) (locs : List Loc) (ls : Array Slot), fx2 (F_X1_movesFrom_4 v1 t_moves t_from K0) n v2 v3 → va_P D vwCl (wd_X1_movesFrom cI cZ cB cG q_t q_t_from q_t_calls q_t_to q_t_heard t_places t_odd t_moves t_token t_made t_from) H → va_D A (wd_X1_movesFrom cI cZ cB cG q_t q_t_from q_t_calls q_t_to q_t_heard t_places t_odd t_moves t_token t_made t_from) → va_S A s.heap H locs → lv_has ls 4 [(0, .ref q_t), (1, .int v1), (2, .int v2), (3, .int v3)] → W p l e (rm_X1_movesFrom) s m args below meth c H locs 0 0 Q (F0 m 4 ls []) := by
    intro v1 K0 hK0 n
    induction n with
    | zero => intro v2 v3 H locs ls hf; exact (hf : False).elim
    | succ n ih =>
      intro v2 v3 H locs ls hf hP hD hS hl
      have hf : F_X1_movesFrom_4 v1 t_moves t_from K0 (fx2 (F_X1_movesFrom_4 v1 t_moves t_from K0) n) v2 v3 := hf
      unfold F_X1_movesFrom_4 at hf
      refine lv_iload_n hx hb dX1_movesFrom_4 rfl (lv_at hl 3 rfl) ?_
      refine lv_aload_n hx hb dX1_movesFrom_5 rfl (lv_at hl 0 rfl) ?_
      refine va_get (D := D) (ci := 1) (v := .int t_moves) (C := RX1) (T := TX1) (N := 9) hx hb hts hinX1 hown hK hP 0 rfl rfl 3 (by decide) k31 (fun _ h9 => h9) rfl dX1_movesFrom_6 ?_
      refine lv_icmp_ge (tgt := 31) hx hb dX1_movesFrom_9 (by decide) (fun hc => ?_) (fun hc => ?_)
      · have hf := hf.1 hc
        exact hK0 _ _ _ _ _ hf hP hD hS (lv_sub hl [2] rfl)
      · have hf := hf.2 hc
        refine lv_aload_n hx hb dX1_movesFrom_12 rfl (lv_at hl 0 rfl) ?_
        refine va_get (D := D) (ci := 1) (v := .ref q_t_from) (C := RX1) (T := TX1) (N := 9) hx hb hts hinX1 hown hK hP 0 rfl rfl 4 (by decide) k15 (fun _ h9 => h9) rfl dX1_movesFrom_13 ?_
        refine lv_iload_n hx hb dX1_movesFrom_16 rfl (lv_at hl 3 rfl) ?_
        refine va_iald hx hb hK hP 1 0 rfl rfl (n := 60) hf.1 dX1_movesFrom_17 ?_
        have hf := hf.2
        refine lv_iload_n hx hb dX1_movesFrom_18 rfl (lv_at hl 1 rfl) ?_
        refine lv_icmp_ne (tgt := 25) hx hb dX1_movesFrom_19 (by decide) (fun hc => ?_) (fun hc => ?_)
        · have hf := hf.1 hc
          refine lv_iinc (v := (v3 + (1 : Int32))) (lv' := [(3, .int ((v3 + (1 : Int32)))), (0, .ref q_t), (1, .int v1), (2, .int v2)]) hx hb dX1_movesFrom_25 hl (k := 3) rfl rfl (by decide) rfl (fun ls hl => ?_)
          refine lv_goto (tgt := 4) hx hb dX1_movesFrom_28 (by decide) ?_
          exact ih _ _ _ _ _ hf hP hD hS (lv_sub hl [1, 2, 3, 0] rfl)
        · have hf := hf.2 hc
          refine lv_iinc (v := (v2 + (1 : Int32))) (lv' := [(2, .int ((v2 + (1 : Int32)))), (0, .ref q_t), (1, .int v1), (3, .int v3)]) hx hb dX1_movesFrom_22 hl (k := 2) rfl rfl (by decide) rfl (fun ls hl => ?_)
          refine lv_iinc (v := (v3 + (1 : Int32))) (lv' := [(3, .int ((v3 + (1 : Int32)))), (2, .int ((v2 + (1 : Int32)))), (0, .ref q_t), (1, .int v1)]) hx hb dX1_movesFrom_25 hl (k := 3) rfl rfl (by decide) rfl (fun ls hl => ?_)
          refine lv_goto (tgt := 4) hx hb dX1_movesFrom_28 (by decide) ?_
          exact ih _ _ _ _ _ hf hP hD hS (lv_sub hl [2, 3, 1, 0] rfl)
  unfold wp_X1_movesFrom at hf
  refine lv_iconst (v := (0 : Int32)) hx hb dX1_movesFrom_0 (by decide) ?_
  refine lv_istore_n (lv' := [(2, .int (0 : Int32)), (0, .ref q_t), (1, .int a1)]) hx hb dX1_movesFrom_1 rfl hl (by decide) rfl (fun ls hl => ?_)
  refine lv_iconst (v := (0 : Int32)) hx hb dX1_movesFrom_2 (by decide) ?_
  refine lv_istore_n (lv' := [(3, .int (0 : Int32)), (2, .int (0 : Int32)), (0, .ref q_t), (1, .int a1)]) hx hb dX1_movesFrom_3 rfl hl (by decide) rfl (fun ls hl => ?_)
  obtain ⟨n, hf⟩ := hf
  refine L4 a1 _ ?_  n _ _ _ _ _ hf hP hD hS (lv_sub hl [2, 3, 1, 0] rfl)
  intro v2_1 v3_2 H locs ls hf hP hD hS hl
  refine lv_iload_n hx hb dX1_movesFrom_31 rfl (lv_at hl 0 rfl) ?_
  exact hret v2_1 () hf hP hD hS dX1_movesFrom_32
abbrev wd_X1_movesTo (cI cZ cB cG : ClassId) (q_t : Nat) (q_t_to : Nat) (q_t_calls : Nat) (q_t_from : Nat) (q_t_heard : Nat) (t_places : Int32) (t_odd : Int32) (t_moves : Int32) (t_token : Int32) (t_made : Int32) (t_to : (Nat → Int32)) : va_W := [(q_t, .inr (1, [.int t_places, .int t_odd, .ref q_t_calls, .int t_moves, .ref q_t_from, .ref q_t_to, .int t_token, .int t_made, .ref q_t_heard])), (q_t_to, .inl (cI, 60, .inl t_to))]
def F_X1_movesTo_4 (v1 : Int32) (t_moves : Int32) (t_to : (Nat → Int32)) (K0 : Int32 → Int32 → Prop) (rec : Int32 → Int32 → Prop) (v2 : Int32) (v3 : Int32) : Prop := ((t_moves ≤ v3 → (K0 v2 v3)) ∧ (¬ (t_moves ≤ v3) → (vp_in v3 60 ∧ ((¬ (t_to v3.toNatClampNeg) = v1 → (rec v2 ((v3 + (1 : Int32))))) ∧ ((t_to v3.toNatClampNeg) = v1 → (rec ((v2 + (1 : Int32))) ((v3 + (1 : Int32)))))))))
def wp_X1_movesTo (a1 : Int32) (t_moves : Int32) (t_to : (Nat → Int32)) (post : Int32 → Prop) : Prop := (∃ n, fx2 (F_X1_movesTo_4 a1 t_moves t_to (fun v2_1 v3_2 => (post v2_1))) n (0 : Int32) (0 : Int32))
abbrev rm_X1_movesTo : Room := { frames := 1, cells := 0, slots := 0, locals := 80 }
theorem in_X1_movesTo_X1 : ∀ w ∈ u_ws RX1 TX1 9, w ∈ wsX1_movesTo := by decide +kernel
theorem k_X1_movesTo_18 : Cond.fieldLink RX1 18 "ParityGame$Game" "to" "[I" ∈ wsX1_movesTo := by decide +kernel
theorem k_X1_movesTo_31 : Cond.fieldLink RX1 31 "ParityGame$Game" "moves" "I" ∈ wsX1_movesTo := by decide +kernel
set_option maxHeartbeats 40000000 in
set_option maxRecDepth 100000 in
theorem c_X1_movesTo (l : Launch) (D : va_G) (X : gX) (cI cZ cB cG : ClassId) (sz : Nat) (q_t : Nat) (q_t_to : Nat) (q_t_calls : Nat) (q_t_from : Nat) (q_t_heard : Nat) (a1 : Int32) (t_places : Int32) (t_odd : Int32) (t_moves : Int32) (t_token : Int32) (t_made : Int32) (t_to : (Nat → Int32)) (post : Int32 → Prop) (hf : wp_X1_movesTo a1 t_moves t_to post) : Met l yX1_movesTo wsX1_movesTo rm_X1_movesTo (gP D X (gT cI cZ cB cG) sz [.ref q_t, .int a1] (wd_X1_movesTo cI cZ cB cG q_t q_t_to q_t_calls q_t_from q_t_heard t_places t_odd t_moves t_token t_made t_to)) (va_Qi (fun (r : Int32) (u : Unit) => post r) (fun u t => gB D (gT cI cZ cB cG) (va_A (wd_X1_movesTo cI cZ cB cG q_t q_t_to q_t_calls q_t_from q_t_heard t_places t_odd t_moves t_token t_made t_to) sz) (wd_X1_movesTo cI cZ cB cG q_t q_t_to q_t_calls q_t_from q_t_heard t_places t_odd t_moves t_token t_made t_to) t) (va_A (wd_X1_movesTo cI cZ cB cG q_t q_t_to q_t_calls q_t_from q_t_heard t_places t_odd t_moves t_token t_made t_to) sz)) 0 0 (va_A (wd_X1_movesTo cI cZ cB cG q_t q_t_to q_t_calls q_t_from q_t_heard t_places t_odd t_moves t_token t_made t_to) sz) := by
  refine g_ofWi (cc := cX1_movesTo) (maxL := 4) (by decide +kernel) (Nat.le_of_ble_eq_true rfl) rfl ?_
  intro p e s m args below meth c A Q hx hb hml hown hts hA hK hE H hP hD hS ls hl hret
  have hinX1 := in_X1_movesTo_X1
  have k18 := hts _ k_X1_movesTo_18
  have k31 := hts _ k_X1_movesTo_31
  have hl : lv_has ls 4 [(0, .ref q_t), (1, .int a1)] := hl
  have L4 : ∀ (v1 : Int32) (K0 : Int32 → Int32 → Prop) (_ : ∀ (v2 : Int32) (v3 : Int32) (H : Heap) (locs : List Loc) (ls : Array Slot), K0 v2 v3 → va_P D vwCl (wd_X1_movesTo cI cZ cB cG q_t q_t_to q_t_calls q_t_from q_t_heard t_places t_odd t_moves t_token t_made t_to) H → va_D A (wd_X1_movesTo cI cZ cB cG q_t q_t_to q_t_calls q_t_from q_t_heard t_places t_odd t_moves t_token t_made t_to) → va_S A s.heap H locs → lv_has ls 4 [(2, .int v2)] → W p l e (rm_X1_movesTo) s m args below meth c H locs 0 0 Q (F0 m 31 ls []))  (n : Nat) (v2 : Int32) (v3 : Int32) (H : Heap) (locs : List Loc) (ls : Array Slot), fx2 (F_X1_movesTo_4 v1 t_moves t_to K0) n v2 v3 → va_P D vwCl (wd_X1_movesTo cI cZ cB cG q_t q_t_to q_t_calls q_t_from q_t_heard t_places t_odd t_moves t_token t_made t_to) H → va_D A (wd_X1_movesTo cI cZ cB cG q_t q_t_to q_t_calls q_t_from q_t_heard t_places t_odd t_moves t_token t_made t_to) → va_S A s.heap H locs → lv_has ls 4 [(0, .ref q_t), (1, .int v1), (2, .int v2), (3, .int v3)] → W p l e (rm_X1_movesTo) s m args below meth c H locs 0 0 Q (F0 m 4 ls []) := by
    intro v1 K0 hK0 n
    induction n with
    | zero => intro v2 v3 H locs ls hf; exact (hf : False).elim
    | succ n ih =>
      intro v2 v3 H locs ls hf hP hD hS hl
      have hf : F_X1_movesTo_4 v1 t_moves t_to K0 (fx2 (F_X1_movesTo_4 v1 t_moves t_to K0) n) v2 v3 := hf
      unfold F_X1_movesTo_4 at hf
      refine lv_iload_n hx hb dX1_movesTo_4 rfl (lv_at hl 3 rfl) ?_
      refine lv_aload_n hx hb dX1_movesTo_5 rfl (lv_at hl 0 rfl) ?_
      refine va_get (D := D) (ci := 1) (v := .int t_moves) (C := RX1) (T := TX1) (N := 9) hx hb hts hinX1 hown hK hP 0 rfl rfl 3 (by decide) k31 (fun _ h9 => h9) rfl dX1_movesTo_6 ?_
      refine lv_icmp_ge (tgt := 31) hx hb dX1_movesTo_9 (by decide) (fun hc => ?_) (fun hc => ?_)
      · have hf := hf.1 hc
        exact hK0 _ _ _ _ _ hf hP hD hS (lv_sub hl [2] rfl)
      · have hf := hf.2 hc
        refine lv_aload_n hx hb dX1_movesTo_12 rfl (lv_at hl 0 rfl) ?_
        refine va_get (D := D) (ci := 1) (v := .ref q_t_to) (C := RX1) (T := TX1) (N := 9) hx hb hts hinX1 hown hK hP 0 rfl rfl 5 (by decide) k18 (fun _ h9 => h9) rfl dX1_movesTo_13 ?_
        refine lv_iload_n hx hb dX1_movesTo_16 rfl (lv_at hl 3 rfl) ?_
        refine va_iald hx hb hK hP 1 0 rfl rfl (n := 60) hf.1 dX1_movesTo_17 ?_
        have hf := hf.2
        refine lv_iload_n hx hb dX1_movesTo_18 rfl (lv_at hl 1 rfl) ?_
        refine lv_icmp_ne (tgt := 25) hx hb dX1_movesTo_19 (by decide) (fun hc => ?_) (fun hc => ?_)
        · have hf := hf.1 hc
          refine lv_iinc (v := (v3 + (1 : Int32))) (lv' := [(3, .int ((v3 + (1 : Int32)))), (0, .ref q_t), (1, .int v1), (2, .int v2)]) hx hb dX1_movesTo_25 hl (k := 3) rfl rfl (by decide) rfl (fun ls hl => ?_)
          refine lv_goto (tgt := 4) hx hb dX1_movesTo_28 (by decide) ?_
          exact ih _ _ _ _ _ hf hP hD hS (lv_sub hl [1, 2, 3, 0] rfl)
        · have hf := hf.2 hc
          refine lv_iinc (v := (v2 + (1 : Int32))) (lv' := [(2, .int ((v2 + (1 : Int32)))), (0, .ref q_t), (1, .int v1), (3, .int v3)]) hx hb dX1_movesTo_22 hl (k := 2) rfl rfl (by decide) rfl (fun ls hl => ?_)
          refine lv_iinc (v := (v3 + (1 : Int32))) (lv' := [(3, .int ((v3 + (1 : Int32)))), (2, .int ((v2 + (1 : Int32)))), (0, .ref q_t), (1, .int v1)]) hx hb dX1_movesTo_25 hl (k := 3) rfl rfl (by decide) rfl (fun ls hl => ?_)
          refine lv_goto (tgt := 4) hx hb dX1_movesTo_28 (by decide) ?_
          exact ih _ _ _ _ _ hf hP hD hS (lv_sub hl [2, 3, 1, 0] rfl)
  unfold wp_X1_movesTo at hf
  refine lv_iconst (v := (0 : Int32)) hx hb dX1_movesTo_0 (by decide) ?_
  refine lv_istore_n (lv' := [(2, .int (0 : Int32)), (0, .ref q_t), (1, .int a1)]) hx hb dX1_movesTo_1 rfl hl (by decide) rfl (fun ls hl => ?_)
  refine lv_iconst (v := (0 : Int32)) hx hb dX1_movesTo_2 (by decide) ?_
  refine lv_istore_n (lv' := [(3, .int (0 : Int32)), (2, .int (0 : Int32)), (0, .ref q_t), (1, .int a1)]) hx hb dX1_movesTo_3 rfl hl (by decide) rfl (fun ls hl => ?_)
  obtain ⟨n, hf⟩ := hf
  refine L4 a1 _ ?_  n _ _ _ _ _ hf hP hD hS (lv_sub hl [2, 3, 1, 0] rfl)
  intro v2_1 v3_2 H locs ls hf hP hD hS hl
  refine lv_iload_n hx hb dX1_movesTo_31 rfl (lv_at hl 0 rfl) ?_
  exact hret v2_1 () hf hP hD hS dX1_movesTo_32
abbrev wd_X1_findMove (cI cZ cB cG : ClassId) (q_t : Nat) (q_t_from : Nat) (q_t_to : Nat) (q_t_calls : Nat) (q_t_heard : Nat) (t_places : Int32) (t_odd : Int32) (t_moves : Int32) (t_token : Int32) (t_made : Int32) (t_from : (Nat → Int32)) (t_to : (Nat → Int32)) : va_W := [(q_t, .inr (1, [.int t_places, .int t_odd, .ref q_t_calls, .int t_moves, .ref q_t_from, .ref q_t_to, .int t_token, .int t_made, .ref q_t_heard])), (q_t_from, .inl (cI, 60, .inl t_from)), (q_t_to, .inl (cI, 60, .inl t_to))]
def F_X1_findMove_2 (v1 : Int32) (v2 : Int32) (t_moves : Int32) (t_from : (Nat → Int32)) (t_to : (Nat → Int32)) (post : Int32 → Prop) (K0 : Int32 → Prop) (rec : Int32 → Prop) (v3 : Int32) : Prop := ((t_moves ≤ v3 → (K0 v3)) ∧ (¬ (t_moves ≤ v3) → (vp_in v3 60 ∧ ((¬ (t_from v3.toNatClampNeg) = v1 → (rec ((v3 + (1 : Int32))))) ∧ ((t_from v3.toNatClampNeg) = v1 → (vp_in v3 60 ∧ ((¬ (t_to v3.toNatClampNeg) = v2 → (rec ((v3 + (1 : Int32))))) ∧ ((t_to v3.toNatClampNeg) = v2 → (post v3)))))))))
def wp_X1_findMove (a1 : Int32) (a2 : Int32) (t_moves : Int32) (t_from : (Nat → Int32)) (t_to : (Nat → Int32)) (post : Int32 → Prop) : Prop := (∃ n, fx1 (F_X1_findMove_2 a1 a2 t_moves t_from t_to post (fun v3_1 => (post (-1 : Int32)))) n (0 : Int32))
abbrev rm_X1_findMove : Room := { frames := 1, cells := 0, slots := 0, locals := 80 }
theorem in_X1_findMove_X1 : ∀ w ∈ u_ws RX1 TX1 9, w ∈ wsX1_findMove := by decide +kernel
theorem k_X1_findMove_15 : Cond.fieldLink RX1 15 "ParityGame$Game" "from" "[I" ∈ wsX1_findMove := by decide +kernel
theorem k_X1_findMove_18 : Cond.fieldLink RX1 18 "ParityGame$Game" "to" "[I" ∈ wsX1_findMove := by decide +kernel
theorem k_X1_findMove_31 : Cond.fieldLink RX1 31 "ParityGame$Game" "moves" "I" ∈ wsX1_findMove := by decide +kernel
set_option maxHeartbeats 40000000 in
set_option maxRecDepth 100000 in
theorem c_X1_findMove (l : Launch) (D : va_G) (X : gX) (cI cZ cB cG : ClassId) (sz : Nat) (q_t : Nat) (q_t_from : Nat) (q_t_to : Nat) (q_t_calls : Nat) (q_t_heard : Nat) (a1 : Int32) (a2 : Int32) (t_places : Int32) (t_odd : Int32) (t_moves : Int32) (t_token : Int32) (t_made : Int32) (t_from : (Nat → Int32)) (t_to : (Nat → Int32)) (post : Int32 → Prop) (hf : wp_X1_findMove a1 a2 t_moves t_from t_to post) : Met l yX1_findMove wsX1_findMove rm_X1_findMove (gP D X (gT cI cZ cB cG) sz [.ref q_t, .int a1, .int a2] (wd_X1_findMove cI cZ cB cG q_t q_t_from q_t_to q_t_calls q_t_heard t_places t_odd t_moves t_token t_made t_from t_to)) (va_Qi (fun (r : Int32) (u : Unit) => post r) (fun u t => gB D (gT cI cZ cB cG) (va_A (wd_X1_findMove cI cZ cB cG q_t q_t_from q_t_to q_t_calls q_t_heard t_places t_odd t_moves t_token t_made t_from t_to) sz) (wd_X1_findMove cI cZ cB cG q_t q_t_from q_t_to q_t_calls q_t_heard t_places t_odd t_moves t_token t_made t_from t_to) t) (va_A (wd_X1_findMove cI cZ cB cG q_t q_t_from q_t_to q_t_calls q_t_heard t_places t_odd t_moves t_token t_made t_from t_to) sz)) 0 0 (va_A (wd_X1_findMove cI cZ cB cG q_t q_t_from q_t_to q_t_calls q_t_heard t_places t_odd t_moves t_token t_made t_from t_to) sz) := by
  refine g_ofWi (cc := cX1_findMove) (maxL := 4) (by decide +kernel) (Nat.le_of_ble_eq_true rfl) rfl ?_
  intro p e s m args below meth c A Q hx hb hml hown hts hA hK hE H hP hD hS ls hl hret
  have hinX1 := in_X1_findMove_X1
  have k15 := hts _ k_X1_findMove_15
  have k18 := hts _ k_X1_findMove_18
  have k31 := hts _ k_X1_findMove_31
  have hl : lv_has ls 4 [(0, .ref q_t), (1, .int a1), (2, .int a2)] := hl
  have L2 : ∀ (v1 : Int32) (v2 : Int32) (K0 : Int32 → Prop) (_ : ∀ (v3 : Int32) (H : Heap) (locs : List Loc) (ls : Array Slot), K0 v3 → va_P D vwCl (wd_X1_findMove cI cZ cB cG q_t q_t_from q_t_to q_t_calls q_t_heard t_places t_odd t_moves t_token t_made t_from t_to) H → va_D A (wd_X1_findMove cI cZ cB cG q_t q_t_from q_t_to q_t_calls q_t_heard t_places t_odd t_moves t_token t_made t_from t_to) → va_S A s.heap H locs → lv_has ls 4 [] → W p l e (rm_X1_findMove) s m args below meth c H locs 0 0 Q (F0 m 38 ls []))  (n : Nat) (v3 : Int32) (H : Heap) (locs : List Loc) (ls : Array Slot), fx1 (F_X1_findMove_2 v1 v2 t_moves t_from t_to post K0) n v3 → va_P D vwCl (wd_X1_findMove cI cZ cB cG q_t q_t_from q_t_to q_t_calls q_t_heard t_places t_odd t_moves t_token t_made t_from t_to) H → va_D A (wd_X1_findMove cI cZ cB cG q_t q_t_from q_t_to q_t_calls q_t_heard t_places t_odd t_moves t_token t_made t_from t_to) → va_S A s.heap H locs → lv_has ls 4 [(0, .ref q_t), (1, .int v1), (2, .int v2), (3, .int v3)] → W p l e (rm_X1_findMove) s m args below meth c H locs 0 0 Q (F0 m 2 ls []) := by
    intro v1 v2 K0 hK0 n
    induction n with
    | zero => intro v3 H locs ls hf; exact (hf : False).elim
    | succ n ih =>
      intro v3 H locs ls hf hP hD hS hl
      have hf : F_X1_findMove_2 v1 v2 t_moves t_from t_to post K0 (fx1 (F_X1_findMove_2 v1 v2 t_moves t_from t_to post K0) n) v3 := hf
      unfold F_X1_findMove_2 at hf
      refine lv_iload_n hx hb dX1_findMove_2 rfl (lv_at hl 3 rfl) ?_
      refine lv_aload_n hx hb dX1_findMove_3 rfl (lv_at hl 0 rfl) ?_
      refine va_get (D := D) (ci := 1) (v := .int t_moves) (C := RX1) (T := TX1) (N := 9) hx hb hts hinX1 hown hK hP 0 rfl rfl 3 (by decide) k31 (fun _ h9 => h9) rfl dX1_findMove_4 ?_
      refine lv_icmp_ge (tgt := 38) hx hb dX1_findMove_7 (by decide) (fun hc => ?_) (fun hc => ?_)
      · have hf := hf.1 hc
        exact hK0 _ _ _ _ hf hP hD hS (lv_sub hl [] rfl)
      · have hf := hf.2 hc
        refine lv_aload_n hx hb dX1_findMove_10 rfl (lv_at hl 0 rfl) ?_
        refine va_get (D := D) (ci := 1) (v := .ref q_t_from) (C := RX1) (T := TX1) (N := 9) hx hb hts hinX1 hown hK hP 0 rfl rfl 4 (by decide) k15 (fun _ h9 => h9) rfl dX1_findMove_11 ?_
        refine lv_iload_n hx hb dX1_findMove_14 rfl (lv_at hl 3 rfl) ?_
        refine va_iald hx hb hK hP 1 0 rfl rfl (n := 60) hf.1 dX1_findMove_15 ?_
        have hf := hf.2
        refine lv_iload_n hx hb dX1_findMove_16 rfl (lv_at hl 1 rfl) ?_
        refine lv_icmp_ne (tgt := 32) hx hb dX1_findMove_17 (by decide) (fun hc => ?_) (fun hc => ?_)
        · have hf := hf.1 hc
          refine lv_iinc (v := (v3 + (1 : Int32))) (lv' := [(3, .int ((v3 + (1 : Int32)))), (0, .ref q_t), (1, .int v1), (2, .int v2)]) hx hb dX1_findMove_32 hl (k := 3) rfl rfl (by decide) rfl (fun ls hl => ?_)
          refine lv_goto (tgt := 2) hx hb dX1_findMove_35 (by decide) ?_
          exact ih _ _ _ _ hf hP hD hS (lv_sub hl [1, 2, 3, 0] rfl)
        · have hf := hf.2 hc
          refine lv_aload_n hx hb dX1_findMove_20 rfl (lv_at hl 0 rfl) ?_
          refine va_get (D := D) (ci := 1) (v := .ref q_t_to) (C := RX1) (T := TX1) (N := 9) hx hb hts hinX1 hown hK hP 0 rfl rfl 5 (by decide) k18 (fun _ h9 => h9) rfl dX1_findMove_21 ?_
          refine lv_iload_n hx hb dX1_findMove_24 rfl (lv_at hl 3 rfl) ?_
          refine va_iald hx hb hK hP 2 0 rfl rfl (n := 60) hf.1 dX1_findMove_25 ?_
          have hf := hf.2
          refine lv_iload_n hx hb dX1_findMove_26 rfl (lv_at hl 2 rfl) ?_
          refine lv_icmp_ne (tgt := 32) hx hb dX1_findMove_27 (by decide) (fun hc => ?_) (fun hc => ?_)
          · have hf := hf.1 hc
            refine lv_iinc (v := (v3 + (1 : Int32))) (lv' := [(3, .int ((v3 + (1 : Int32)))), (0, .ref q_t), (1, .int v1), (2, .int v2)]) hx hb dX1_findMove_32 hl (k := 3) rfl rfl (by decide) rfl (fun ls hl => ?_)
            refine lv_goto (tgt := 2) hx hb dX1_findMove_35 (by decide) ?_
            exact ih _ _ _ _ hf hP hD hS (lv_sub hl [1, 2, 3, 0] rfl)
          · have hf := hf.2 hc
            refine lv_iload_n hx hb dX1_findMove_30 rfl (lv_at hl 3 rfl) ?_
            exact hret v3 () hf hP hD hS dX1_findMove_31
  unfold wp_X1_findMove at hf
  refine lv_iconst (v := (0 : Int32)) hx hb dX1_findMove_0 (by decide) ?_
  refine lv_istore_n (lv' := [(3, .int (0 : Int32)), (0, .ref q_t), (1, .int a1), (2, .int a2)]) hx hb dX1_findMove_1 rfl hl (by decide) rfl (fun ls hl => ?_)
  obtain ⟨n, hf⟩ := hf
  refine L2 a1 a2 _ ?_  n _ _ _ _ hf hP hD hS (lv_sub hl [1, 2, 3, 0] rfl)
  intro v3_1 H locs ls hf hP hD hS hl
  refine lv_iconst (v := (-1 : Int32)) hx hb dX1_findMove_38 (by decide) ?_
  exact hret (-1 : Int32) () hf hP hD hS dX1_findMove_39
abbrev wd_X1_firstMove (cI cZ cB cG : ClassId) (q_t : Nat) (q_t_from : Nat) (q_t_calls : Nat) (q_t_to : Nat) (q_t_heard : Nat) (t_places : Int32) (t_odd : Int32) (t_moves : Int32) (t_token : Int32) (t_made : Int32) (t_from : (Nat → Int32)) : va_W := [(q_t, .inr (1, [.int t_places, .int t_odd, .ref q_t_calls, .int t_moves, .ref q_t_from, .ref q_t_to, .int t_token, .int t_made, .ref q_t_heard])), (q_t_from, .inl (cI, 60, .inl t_from))]
def F_X1_firstMove_2 (v1 : Int32) (t_moves : Int32) (t_from : (Nat → Int32)) (post : Int32 → Prop) (K0 : Int32 → Prop) (rec : Int32 → Prop) (v2 : Int32) : Prop := ((t_moves ≤ v2 → (K0 v2)) ∧ (¬ (t_moves ≤ v2) → (vp_in v2 60 ∧ ((¬ (t_from v2.toNatClampNeg) = v1 → (rec ((v2 + (1 : Int32))))) ∧ ((t_from v2.toNatClampNeg) = v1 → (post v2))))))
def wp_X1_firstMove (a1 : Int32) (t_moves : Int32) (t_from : (Nat → Int32)) (post : Int32 → Prop) : Prop := (∃ n, fx1 (F_X1_firstMove_2 a1 t_moves t_from post (fun v2_1 => (post (-1 : Int32)))) n (0 : Int32))
abbrev rm_X1_firstMove : Room := { frames := 1, cells := 0, slots := 0, locals := 80 }
theorem in_X1_firstMove_X1 : ∀ w ∈ u_ws RX1 TX1 9, w ∈ wsX1_firstMove := by decide +kernel
theorem k_X1_firstMove_15 : Cond.fieldLink RX1 15 "ParityGame$Game" "from" "[I" ∈ wsX1_firstMove := by decide +kernel
theorem k_X1_firstMove_31 : Cond.fieldLink RX1 31 "ParityGame$Game" "moves" "I" ∈ wsX1_firstMove := by decide +kernel
set_option maxHeartbeats 40000000 in
set_option maxRecDepth 100000 in
theorem c_X1_firstMove (l : Launch) (D : va_G) (X : gX) (cI cZ cB cG : ClassId) (sz : Nat) (q_t : Nat) (q_t_from : Nat) (q_t_calls : Nat) (q_t_to : Nat) (q_t_heard : Nat) (a1 : Int32) (t_places : Int32) (t_odd : Int32) (t_moves : Int32) (t_token : Int32) (t_made : Int32) (t_from : (Nat → Int32)) (post : Int32 → Prop) (hf : wp_X1_firstMove a1 t_moves t_from post) : Met l yX1_firstMove wsX1_firstMove rm_X1_firstMove (gP D X (gT cI cZ cB cG) sz [.ref q_t, .int a1] (wd_X1_firstMove cI cZ cB cG q_t q_t_from q_t_calls q_t_to q_t_heard t_places t_odd t_moves t_token t_made t_from)) (va_Qi (fun (r : Int32) (u : Unit) => post r) (fun u t => gB D (gT cI cZ cB cG) (va_A (wd_X1_firstMove cI cZ cB cG q_t q_t_from q_t_calls q_t_to q_t_heard t_places t_odd t_moves t_token t_made t_from) sz) (wd_X1_firstMove cI cZ cB cG q_t q_t_from q_t_calls q_t_to q_t_heard t_places t_odd t_moves t_token t_made t_from) t) (va_A (wd_X1_firstMove cI cZ cB cG q_t q_t_from q_t_calls q_t_to q_t_heard t_places t_odd t_moves t_token t_made t_from) sz)) 0 0 (va_A (wd_X1_firstMove cI cZ cB cG q_t q_t_from q_t_calls q_t_to q_t_heard t_places t_odd t_moves t_token t_made t_from) sz) := by
  refine g_ofWi (cc := cX1_firstMove) (maxL := 3) (by decide +kernel) (Nat.le_of_ble_eq_true rfl) rfl ?_
  intro p e s m args below meth c A Q hx hb hml hown hts hA hK hE H hP hD hS ls hl hret
  have hinX1 := in_X1_firstMove_X1
  have k15 := hts _ k_X1_firstMove_15
  have k31 := hts _ k_X1_firstMove_31
  have hl : lv_has ls 3 [(0, .ref q_t), (1, .int a1)] := hl
  have L2 : ∀ (v1 : Int32) (K0 : Int32 → Prop) (_ : ∀ (v2 : Int32) (H : Heap) (locs : List Loc) (ls : Array Slot), K0 v2 → va_P D vwCl (wd_X1_firstMove cI cZ cB cG q_t q_t_from q_t_calls q_t_to q_t_heard t_places t_odd t_moves t_token t_made t_from) H → va_D A (wd_X1_firstMove cI cZ cB cG q_t q_t_from q_t_calls q_t_to q_t_heard t_places t_odd t_moves t_token t_made t_from) → va_S A s.heap H locs → lv_has ls 3 [] → W p l e (rm_X1_firstMove) s m args below meth c H locs 0 0 Q (F0 m 28 ls []))  (n : Nat) (v2 : Int32) (H : Heap) (locs : List Loc) (ls : Array Slot), fx1 (F_X1_firstMove_2 v1 t_moves t_from post K0) n v2 → va_P D vwCl (wd_X1_firstMove cI cZ cB cG q_t q_t_from q_t_calls q_t_to q_t_heard t_places t_odd t_moves t_token t_made t_from) H → va_D A (wd_X1_firstMove cI cZ cB cG q_t q_t_from q_t_calls q_t_to q_t_heard t_places t_odd t_moves t_token t_made t_from) → va_S A s.heap H locs → lv_has ls 3 [(0, .ref q_t), (1, .int v1), (2, .int v2)] → W p l e (rm_X1_firstMove) s m args below meth c H locs 0 0 Q (F0 m 2 ls []) := by
    intro v1 K0 hK0 n
    induction n with
    | zero => intro v2 H locs ls hf; exact (hf : False).elim
    | succ n ih =>
      intro v2 H locs ls hf hP hD hS hl
      have hf : F_X1_firstMove_2 v1 t_moves t_from post K0 (fx1 (F_X1_firstMove_2 v1 t_moves t_from post K0) n) v2 := hf
      unfold F_X1_firstMove_2 at hf
      refine lv_iload_n hx hb dX1_firstMove_2 rfl (lv_at hl 2 rfl) ?_
      refine lv_aload_n hx hb dX1_firstMove_3 rfl (lv_at hl 0 rfl) ?_
      refine va_get (D := D) (ci := 1) (v := .int t_moves) (C := RX1) (T := TX1) (N := 9) hx hb hts hinX1 hown hK hP 0 rfl rfl 3 (by decide) k31 (fun _ h9 => h9) rfl dX1_firstMove_4 ?_
      refine lv_icmp_ge (tgt := 28) hx hb dX1_firstMove_7 (by decide) (fun hc => ?_) (fun hc => ?_)
      · have hf := hf.1 hc
        exact hK0 _ _ _ _ hf hP hD hS (lv_sub hl [] rfl)
      · have hf := hf.2 hc
        refine lv_aload_n hx hb dX1_firstMove_10 rfl (lv_at hl 0 rfl) ?_
        refine va_get (D := D) (ci := 1) (v := .ref q_t_from) (C := RX1) (T := TX1) (N := 9) hx hb hts hinX1 hown hK hP 0 rfl rfl 4 (by decide) k15 (fun _ h9 => h9) rfl dX1_firstMove_11 ?_
        refine lv_iload_n hx hb dX1_firstMove_14 rfl (lv_at hl 2 rfl) ?_
        refine va_iald hx hb hK hP 1 0 rfl rfl (n := 60) hf.1 dX1_firstMove_15 ?_
        have hf := hf.2
        refine lv_iload_n hx hb dX1_firstMove_16 rfl (lv_at hl 1 rfl) ?_
        refine lv_icmp_ne (tgt := 22) hx hb dX1_firstMove_17 (by decide) (fun hc => ?_) (fun hc => ?_)
        · have hf := hf.1 hc
          refine lv_iinc (v := (v2 + (1 : Int32))) (lv' := [(2, .int ((v2 + (1 : Int32)))), (0, .ref q_t), (1, .int v1)]) hx hb dX1_firstMove_22 hl (k := 2) rfl rfl (by decide) rfl (fun ls hl => ?_)
          refine lv_goto (tgt := 2) hx hb dX1_firstMove_25 (by decide) ?_
          exact ih _ _ _ _ hf hP hD hS (lv_sub hl [1, 2, 0] rfl)
        · have hf := hf.2 hc
          refine lv_iload_n hx hb dX1_firstMove_20 rfl (lv_at hl 2 rfl) ?_
          exact hret v2 () hf hP hD hS dX1_firstMove_21
  unfold wp_X1_firstMove at hf
  refine lv_iconst (v := (0 : Int32)) hx hb dX1_firstMove_0 (by decide) ?_
  refine lv_istore_n (lv' := [(2, .int (0 : Int32)), (0, .ref q_t), (1, .int a1)]) hx hb dX1_firstMove_1 rfl hl (by decide) rfl (fun ls hl => ?_)
  obtain ⟨n, hf⟩ := hf
  refine L2 a1 _ ?_  n _ _ _ _ hf hP hD hS (lv_sub hl [1, 2, 0] rfl)
  intro v2_1 H locs ls hf hP hD hS hl
  refine lv_iconst (v := (-1 : Int32)) hx hb dX1_firstMove_28 (by decide) ?_
  exact hret (-1 : Int32) () hf hP hD hS dX1_firstMove_29
abbrev wd_X1_appendPlace (cI cZ cB cG : ClassId) (q_t : Nat) (q_t_calls : Nat) (q_t_from : Nat) (q_t_to : Nat) (q_t_heard : Nat) (t_places : Int32) (t_odd : Int32) (t_moves : Int32) (t_token : Int32) (t_made : Int32) (t_calls : (Nat → Int32)) : va_W := [(q_t, .inr (1, [.int t_places, .int t_odd, .ref q_t_calls, .int t_moves, .ref q_t_from, .ref q_t_to, .int t_token, .int t_made, .ref q_t_heard])), (q_t_calls, .inl (cI, 20, .inl t_calls))]
def wp_X1_appendPlace (a1 : Int32) (a2 : Int32) (t_places : Int32) (t_odd : Int32) (t_calls : (Nat → Int32)) (post : Int32 → Int32 → (Nat → Int32) → Prop) : Prop := (((20 : Int32) ≤ t_places → (post t_places t_odd t_calls)) ∧ (¬ ((20 : Int32) ≤ t_places) → (vp_in t_places 20 ∧ (post ((t_places + (1 : Int32))) (((t_odd &&& (((1 : Int32) <<< (t_places &&& 31)) ^^^ (-1 : Int32))) ||| (a1 <<< (t_places &&& 31)))) (upd t_calls t_places.toNatClampNeg a2)))))
abbrev rm_X1_appendPlace : Room := { frames := 1, cells := 0, slots := 0, locals := 80 }
theorem in_X1_appendPlace_X1 : ∀ w ∈ u_ws RX1 TX1 9, w ∈ wsX1_appendPlace := by decide +kernel
theorem k_X1_appendPlace_9 : Cond.fieldLink RX1 9 "ParityGame$Game" "calls" "[I" ∈ wsX1_appendPlace := by decide +kernel
theorem k_X1_appendPlace_24 : Cond.fieldLink RX1 24 "ParityGame$Game" "places" "I" ∈ wsX1_appendPlace := by decide +kernel
theorem k_X1_appendPlace_28 : Cond.fieldLink RX1 28 "ParityGame$Game" "odd" "I" ∈ wsX1_appendPlace := by decide +kernel
set_option maxHeartbeats 40000000 in
set_option maxRecDepth 100000 in
theorem c_X1_appendPlace (l : Launch) (D : va_G) (X : gX) (cI cZ cB cG : ClassId) (sz : Nat) (q_t : Nat) (q_t_calls : Nat) (q_t_from : Nat) (q_t_to : Nat) (q_t_heard : Nat) (a1 : Int32) (a2 : Int32) (t_places : Int32) (t_odd : Int32) (t_moves : Int32) (t_token : Int32) (t_made : Int32) (t_calls : (Nat → Int32)) (post : Int32 → Int32 → (Nat → Int32) → Prop) (hf : wp_X1_appendPlace a1 a2 t_places t_odd t_calls post) : Met l yX1_appendPlace wsX1_appendPlace rm_X1_appendPlace (gP D X (gT cI cZ cB cG) sz [.ref q_t, .int a1, .int a2] (wd_X1_appendPlace cI cZ cB cG q_t q_t_calls q_t_from q_t_to q_t_heard t_places t_odd t_moves t_token t_made t_calls)) (va_Qv (fun (u : Int32 × Int32 × (Nat → Int32)) => post u.1 u.2.1 u.2.2) (fun u t => gB D (gT cI cZ cB cG) (va_A (wd_X1_appendPlace cI cZ cB cG q_t q_t_calls q_t_from q_t_to q_t_heard t_places t_odd t_moves t_token t_made t_calls) sz) (wd_X1_appendPlace cI cZ cB cG q_t q_t_calls q_t_from q_t_to q_t_heard u.1 u.2.1 t_moves t_token t_made u.2.2) t) (va_A (wd_X1_appendPlace cI cZ cB cG q_t q_t_calls q_t_from q_t_to q_t_heard t_places t_odd t_moves t_token t_made t_calls) sz)) 0 0 (va_A (wd_X1_appendPlace cI cZ cB cG q_t q_t_calls q_t_from q_t_to q_t_heard t_places t_odd t_moves t_token t_made t_calls) sz) := by
  refine g_ofWv (cc := cX1_appendPlace) (maxL := 3) (by decide +kernel) (Nat.le_of_ble_eq_true rfl) rfl ?_
  intro p e s m args below meth c A Q hx hb hml hown hts hA hK hE H hP hD hS ls hl hret
  have hinX1 := in_X1_appendPlace_X1
  have k9 := hts _ k_X1_appendPlace_9
  have k24 := hts _ k_X1_appendPlace_24
  have k28 := hts _ k_X1_appendPlace_28
  have hl : lv_has ls 3 [(0, .ref q_t), (1, .int a1), (2, .int a2)] := hl
  unfold wp_X1_appendPlace at hf
  refine lv_aload_n hx hb dX1_appendPlace_0 rfl (lv_at hl 0 rfl) ?_
  refine va_get (D := D) (ci := 1) (v := .int t_places) (C := RX1) (T := TX1) (N := 9) hx hb hts hinX1 hown hK hP 0 rfl rfl 0 (by decide) k24 (fun _ h9 => h9) rfl dX1_appendPlace_1 ?_
  refine lv_bipush (v := (20 : Int32)) hx hb dX1_appendPlace_4 (by decide) ?_
  refine lv_icmp_ge (tgt := 53) hx hb dX1_appendPlace_6 (by decide) (fun hc => ?_) (fun hc => ?_)
  · have hf := hf.1 hc
    exact hret (t_places, t_odd, t_calls) hf hP hD hS dX1_appendPlace_53
  · have hf := hf.2 hc
    refine lv_aload_n hx hb dX1_appendPlace_9 rfl (lv_at hl 0 rfl) ?_
    refine va_get (D := D) (ci := 1) (v := .ref q_t_calls) (C := RX1) (T := TX1) (N := 9) hx hb hts hinX1 hown hK hP 0 rfl rfl 2 (by decide) k9 (fun _ h9 => h9) rfl dX1_appendPlace_10 ?_
    refine lv_aload_n hx hb dX1_appendPlace_13 rfl (lv_at hl 0 rfl) ?_
    refine va_get (D := D) (ci := 1) (v := .int t_places) (C := RX1) (T := TX1) (N := 9) hx hb hts hinX1 hown hK hP 0 rfl rfl 0 (by decide) k24 (fun _ h9 => h9) rfl dX1_appendPlace_14 ?_
    refine lv_iload_n hx hb dX1_appendPlace_17 rfl (lv_at hl 2 rfl) ?_
    refine va_iast hx hb hK hP hD hS 1 0 rfl rfl (n := 20) hf.1 dX1_appendPlace_18 (fun H locs hP hD hS => ?_)
    have hf := hf.2
    have hP : va_P D vwCl (wd_X1_appendPlace cI cZ cB cG q_t q_t_calls q_t_from q_t_to q_t_heard t_places t_odd t_moves t_token t_made (upd t_calls t_places.toNatClampNeg a2)) H := hP
    have hD : va_D A (wd_X1_appendPlace cI cZ cB cG q_t q_t_calls q_t_from q_t_to q_t_heard t_places t_odd t_moves t_token t_made (upd t_calls t_places.toNatClampNeg a2)) := hD
    refine lv_aload_n hx hb dX1_appendPlace_19 rfl (lv_at hl 0 rfl) ?_
    refine lv_aload_n hx hb dX1_appendPlace_20 rfl (lv_at hl 0 rfl) ?_
    refine va_get (D := D) (ci := 1) (v := .int t_odd) (C := RX1) (T := TX1) (N := 9) hx hb hts hinX1 hown hK hP 0 rfl rfl 1 (by decide) k28 (fun _ h9 => h9) rfl dX1_appendPlace_21 ?_
    refine lv_iconst (v := (1 : Int32)) hx hb dX1_appendPlace_24 (by decide) ?_
    refine lv_aload_n hx hb dX1_appendPlace_25 rfl (lv_at hl 0 rfl) ?_
    refine va_get (D := D) (ci := 1) (v := .int t_places) (C := RX1) (T := TX1) (N := 9) hx hb hts hinX1 hown hK hP 0 rfl rfl 0 (by decide) k24 (fun _ h9 => h9) rfl dX1_appendPlace_26 ?_
    refine lv_ishl hx hb dX1_appendPlace_29 ?_
    refine lv_iconst (v := (-1 : Int32)) hx hb dX1_appendPlace_30 (by decide) ?_
    refine lv_ixor hx hb dX1_appendPlace_31 ?_
    refine lv_iand hx hb dX1_appendPlace_32 ?_
    refine lv_iload_n hx hb dX1_appendPlace_33 rfl (lv_at hl 1 rfl) ?_
    refine lv_aload_n hx hb dX1_appendPlace_34 rfl (lv_at hl 0 rfl) ?_
    refine va_get (D := D) (ci := 1) (v := .int t_places) (C := RX1) (T := TX1) (N := 9) hx hb hts hinX1 hown hK hP 0 rfl rfl 0 (by decide) k24 (fun _ h9 => h9) rfl dX1_appendPlace_35 ?_
    refine lv_ishl hx hb dX1_appendPlace_38 ?_
    refine lv_ior hx hb dX1_appendPlace_39 ?_
    refine va_put (D := D) (ci := 1) (v := .int (((t_odd &&& (((1 : Int32) <<< (t_places &&& 31)) ^^^ (-1 : Int32))) ||| (a1 <<< (t_places &&& 31))))) (ty := .int) (C := RX1) (T := TX1) (N := 9) hx hb hts hinX1 tyX1 tyX1_ok nmX1 hown hK hP hD hS 0 rfl rfl 1 (by decide) k28 (fun _ h9 => h9) rfl (by decide +kernel) rfl rfl (Nat.le_of_ble_eq_true rfl) dX1_appendPlace_40 (fun H locs hP hD hS => ?_)
    have hP : va_P D vwCl (wd_X1_appendPlace cI cZ cB cG q_t q_t_calls q_t_from q_t_to q_t_heard t_places (((t_odd &&& (((1 : Int32) <<< (t_places &&& 31)) ^^^ (-1 : Int32))) ||| (a1 <<< (t_places &&& 31)))) t_moves t_token t_made (upd t_calls t_places.toNatClampNeg a2)) H := hP
    have hD : va_D A (wd_X1_appendPlace cI cZ cB cG q_t q_t_calls q_t_from q_t_to q_t_heard t_places (((t_odd &&& (((1 : Int32) <<< (t_places &&& 31)) ^^^ (-1 : Int32))) ||| (a1 <<< (t_places &&& 31)))) t_moves t_token t_made (upd t_calls t_places.toNatClampNeg a2)) := hD
    refine lv_aload_n hx hb dX1_appendPlace_43 rfl (lv_at hl 0 rfl) ?_
    refine lv_dup hx hb dX1_appendPlace_44 rfl ?_
    refine va_get (D := D) (ci := 1) (v := .int t_places) (C := RX1) (T := TX1) (N := 9) hx hb hts hinX1 hown hK hP 0 rfl rfl 0 (by decide) k24 (fun _ h9 => h9) rfl dX1_appendPlace_45 ?_
    refine lv_iconst (v := (1 : Int32)) hx hb dX1_appendPlace_48 (by decide) ?_
    refine lv_iadd hx hb dX1_appendPlace_49 ?_
    refine va_put (D := D) (ci := 1) (v := .int ((t_places + (1 : Int32)))) (ty := .int) (C := RX1) (T := TX1) (N := 9) hx hb hts hinX1 tyX1 tyX1_ok nmX1 hown hK hP hD hS 0 rfl rfl 0 (by decide) k24 (fun _ h9 => h9) rfl (by decide +kernel) rfl rfl (Nat.le_of_ble_eq_true rfl) dX1_appendPlace_50 (fun H locs hP hD hS => ?_)
    have hP : va_P D vwCl (wd_X1_appendPlace cI cZ cB cG q_t q_t_calls q_t_from q_t_to q_t_heard ((t_places + (1 : Int32))) (((t_odd &&& (((1 : Int32) <<< (t_places &&& 31)) ^^^ (-1 : Int32))) ||| (a1 <<< (t_places &&& 31)))) t_moves t_token t_made (upd t_calls t_places.toNatClampNeg a2)) H := hP
    have hD : va_D A (wd_X1_appendPlace cI cZ cB cG q_t q_t_calls q_t_from q_t_to q_t_heard ((t_places + (1 : Int32))) (((t_odd &&& (((1 : Int32) <<< (t_places &&& 31)) ^^^ (-1 : Int32))) ||| (a1 <<< (t_places &&& 31)))) t_moves t_token t_made (upd t_calls t_places.toNatClampNeg a2)) := hD
    exact hret (((t_places + (1 : Int32)), ((t_odd &&& (((1 : Int32) <<< (t_places &&& 31)) ^^^ (-1 : Int32))) ||| (a1 <<< (t_places &&& 31))), (upd t_calls t_places.toNatClampNeg a2))) hf hP hD hS dX1_appendPlace_53
abbrev wd_X1_appendMove (cI cZ cB cG : ClassId) (q_t : Nat) (q_t_from : Nat) (q_t_to : Nat) (q_t_calls : Nat) (q_t_heard : Nat) (t_places : Int32) (t_odd : Int32) (t_moves : Int32) (t_token : Int32) (t_made : Int32) (t_from : (Nat → Int32)) (t_to : (Nat → Int32)) : va_W := [(q_t, .inr (1, [.int t_places, .int t_odd, .ref q_t_calls, .int t_moves, .ref q_t_from, .ref q_t_to, .int t_token, .int t_made, .ref q_t_heard])), (q_t_from, .inl (cI, 60, .inl t_from)), (q_t_to, .inl (cI, 60, .inl t_to))]
def wp_X1_appendMove (a1 : Int32) (a2 : Int32) (t_moves : Int32) (t_from : (Nat → Int32)) (t_to : (Nat → Int32)) (post : Int32 → (Nat → Int32) → (Nat → Int32) → Prop) : Prop := (((60 : Int32) ≤ t_moves → (post t_moves t_from t_to)) ∧ (¬ ((60 : Int32) ≤ t_moves) → (vp_in t_moves 60 ∧ (vp_in t_moves 60 ∧ (post ((t_moves + (1 : Int32))) (upd t_from t_moves.toNatClampNeg a1) (upd t_to t_moves.toNatClampNeg a2))))))
abbrev rm_X1_appendMove : Room := { frames := 1, cells := 0, slots := 0, locals := 80 }
theorem in_X1_appendMove_X1 : ∀ w ∈ u_ws RX1 TX1 9, w ∈ wsX1_appendMove := by decide +kernel
theorem k_X1_appendMove_15 : Cond.fieldLink RX1 15 "ParityGame$Game" "from" "[I" ∈ wsX1_appendMove := by decide +kernel
theorem k_X1_appendMove_18 : Cond.fieldLink RX1 18 "ParityGame$Game" "to" "[I" ∈ wsX1_appendMove := by decide +kernel
theorem k_X1_appendMove_31 : Cond.fieldLink RX1 31 "ParityGame$Game" "moves" "I" ∈ wsX1_appendMove := by decide +kernel
set_option maxHeartbeats 40000000 in
set_option maxRecDepth 100000 in
theorem c_X1_appendMove (l : Launch) (D : va_G) (X : gX) (cI cZ cB cG : ClassId) (sz : Nat) (q_t : Nat) (q_t_from : Nat) (q_t_to : Nat) (q_t_calls : Nat) (q_t_heard : Nat) (a1 : Int32) (a2 : Int32) (t_places : Int32) (t_odd : Int32) (t_moves : Int32) (t_token : Int32) (t_made : Int32) (t_from : (Nat → Int32)) (t_to : (Nat → Int32)) (post : Int32 → (Nat → Int32) → (Nat → Int32) → Prop) (hf : wp_X1_appendMove a1 a2 t_moves t_from t_to post) : Met l yX1_appendMove wsX1_appendMove rm_X1_appendMove (gP D X (gT cI cZ cB cG) sz [.ref q_t, .int a1, .int a2] (wd_X1_appendMove cI cZ cB cG q_t q_t_from q_t_to q_t_calls q_t_heard t_places t_odd t_moves t_token t_made t_from t_to)) (va_Qv (fun (u : Int32 × (Nat → Int32) × (Nat → Int32)) => post u.1 u.2.1 u.2.2) (fun u t => gB D (gT cI cZ cB cG) (va_A (wd_X1_appendMove cI cZ cB cG q_t q_t_from q_t_to q_t_calls q_t_heard t_places t_odd t_moves t_token t_made t_from t_to) sz) (wd_X1_appendMove cI cZ cB cG q_t q_t_from q_t_to q_t_calls q_t_heard t_places t_odd u.1 t_token t_made u.2.1 u.2.2) t) (va_A (wd_X1_appendMove cI cZ cB cG q_t q_t_from q_t_to q_t_calls q_t_heard t_places t_odd t_moves t_token t_made t_from t_to) sz)) 0 0 (va_A (wd_X1_appendMove cI cZ cB cG q_t q_t_from q_t_to q_t_calls q_t_heard t_places t_odd t_moves t_token t_made t_from t_to) sz) := by
  refine g_ofWv (cc := cX1_appendMove) (maxL := 3) (by decide +kernel) (Nat.le_of_ble_eq_true rfl) rfl ?_
  intro p e s m args below meth c A Q hx hb hml hown hts hA hK hE H hP hD hS ls hl hret
  have hinX1 := in_X1_appendMove_X1
  have k15 := hts _ k_X1_appendMove_15
  have k18 := hts _ k_X1_appendMove_18
  have k31 := hts _ k_X1_appendMove_31
  have hl : lv_has ls 3 [(0, .ref q_t), (1, .int a1), (2, .int a2)] := hl
  unfold wp_X1_appendMove at hf
  refine lv_aload_n hx hb dX1_appendMove_0 rfl (lv_at hl 0 rfl) ?_
  refine va_get (D := D) (ci := 1) (v := .int t_moves) (C := RX1) (T := TX1) (N := 9) hx hb hts hinX1 hown hK hP 0 rfl rfl 3 (by decide) k31 (fun _ h9 => h9) rfl dX1_appendMove_1 ?_
  refine lv_bipush (v := (60 : Int32)) hx hb dX1_appendMove_4 (by decide) ?_
  refine lv_icmp_ge (tgt := 39) hx hb dX1_appendMove_6 (by decide) (fun hc => ?_) (fun hc => ?_)
  · have hf := hf.1 hc
    exact hret (t_moves, t_from, t_to) hf hP hD hS dX1_appendMove_39
  · have hf := hf.2 hc
    refine lv_aload_n hx hb dX1_appendMove_9 rfl (lv_at hl 0 rfl) ?_
    refine va_get (D := D) (ci := 1) (v := .ref q_t_from) (C := RX1) (T := TX1) (N := 9) hx hb hts hinX1 hown hK hP 0 rfl rfl 4 (by decide) k15 (fun _ h9 => h9) rfl dX1_appendMove_10 ?_
    refine lv_aload_n hx hb dX1_appendMove_13 rfl (lv_at hl 0 rfl) ?_
    refine va_get (D := D) (ci := 1) (v := .int t_moves) (C := RX1) (T := TX1) (N := 9) hx hb hts hinX1 hown hK hP 0 rfl rfl 3 (by decide) k31 (fun _ h9 => h9) rfl dX1_appendMove_14 ?_
    refine lv_iload_n hx hb dX1_appendMove_17 rfl (lv_at hl 1 rfl) ?_
    refine va_iast hx hb hK hP hD hS 1 0 rfl rfl (n := 60) hf.1 dX1_appendMove_18 (fun H locs hP hD hS => ?_)
    have hf := hf.2
    have hP : va_P D vwCl (wd_X1_appendMove cI cZ cB cG q_t q_t_from q_t_to q_t_calls q_t_heard t_places t_odd t_moves t_token t_made (upd t_from t_moves.toNatClampNeg a1) t_to) H := hP
    have hD : va_D A (wd_X1_appendMove cI cZ cB cG q_t q_t_from q_t_to q_t_calls q_t_heard t_places t_odd t_moves t_token t_made (upd t_from t_moves.toNatClampNeg a1) t_to) := hD
    refine lv_aload_n hx hb dX1_appendMove_19 rfl (lv_at hl 0 rfl) ?_
    refine va_get (D := D) (ci := 1) (v := .ref q_t_to) (C := RX1) (T := TX1) (N := 9) hx hb hts hinX1 hown hK hP 0 rfl rfl 5 (by decide) k18 (fun _ h9 => h9) rfl dX1_appendMove_20 ?_
    refine lv_aload_n hx hb dX1_appendMove_23 rfl (lv_at hl 0 rfl) ?_
    refine va_get (D := D) (ci := 1) (v := .int t_moves) (C := RX1) (T := TX1) (N := 9) hx hb hts hinX1 hown hK hP 0 rfl rfl 3 (by decide) k31 (fun _ h9 => h9) rfl dX1_appendMove_24 ?_
    refine lv_iload_n hx hb dX1_appendMove_27 rfl (lv_at hl 2 rfl) ?_
    refine va_iast hx hb hK hP hD hS 2 0 rfl rfl (n := 60) hf.1 dX1_appendMove_28 (fun H locs hP hD hS => ?_)
    have hf := hf.2
    have hP : va_P D vwCl (wd_X1_appendMove cI cZ cB cG q_t q_t_from q_t_to q_t_calls q_t_heard t_places t_odd t_moves t_token t_made (upd t_from t_moves.toNatClampNeg a1) (upd t_to t_moves.toNatClampNeg a2)) H := hP
    have hD : va_D A (wd_X1_appendMove cI cZ cB cG q_t q_t_from q_t_to q_t_calls q_t_heard t_places t_odd t_moves t_token t_made (upd t_from t_moves.toNatClampNeg a1) (upd t_to t_moves.toNatClampNeg a2)) := hD
    refine lv_aload_n hx hb dX1_appendMove_29 rfl (lv_at hl 0 rfl) ?_
    refine lv_dup hx hb dX1_appendMove_30 rfl ?_
    refine va_get (D := D) (ci := 1) (v := .int t_moves) (C := RX1) (T := TX1) (N := 9) hx hb hts hinX1 hown hK hP 0 rfl rfl 3 (by decide) k31 (fun _ h9 => h9) rfl dX1_appendMove_31 ?_
    refine lv_iconst (v := (1 : Int32)) hx hb dX1_appendMove_34 (by decide) ?_
    refine lv_iadd hx hb dX1_appendMove_35 ?_
    refine va_put (D := D) (ci := 1) (v := .int ((t_moves + (1 : Int32)))) (ty := .int) (C := RX1) (T := TX1) (N := 9) hx hb hts hinX1 tyX1 tyX1_ok nmX1 hown hK hP hD hS 0 rfl rfl 3 (by decide) k31 (fun _ h9 => h9) rfl (by decide +kernel) rfl rfl (Nat.le_of_ble_eq_true rfl) dX1_appendMove_36 (fun H locs hP hD hS => ?_)
    have hP : va_P D vwCl (wd_X1_appendMove cI cZ cB cG q_t q_t_from q_t_to q_t_calls q_t_heard t_places t_odd ((t_moves + (1 : Int32))) t_token t_made (upd t_from t_moves.toNatClampNeg a1) (upd t_to t_moves.toNatClampNeg a2)) H := hP
    have hD : va_D A (wd_X1_appendMove cI cZ cB cG q_t q_t_from q_t_to q_t_calls q_t_heard t_places t_odd ((t_moves + (1 : Int32))) t_token t_made (upd t_from t_moves.toNatClampNeg a1) (upd t_to t_moves.toNatClampNeg a2)) := hD
    exact hret (((t_moves + (1 : Int32)), (upd t_from t_moves.toNatClampNeg a1), (upd t_to t_moves.toNatClampNeg a2))) hf hP hD hS dX1_appendMove_39
abbrev wd_X1_dropMove (cI cZ cB cG : ClassId) (q_t : Nat) (q_t_from : Nat) (q_t_to : Nat) (q_t_calls : Nat) (q_t_heard : Nat) (t_places : Int32) (t_odd : Int32) (t_moves : Int32) (t_token : Int32) (t_made : Int32) (t_from : (Nat → Int32)) (t_to : (Nat → Int32)) : va_W := [(q_t, .inr (1, [.int t_places, .int t_odd, .ref q_t_calls, .int t_moves, .ref q_t_from, .ref q_t_to, .int t_token, .int t_made, .ref q_t_heard])), (q_t_from, .inl (cI, 60, .inl t_from)), (q_t_to, .inl (cI, 60, .inl t_to))]
def F_X1_dropMove_2 (t_moves : Int32) (K0 : Int32 → (Nat → Int32) → (Nat → Int32) → Prop) (rec : Int32 → (Nat → Int32) → (Nat → Int32) → Prop) (v2 : Int32) (t_from : (Nat → Int32)) (t_to : (Nat → Int32)) : Prop := (((t_moves - (1 : Int32)) ≤ v2 → (K0 v2 t_from t_to)) ∧ (¬ ((t_moves - (1 : Int32)) ≤ v2) → (vp_in ((v2 + (1 : Int32))) 60 ∧ (vp_in v2 60 ∧ (vp_in ((v2 + (1 : Int32))) 60 ∧ (vp_in v2 60 ∧ (rec ((v2 + (1 : Int32))) ((upd t_from v2.toNatClampNeg ((t_from ((v2 + (1 : Int32))).toNatClampNeg)))) ((upd t_to v2.toNatClampNeg ((t_to ((v2 + (1 : Int32))).toNatClampNeg)))))))))))
def wp_X1_dropMove (a1 : Int32) (t_moves : Int32) (t_from : (Nat → Int32)) (t_to : (Nat → Int32)) (post : Int32 → (Nat → Int32) → (Nat → Int32) → Prop) : Prop := (∃ n, fx3 (F_X1_dropMove_2 t_moves (fun v2_1 t_from_2 t_to_3 => (post ((t_moves - (1 : Int32))) t_from_2 t_to_3))) n a1 t_from t_to)
abbrev rm_X1_dropMove : Room := { frames := 1, cells := 0, slots := 0, locals := 80 }
theorem in_X1_dropMove_X1 : ∀ w ∈ u_ws RX1 TX1 9, w ∈ wsX1_dropMove := by decide +kernel
theorem k_X1_dropMove_15 : Cond.fieldLink RX1 15 "ParityGame$Game" "from" "[I" ∈ wsX1_dropMove := by decide +kernel
theorem k_X1_dropMove_18 : Cond.fieldLink RX1 18 "ParityGame$Game" "to" "[I" ∈ wsX1_dropMove := by decide +kernel
theorem k_X1_dropMove_31 : Cond.fieldLink RX1 31 "ParityGame$Game" "moves" "I" ∈ wsX1_dropMove := by decide +kernel
set_option maxHeartbeats 40000000 in
set_option maxRecDepth 100000 in
theorem c_X1_dropMove (l : Launch) (D : va_G) (X : gX) (cI cZ cB cG : ClassId) (sz : Nat) (q_t : Nat) (q_t_from : Nat) (q_t_to : Nat) (q_t_calls : Nat) (q_t_heard : Nat) (a1 : Int32) (t_places : Int32) (t_odd : Int32) (t_moves : Int32) (t_token : Int32) (t_made : Int32) (t_from : (Nat → Int32)) (t_to : (Nat → Int32)) (post : Int32 → (Nat → Int32) → (Nat → Int32) → Prop) (hf : wp_X1_dropMove a1 t_moves t_from t_to post) : Met l yX1_dropMove wsX1_dropMove rm_X1_dropMove (gP D X (gT cI cZ cB cG) sz [.ref q_t, .int a1] (wd_X1_dropMove cI cZ cB cG q_t q_t_from q_t_to q_t_calls q_t_heard t_places t_odd t_moves t_token t_made t_from t_to)) (va_Qv (fun (u : Int32 × (Nat → Int32) × (Nat → Int32)) => post u.1 u.2.1 u.2.2) (fun u t => gB D (gT cI cZ cB cG) (va_A (wd_X1_dropMove cI cZ cB cG q_t q_t_from q_t_to q_t_calls q_t_heard t_places t_odd t_moves t_token t_made t_from t_to) sz) (wd_X1_dropMove cI cZ cB cG q_t q_t_from q_t_to q_t_calls q_t_heard t_places t_odd u.1 t_token t_made u.2.1 u.2.2) t) (va_A (wd_X1_dropMove cI cZ cB cG q_t q_t_from q_t_to q_t_calls q_t_heard t_places t_odd t_moves t_token t_made t_from t_to) sz)) 0 0 (va_A (wd_X1_dropMove cI cZ cB cG q_t q_t_from q_t_to q_t_calls q_t_heard t_places t_odd t_moves t_token t_made t_from t_to) sz) := by
  refine g_ofWv (cc := cX1_dropMove) (maxL := 3) (by decide +kernel) (Nat.le_of_ble_eq_true rfl) rfl ?_
  intro p e s m args below meth c A Q hx hb hml hown hts hA hK hE H hP hD hS ls hl hret
  have hinX1 := in_X1_dropMove_X1
  have k15 := hts _ k_X1_dropMove_15
  have k18 := hts _ k_X1_dropMove_18
  have k31 := hts _ k_X1_dropMove_31
  have hl : lv_has ls 3 [(0, .ref q_t), (1, .int a1)] := hl
  have L2 : ∀ (t_moves : Int32) (K0 : Int32 → (Nat → Int32) → (Nat → Int32) → Prop) (_ : ∀ (v2 : Int32) (t_from : (Nat → Int32)) (t_to : (Nat → Int32)) (H : Heap) (locs : List Loc) (ls : Array Slot), K0 v2 t_from t_to → va_P D vwCl (wd_X1_dropMove cI cZ cB cG q_t q_t_from q_t_to q_t_calls q_t_heard t_places t_odd t_moves t_token t_made t_from t_to) H → va_D A (wd_X1_dropMove cI cZ cB cG q_t q_t_from q_t_to q_t_calls q_t_heard t_places t_odd t_moves t_token t_made t_from t_to) → va_S A s.heap H locs → lv_has ls 3 [(0, .ref q_t)] → W p l e (rm_X1_dropMove) s m args below meth c H locs 0 0 Q (F0 m 46 ls []))  (n : Nat) (v2 : Int32) (t_from : (Nat → Int32)) (t_to : (Nat → Int32)) (H : Heap) (locs : List Loc) (ls : Array Slot), fx3 (F_X1_dropMove_2 t_moves K0) n v2 t_from t_to → va_P D vwCl (wd_X1_dropMove cI cZ cB cG q_t q_t_from q_t_to q_t_calls q_t_heard t_places t_odd t_moves t_token t_made t_from t_to) H → va_D A (wd_X1_dropMove cI cZ cB cG q_t q_t_from q_t_to q_t_calls q_t_heard t_places t_odd t_moves t_token t_made t_from t_to) → va_S A s.heap H locs → lv_has ls 3 [(0, .ref q_t), (2, .int v2)] → W p l e (rm_X1_dropMove) s m args below meth c H locs 0 0 Q (F0 m 2 ls []) := by
    intro t_moves K0 hK0 n
    induction n with
    | zero => intro v2 t_from t_to H locs ls hf; exact (hf : False).elim
    | succ n ih =>
      intro v2 t_from t_to H locs ls hf hP hD hS hl
      have hf : F_X1_dropMove_2 t_moves K0 (fx3 (F_X1_dropMove_2 t_moves K0) n) v2 t_from t_to := hf
      unfold F_X1_dropMove_2 at hf
      refine lv_iload_n hx hb dX1_dropMove_2 rfl (lv_at hl 1 rfl) ?_
      refine lv_aload_n hx hb dX1_dropMove_3 rfl (lv_at hl 0 rfl) ?_
      refine va_get (D := D) (ci := 1) (v := .int t_moves) (C := RX1) (T := TX1) (N := 9) hx hb hts hinX1 hown hK hP 0 rfl rfl 3 (by decide) k31 (fun _ h9 => h9) rfl dX1_dropMove_4 ?_
      refine lv_iconst (v := (1 : Int32)) hx hb dX1_dropMove_7 (by decide) ?_
      refine lv_isub hx hb dX1_dropMove_8 ?_
      refine lv_icmp_ge (tgt := 46) hx hb dX1_dropMove_9 (by decide) (fun hc => ?_) (fun hc => ?_)
      · have hf := hf.1 hc
        exact hK0 _ _ _ _ _ _ hf hP hD hS (lv_sub hl [0] rfl)
      · have hf := hf.2 hc
        refine lv_aload_n hx hb dX1_dropMove_12 rfl (lv_at hl 0 rfl) ?_
        refine va_get (D := D) (ci := 1) (v := .ref q_t_from) (C := RX1) (T := TX1) (N := 9) hx hb hts hinX1 hown hK hP 0 rfl rfl 4 (by decide) k15 (fun _ h9 => h9) rfl dX1_dropMove_13 ?_
        refine lv_iload_n hx hb dX1_dropMove_16 rfl (lv_at hl 1 rfl) ?_
        refine lv_aload_n hx hb dX1_dropMove_17 rfl (lv_at hl 0 rfl) ?_
        refine va_get (D := D) (ci := 1) (v := .ref q_t_from) (C := RX1) (T := TX1) (N := 9) hx hb hts hinX1 hown hK hP 0 rfl rfl 4 (by decide) k15 (fun _ h9 => h9) rfl dX1_dropMove_18 ?_
        refine lv_iload_n hx hb dX1_dropMove_21 rfl (lv_at hl 1 rfl) ?_
        refine lv_iconst (v := (1 : Int32)) hx hb dX1_dropMove_22 (by decide) ?_
        refine lv_iadd hx hb dX1_dropMove_23 ?_
        refine va_iald hx hb hK hP 1 0 rfl rfl (n := 60) hf.1 dX1_dropMove_24 ?_
        have hf := hf.2
        refine va_iast hx hb hK hP hD hS 1 0 rfl rfl (n := 60) hf.1 dX1_dropMove_25 (fun H locs hP hD hS => ?_)
        have hf := hf.2
        have hP : va_P D vwCl (wd_X1_dropMove cI cZ cB cG q_t q_t_from q_t_to q_t_calls q_t_heard t_places t_odd t_moves t_token t_made ((upd t_from v2.toNatClampNeg ((t_from ((v2 + (1 : Int32))).toNatClampNeg)))) t_to) H := hP
        have hD : va_D A (wd_X1_dropMove cI cZ cB cG q_t q_t_from q_t_to q_t_calls q_t_heard t_places t_odd t_moves t_token t_made ((upd t_from v2.toNatClampNeg ((t_from ((v2 + (1 : Int32))).toNatClampNeg)))) t_to) := hD
        refine lv_aload_n hx hb dX1_dropMove_26 rfl (lv_at hl 0 rfl) ?_
        refine va_get (D := D) (ci := 1) (v := .ref q_t_to) (C := RX1) (T := TX1) (N := 9) hx hb hts hinX1 hown hK hP 0 rfl rfl 5 (by decide) k18 (fun _ h9 => h9) rfl dX1_dropMove_27 ?_
        refine lv_iload_n hx hb dX1_dropMove_30 rfl (lv_at hl 1 rfl) ?_
        refine lv_aload_n hx hb dX1_dropMove_31 rfl (lv_at hl 0 rfl) ?_
        refine va_get (D := D) (ci := 1) (v := .ref q_t_to) (C := RX1) (T := TX1) (N := 9) hx hb hts hinX1 hown hK hP 0 rfl rfl 5 (by decide) k18 (fun _ h9 => h9) rfl dX1_dropMove_32 ?_
        refine lv_iload_n hx hb dX1_dropMove_35 rfl (lv_at hl 1 rfl) ?_
        refine lv_iconst (v := (1 : Int32)) hx hb dX1_dropMove_36 (by decide) ?_
        refine lv_iadd hx hb dX1_dropMove_37 ?_
        refine va_iald hx hb hK hP 2 0 rfl rfl (n := 60) hf.1 dX1_dropMove_38 ?_
        have hf := hf.2
        refine va_iast hx hb hK hP hD hS 2 0 rfl rfl (n := 60) hf.1 dX1_dropMove_39 (fun H locs hP hD hS => ?_)
        have hf := hf.2
        have hP : va_P D vwCl (wd_X1_dropMove cI cZ cB cG q_t q_t_from q_t_to q_t_calls q_t_heard t_places t_odd t_moves t_token t_made ((upd t_from v2.toNatClampNeg ((t_from ((v2 + (1 : Int32))).toNatClampNeg)))) ((upd t_to v2.toNatClampNeg ((t_to ((v2 + (1 : Int32))).toNatClampNeg))))) H := hP
        have hD : va_D A (wd_X1_dropMove cI cZ cB cG q_t q_t_from q_t_to q_t_calls q_t_heard t_places t_odd t_moves t_token t_made ((upd t_from v2.toNatClampNeg ((t_from ((v2 + (1 : Int32))).toNatClampNeg)))) ((upd t_to v2.toNatClampNeg ((t_to ((v2 + (1 : Int32))).toNatClampNeg))))) := hD
        refine lv_iinc (v := (v2 + (1 : Int32))) (lv' := [(2, .int ((v2 + (1 : Int32)))), (0, .ref q_t)]) hx hb dX1_dropMove_40 hl (k := 1) rfl rfl (by decide) rfl (fun ls hl => ?_)
        refine lv_goto (tgt := 2) hx hb dX1_dropMove_43 (by decide) ?_
        exact ih _ _ _ _ _ _ hf hP hD hS (lv_sub hl [1, 0] rfl)
  unfold wp_X1_dropMove at hf
  refine lv_iload_n hx hb dX1_dropMove_0 rfl (lv_at hl 1 rfl) ?_
  refine lv_istore_n (lv' := [(2, .int a1), (0, .ref q_t), (1, .int a1)]) hx hb dX1_dropMove_1 rfl hl (by decide) rfl (fun ls hl => ?_)
  obtain ⟨n, hf⟩ := hf
  refine L2 t_moves _ ?_  n _ _ _ _ _ _ hf hP hD hS (lv_sub hl [1, 0] rfl)
  intro v2_1 t_from_2 t_to_3 H locs ls hf hP hD hS hl
  refine lv_aload_n hx hb dX1_dropMove_46 rfl (lv_at hl 0 rfl) ?_
  refine lv_dup hx hb dX1_dropMove_47 rfl ?_
  refine va_get (D := D) (ci := 1) (v := .int t_moves) (C := RX1) (T := TX1) (N := 9) hx hb hts hinX1 hown hK hP 0 rfl rfl 3 (by decide) k31 (fun _ h9 => h9) rfl dX1_dropMove_48 ?_
  refine lv_iconst (v := (1 : Int32)) hx hb dX1_dropMove_51 (by decide) ?_
  refine lv_isub hx hb dX1_dropMove_52 ?_
  refine va_put (D := D) (ci := 1) (v := .int ((t_moves - (1 : Int32)))) (ty := .int) (C := RX1) (T := TX1) (N := 9) hx hb hts hinX1 tyX1 tyX1_ok nmX1 hown hK hP hD hS 0 rfl rfl 3 (by decide) k31 (fun _ h9 => h9) rfl (by decide +kernel) rfl rfl (Nat.le_of_ble_eq_true rfl) dX1_dropMove_53 (fun H locs hP hD hS => ?_)
  have hP : va_P D vwCl (wd_X1_dropMove cI cZ cB cG q_t q_t_from q_t_to q_t_calls q_t_heard t_places t_odd ((t_moves - (1 : Int32))) t_token t_made t_from_2 t_to_3) H := hP
  have hD : va_D A (wd_X1_dropMove cI cZ cB cG q_t q_t_from q_t_to q_t_calls q_t_heard t_places t_odd ((t_moves - (1 : Int32))) t_token t_made t_from_2 t_to_3) := hD
  exact hret (((t_moves - (1 : Int32)), t_from_2, t_to_3)) hf hP hD hS dX1_dropMove_56
abbrev wd_X1_bringToFront (cI cZ cB cG : ClassId) (q_t : Nat) (q_t_from : Nat) (q_t_to : Nat) (q_t_calls : Nat) (q_t_heard : Nat) (t_places : Int32) (t_odd : Int32) (t_moves : Int32) (t_token : Int32) (t_made : Int32) (t_from : (Nat → Int32)) (t_to : (Nat → Int32)) : va_W := [(q_t, .inr (1, [.int t_places, .int t_odd, .ref q_t_calls, .int t_moves, .ref q_t_from, .ref q_t_to, .int t_token, .int t_made, .ref q_t_heard])), (q_t_from, .inl (cI, 60, .inl t_from)), (q_t_to, .inl (cI, 60, .inl t_to))]
def F_X1_bringToFront_17 (K0 : Int32 → (Nat → Int32) → (Nat → Int32) → Prop) (rec : Int32 → (Nat → Int32) → (Nat → Int32) → Prop) (v4 : Int32) (t_from : (Nat → Int32)) (t_to : (Nat → Int32)) : Prop := ((v4 ≤ (0 : Int32) → (K0 v4 t_from t_to)) ∧ (¬ (v4 ≤ (0 : Int32)) → (vp_in ((v4 - (1 : Int32))) 60 ∧ (vp_in v4 60 ∧ (vp_in ((v4 - (1 : Int32))) 60 ∧ (vp_in v4 60 ∧ (rec ((v4 + (-1 : Int32))) ((upd t_from v4.toNatClampNeg ((t_from ((v4 - (1 : Int32))).toNatClampNeg)))) ((upd t_to v4.toNatClampNeg ((t_to ((v4 - (1 : Int32))).toNatClampNeg)))))))))))
def wp_X1_bringToFront (a1 : Int32) (t_from : (Nat → Int32)) (t_to : (Nat → Int32)) (post : (Nat → Int32) → (Nat → Int32) → Prop) : Prop := (vp_in a1 60 ∧ (vp_in a1 60 ∧ (∃ n, fx3 (F_X1_bringToFront_17 (fun v4_1 t_from_2 t_to_3 => (post ((upd t_from_2 0 (t_from a1.toNatClampNeg))) ((upd t_to_3 0 (t_to a1.toNatClampNeg)))))) n a1 t_from t_to)))
abbrev rm_X1_bringToFront : Room := { frames := 1, cells := 0, slots := 0, locals := 80 }
theorem in_X1_bringToFront_X1 : ∀ w ∈ u_ws RX1 TX1 9, w ∈ wsX1_bringToFront := by decide +kernel
theorem k_X1_bringToFront_15 : Cond.fieldLink RX1 15 "ParityGame$Game" "from" "[I" ∈ wsX1_bringToFront := by decide +kernel
theorem k_X1_bringToFront_18 : Cond.fieldLink RX1 18 "ParityGame$Game" "to" "[I" ∈ wsX1_bringToFront := by decide +kernel
set_option maxHeartbeats 40000000 in
set_option maxRecDepth 100000 in
theorem c_X1_bringToFront (l : Launch) (D : va_G) (X : gX) (cI cZ cB cG : ClassId) (sz : Nat) (q_t : Nat) (q_t_from : Nat) (q_t_to : Nat) (q_t_calls : Nat) (q_t_heard : Nat) (a1 : Int32) (t_places : Int32) (t_odd : Int32) (t_moves : Int32) (t_token : Int32) (t_made : Int32) (t_from : (Nat → Int32)) (t_to : (Nat → Int32)) (post : (Nat → Int32) → (Nat → Int32) → Prop) (hf : wp_X1_bringToFront a1 t_from t_to post) : Met l yX1_bringToFront wsX1_bringToFront rm_X1_bringToFront (gP D X (gT cI cZ cB cG) sz [.ref q_t, .int a1] (wd_X1_bringToFront cI cZ cB cG q_t q_t_from q_t_to q_t_calls q_t_heard t_places t_odd t_moves t_token t_made t_from t_to)) (va_Qv (fun (u : (Nat → Int32) × (Nat → Int32)) => post u.1 u.2) (fun u t => gB D (gT cI cZ cB cG) (va_A (wd_X1_bringToFront cI cZ cB cG q_t q_t_from q_t_to q_t_calls q_t_heard t_places t_odd t_moves t_token t_made t_from t_to) sz) (wd_X1_bringToFront cI cZ cB cG q_t q_t_from q_t_to q_t_calls q_t_heard t_places t_odd t_moves t_token t_made u.1 u.2) t) (va_A (wd_X1_bringToFront cI cZ cB cG q_t q_t_from q_t_to q_t_calls q_t_heard t_places t_odd t_moves t_token t_made t_from t_to) sz)) 0 0 (va_A (wd_X1_bringToFront cI cZ cB cG q_t q_t_from q_t_to q_t_calls q_t_heard t_places t_odd t_moves t_token t_made t_from t_to) sz) := by
  refine g_ofWv (cc := cX1_bringToFront) (maxL := 5) (by decide +kernel) (Nat.le_of_ble_eq_true rfl) rfl ?_
  intro p e s m args below meth c A Q hx hb hml hown hts hA hK hE H hP hD hS ls hl hret
  have hinX1 := in_X1_bringToFront_X1
  have k15 := hts _ k_X1_bringToFront_15
  have k18 := hts _ k_X1_bringToFront_18
  have hl : lv_has ls 5 [(0, .ref q_t), (1, .int a1)] := hl
  have L17 : ∀ (v2 : Int32) (v3 : Int32) (K0 : Int32 → (Nat → Int32) → (Nat → Int32) → Prop) (_ : ∀ (v4 : Int32) (t_from : (Nat → Int32)) (t_to : (Nat → Int32)) (H : Heap) (locs : List Loc) (ls : Array Slot), K0 v4 t_from t_to → va_P D vwCl (wd_X1_bringToFront cI cZ cB cG q_t q_t_from q_t_to q_t_calls q_t_heard t_places t_odd t_moves t_token t_made t_from t_to) H → va_D A (wd_X1_bringToFront cI cZ cB cG q_t q_t_from q_t_to q_t_calls q_t_heard t_places t_odd t_moves t_token t_made t_from t_to) → va_S A s.heap H locs → lv_has ls 5 [(0, .ref q_t), (2, .int v2), (3, .int v3)] → W p l e (rm_X1_bringToFront) s m args below meth c H locs 0 0 Q (F0 m 60 ls []))  (n : Nat) (v4 : Int32) (t_from : (Nat → Int32)) (t_to : (Nat → Int32)) (H : Heap) (locs : List Loc) (ls : Array Slot), fx3 (F_X1_bringToFront_17 K0) n v4 t_from t_to → va_P D vwCl (wd_X1_bringToFront cI cZ cB cG q_t q_t_from q_t_to q_t_calls q_t_heard t_places t_odd t_moves t_token t_made t_from t_to) H → va_D A (wd_X1_bringToFront cI cZ cB cG q_t q_t_from q_t_to q_t_calls q_t_heard t_places t_odd t_moves t_token t_made t_from t_to) → va_S A s.heap H locs → lv_has ls 5 [(0, .ref q_t), (2, .int v2), (3, .int v3), (4, .int v4)] → W p l e (rm_X1_bringToFront) s m args below meth c H locs 0 0 Q (F0 m 17 ls []) := by
    intro v2 v3 K0 hK0 n
    induction n with
    | zero => intro v4 t_from t_to H locs ls hf; exact (hf : False).elim
    | succ n ih =>
      intro v4 t_from t_to H locs ls hf hP hD hS hl
      have hf : F_X1_bringToFront_17 K0 (fx3 (F_X1_bringToFront_17 K0) n) v4 t_from t_to := hf
      unfold F_X1_bringToFront_17 at hf
      refine lv_iload hx hb dX1_bringToFront_17 (lv_at hl 3 rfl) ?_
      refine lv_if_le (tgt := 60) hx hb dX1_bringToFront_19 (by decide) (fun hc => ?_) (fun hc => ?_)
      · have hf := hf.1 hc
        exact hK0 _ _ _ _ _ _ hf hP hD hS (lv_sub hl [0, 1, 2] rfl)
      · have hf := hf.2 hc
        refine lv_aload_n hx hb dX1_bringToFront_22 rfl (lv_at hl 0 rfl) ?_
        refine va_get (D := D) (ci := 1) (v := .ref q_t_from) (C := RX1) (T := TX1) (N := 9) hx hb hts hinX1 hown hK hP 0 rfl rfl 4 (by decide) k15 (fun _ h9 => h9) rfl dX1_bringToFront_23 ?_
        refine lv_iload hx hb dX1_bringToFront_26 (lv_at hl 3 rfl) ?_
        refine lv_aload_n hx hb dX1_bringToFront_28 rfl (lv_at hl 0 rfl) ?_
        refine va_get (D := D) (ci := 1) (v := .ref q_t_from) (C := RX1) (T := TX1) (N := 9) hx hb hts hinX1 hown hK hP 0 rfl rfl 4 (by decide) k15 (fun _ h9 => h9) rfl dX1_bringToFront_29 ?_
        refine lv_iload hx hb dX1_bringToFront_32 (lv_at hl 3 rfl) ?_
        refine lv_iconst (v := (1 : Int32)) hx hb dX1_bringToFront_34 (by decide) ?_
        refine lv_isub hx hb dX1_bringToFront_35 ?_
        refine va_iald hx hb hK hP 1 0 rfl rfl (n := 60) hf.1 dX1_bringToFront_36 ?_
        have hf := hf.2
        refine va_iast hx hb hK hP hD hS 1 0 rfl rfl (n := 60) hf.1 dX1_bringToFront_37 (fun H locs hP hD hS => ?_)
        have hf := hf.2
        have hP : va_P D vwCl (wd_X1_bringToFront cI cZ cB cG q_t q_t_from q_t_to q_t_calls q_t_heard t_places t_odd t_moves t_token t_made ((upd t_from v4.toNatClampNeg ((t_from ((v4 - (1 : Int32))).toNatClampNeg)))) t_to) H := hP
        have hD : va_D A (wd_X1_bringToFront cI cZ cB cG q_t q_t_from q_t_to q_t_calls q_t_heard t_places t_odd t_moves t_token t_made ((upd t_from v4.toNatClampNeg ((t_from ((v4 - (1 : Int32))).toNatClampNeg)))) t_to) := hD
        refine lv_aload_n hx hb dX1_bringToFront_38 rfl (lv_at hl 0 rfl) ?_
        refine va_get (D := D) (ci := 1) (v := .ref q_t_to) (C := RX1) (T := TX1) (N := 9) hx hb hts hinX1 hown hK hP 0 rfl rfl 5 (by decide) k18 (fun _ h9 => h9) rfl dX1_bringToFront_39 ?_
        refine lv_iload hx hb dX1_bringToFront_42 (lv_at hl 3 rfl) ?_
        refine lv_aload_n hx hb dX1_bringToFront_44 rfl (lv_at hl 0 rfl) ?_
        refine va_get (D := D) (ci := 1) (v := .ref q_t_to) (C := RX1) (T := TX1) (N := 9) hx hb hts hinX1 hown hK hP 0 rfl rfl 5 (by decide) k18 (fun _ h9 => h9) rfl dX1_bringToFront_45 ?_
        refine lv_iload hx hb dX1_bringToFront_48 (lv_at hl 3 rfl) ?_
        refine lv_iconst (v := (1 : Int32)) hx hb dX1_bringToFront_50 (by decide) ?_
        refine lv_isub hx hb dX1_bringToFront_51 ?_
        refine va_iald hx hb hK hP 2 0 rfl rfl (n := 60) hf.1 dX1_bringToFront_52 ?_
        have hf := hf.2
        refine va_iast hx hb hK hP hD hS 2 0 rfl rfl (n := 60) hf.1 dX1_bringToFront_53 (fun H locs hP hD hS => ?_)
        have hf := hf.2
        have hP : va_P D vwCl (wd_X1_bringToFront cI cZ cB cG q_t q_t_from q_t_to q_t_calls q_t_heard t_places t_odd t_moves t_token t_made ((upd t_from v4.toNatClampNeg ((t_from ((v4 - (1 : Int32))).toNatClampNeg)))) ((upd t_to v4.toNatClampNeg ((t_to ((v4 - (1 : Int32))).toNatClampNeg))))) H := hP
        have hD : va_D A (wd_X1_bringToFront cI cZ cB cG q_t q_t_from q_t_to q_t_calls q_t_heard t_places t_odd t_moves t_token t_made ((upd t_from v4.toNatClampNeg ((t_from ((v4 - (1 : Int32))).toNatClampNeg)))) ((upd t_to v4.toNatClampNeg ((t_to ((v4 - (1 : Int32))).toNatClampNeg))))) := hD
        refine lv_iinc (v := (v4 + (-1 : Int32))) (lv' := [(4, .int ((v4 + (-1 : Int32)))), (0, .ref q_t), (2, .int v2), (3, .int v3)]) hx hb dX1_bringToFront_54 hl (k := 3) rfl rfl (by decide) rfl (fun ls hl => ?_)
        refine lv_goto (tgt := 17) hx hb dX1_bringToFront_57 (by decide) ?_
        exact ih _ _ _ _ _ _ hf hP hD hS (lv_sub hl [1, 2, 3, 0] rfl)
  unfold wp_X1_bringToFront at hf
  refine lv_aload_n hx hb dX1_bringToFront_0 rfl (lv_at hl 0 rfl) ?_
  refine va_get (D := D) (ci := 1) (v := .ref q_t_from) (C := RX1) (T := TX1) (N := 9) hx hb hts hinX1 hown hK hP 0 rfl rfl 4 (by decide) k15 (fun _ h9 => h9) rfl dX1_bringToFront_1 ?_
  refine lv_iload_n hx hb dX1_bringToFront_4 rfl (lv_at hl 1 rfl) ?_
  refine va_iald hx hb hK hP 1 0 rfl rfl (n := 60) hf.1 dX1_bringToFront_5 ?_
  have hf := hf.2
  refine lv_istore_n (lv' := [(2, .int (t_from a1.toNatClampNeg)), (0, .ref q_t), (1, .int a1)]) hx hb dX1_bringToFront_6 rfl hl (by decide) rfl (fun ls hl => ?_)
  refine lv_aload_n hx hb dX1_bringToFront_7 rfl (lv_at hl 1 rfl) ?_
  refine va_get (D := D) (ci := 1) (v := .ref q_t_to) (C := RX1) (T := TX1) (N := 9) hx hb hts hinX1 hown hK hP 0 rfl rfl 5 (by decide) k18 (fun _ h9 => h9) rfl dX1_bringToFront_8 ?_
  refine lv_iload_n hx hb dX1_bringToFront_11 rfl (lv_at hl 2 rfl) ?_
  refine va_iald hx hb hK hP 2 0 rfl rfl (n := 60) hf.1 dX1_bringToFront_12 ?_
  have hf := hf.2
  refine lv_istore_n (lv' := [(3, .int (t_to a1.toNatClampNeg)), (2, .int (t_from a1.toNatClampNeg)), (0, .ref q_t), (1, .int a1)]) hx hb dX1_bringToFront_13 rfl hl (by decide) rfl (fun ls hl => ?_)
  refine lv_iload_n hx hb dX1_bringToFront_14 rfl (lv_at hl 3 rfl) ?_
  refine lv_istore (lv' := [(4, .int a1), (3, .int (t_to a1.toNatClampNeg)), (2, .int (t_from a1.toNatClampNeg)), (0, .ref q_t), (1, .int a1)]) hx hb dX1_bringToFront_15 hl (by decide) rfl (fun ls hl => ?_)
  obtain ⟨n, hf⟩ := hf
  refine L17 (t_from a1.toNatClampNeg) (t_to a1.toNatClampNeg) _ ?_  n _ _ _ _ _ _ hf hP hD hS (lv_sub hl [3, 2, 1, 0] rfl)
  intro v4_1 t_from_2 t_to_3 H locs ls hf hP hD hS hl
  refine lv_aload_n hx hb dX1_bringToFront_60 rfl (lv_at hl 0 rfl) ?_
  refine va_get (D := D) (ci := 1) (v := .ref q_t_from) (C := RX1) (T := TX1) (N := 9) hx hb hts hinX1 hown hK hP 0 rfl rfl 4 (by decide) k15 (fun _ h9 => h9) rfl dX1_bringToFront_61 ?_
  refine lv_iconst (v := (0 : Int32)) hx hb dX1_bringToFront_64 (by decide) ?_
  refine lv_iload_n hx hb dX1_bringToFront_65 rfl (lv_at hl 1 rfl) ?_
  refine va_iast hx hb hK hP hD hS 1 0 rfl rfl (n := 60) (by unfold vp_in; decide) dX1_bringToFront_66 (fun H locs hP hD hS => ?_)
  have hP : va_P D vwCl (wd_X1_bringToFront cI cZ cB cG q_t q_t_from q_t_to q_t_calls q_t_heard t_places t_odd t_moves t_token t_made ((upd t_from_2 0 (t_from a1.toNatClampNeg))) t_to_3) H := hP
  have hD : va_D A (wd_X1_bringToFront cI cZ cB cG q_t q_t_from q_t_to q_t_calls q_t_heard t_places t_odd t_moves t_token t_made ((upd t_from_2 0 (t_from a1.toNatClampNeg))) t_to_3) := hD
  refine lv_aload_n hx hb dX1_bringToFront_67 rfl (lv_at hl 0 rfl) ?_
  refine va_get (D := D) (ci := 1) (v := .ref q_t_to) (C := RX1) (T := TX1) (N := 9) hx hb hts hinX1 hown hK hP 0 rfl rfl 5 (by decide) k18 (fun _ h9 => h9) rfl dX1_bringToFront_68 ?_
  refine lv_iconst (v := (0 : Int32)) hx hb dX1_bringToFront_71 (by decide) ?_
  refine lv_iload_n hx hb dX1_bringToFront_72 rfl (lv_at hl 2 rfl) ?_
  refine va_iast hx hb hK hP hD hS 2 0 rfl rfl (n := 60) (by unfold vp_in; decide) dX1_bringToFront_73 (fun H locs hP hD hS => ?_)
  have hP : va_P D vwCl (wd_X1_bringToFront cI cZ cB cG q_t q_t_from q_t_to q_t_calls q_t_heard t_places t_odd t_moves t_token t_made ((upd t_from_2 0 (t_from a1.toNatClampNeg))) ((upd t_to_3 0 (t_to a1.toNatClampNeg)))) H := hP
  have hD : va_D A (wd_X1_bringToFront cI cZ cB cG q_t q_t_from q_t_to q_t_calls q_t_heard t_places t_odd t_moves t_token t_made ((upd t_from_2 0 (t_from a1.toNatClampNeg))) ((upd t_to_3 0 (t_to a1.toNatClampNeg)))) := hD
  exact hret (((upd t_from_2 0 (t_from a1.toNatClampNeg)), (upd t_to_3 0 (t_to a1.toNatClampNeg)))) hf hP hD hS dX1_bringToFront_74
abbrev wd_X1_layAt (cI cZ cB cG : ClassId) (q_t : Nat) (q_t_calls : Nat) (q_t_heard : Nat) (q_t_from : Nat) (q_t_to : Nat) (t_places : Int32) (t_odd : Int32) (t_moves : Int32) (t_token : Int32) (t_made : Int32) (t_calls : (Nat → Int32)) (t_heard : (Nat → Int32)) : va_W := [(q_t, .inr (1, [.int t_places, .int t_odd, .ref q_t_calls, .int t_moves, .ref q_t_from, .ref q_t_to, .int t_token, .int t_made, .ref q_t_heard])), (q_t_calls, .inl (cI, 20, .inl t_calls)), (q_t_heard, .inl (cI, 10, .inl t_heard))]
def F_X1_layAt_12 (K0 : Int32 → (Nat → Int32) → Prop) (rec : Int32 → (Nat → Int32) → Prop) (v2 : Int32) (t_heard : (Nat → Int32)) : Prop := (((10 : Int32) ≤ v2 → (K0 v2 t_heard)) ∧ (¬ ((10 : Int32) ≤ v2) → (vp_in v2 10 ∧ (rec ((v2 + (1 : Int32))) ((upd t_heard v2.toNatClampNeg (0 : Int32)))))))
def wp_X1_layAt (a1 : Int32) (t_calls : (Nat → Int32)) (t_heard : (Nat → Int32)) (post : Int32 → Int32 → (Nat → Int32) → Prop) : Prop := (∃ n, fx2 (F_X1_layAt_12 (fun v2_1 t_heard_2 => (vp_in a1 20 ∧ (vp_in (t_calls a1.toNatClampNeg) 10 ∧ (post a1 (0 : Int32) ((upd t_heard_2 (t_calls a1.toNatClampNeg).toNatClampNeg (1 : Int32)))))))) n (0 : Int32) t_heard)
abbrev rm_X1_layAt : Room := { frames := 1, cells := 0, slots := 0, locals := 80 }
theorem in_X1_layAt_X1 : ∀ w ∈ u_ws RX1 TX1 9, w ∈ wsX1_layAt := by decide +kernel
theorem k_X1_layAt_9 : Cond.fieldLink RX1 9 "ParityGame$Game" "calls" "[I" ∈ wsX1_layAt := by decide +kernel
theorem k_X1_layAt_21 : Cond.fieldLink RX1 21 "ParityGame$Game" "heard" "[I" ∈ wsX1_layAt := by decide +kernel
theorem k_X1_layAt_34 : Cond.fieldLink RX1 34 "ParityGame$Game" "token" "I" ∈ wsX1_layAt := by decide +kernel
theorem k_X1_layAt_37 : Cond.fieldLink RX1 37 "ParityGame$Game" "made" "I" ∈ wsX1_layAt := by decide +kernel
set_option maxHeartbeats 40000000 in
set_option maxRecDepth 100000 in
theorem c_X1_layAt (l : Launch) (D : va_G) (X : gX) (cI cZ cB cG : ClassId) (sz : Nat) (q_t : Nat) (q_t_calls : Nat) (q_t_heard : Nat) (q_t_from : Nat) (q_t_to : Nat) (a1 : Int32) (t_places : Int32) (t_odd : Int32) (t_moves : Int32) (t_token : Int32) (t_made : Int32) (t_calls : (Nat → Int32)) (t_heard : (Nat → Int32)) (post : Int32 → Int32 → (Nat → Int32) → Prop) (hf : wp_X1_layAt a1 t_calls t_heard post) : Met l yX1_layAt wsX1_layAt rm_X1_layAt (gP D X (gT cI cZ cB cG) sz [.ref q_t, .int a1] (wd_X1_layAt cI cZ cB cG q_t q_t_calls q_t_heard q_t_from q_t_to t_places t_odd t_moves t_token t_made t_calls t_heard)) (va_Qv (fun (u : Int32 × Int32 × (Nat → Int32)) => post u.1 u.2.1 u.2.2) (fun u t => gB D (gT cI cZ cB cG) (va_A (wd_X1_layAt cI cZ cB cG q_t q_t_calls q_t_heard q_t_from q_t_to t_places t_odd t_moves t_token t_made t_calls t_heard) sz) (wd_X1_layAt cI cZ cB cG q_t q_t_calls q_t_heard q_t_from q_t_to t_places t_odd t_moves u.1 u.2.1 t_calls u.2.2) t) (va_A (wd_X1_layAt cI cZ cB cG q_t q_t_calls q_t_heard q_t_from q_t_to t_places t_odd t_moves t_token t_made t_calls t_heard) sz)) 0 0 (va_A (wd_X1_layAt cI cZ cB cG q_t q_t_calls q_t_heard q_t_from q_t_to t_places t_odd t_moves t_token t_made t_calls t_heard) sz) := by
  refine g_ofWv (cc := cX1_layAt) (maxL := 3) (by decide +kernel) (Nat.le_of_ble_eq_true rfl) rfl ?_
  intro p e s m args below meth c A Q hx hb hml hown hts hA hK hE H hP hD hS ls hl hret
  have hinX1 := in_X1_layAt_X1
  have k9 := hts _ k_X1_layAt_9
  have k21 := hts _ k_X1_layAt_21
  have k34 := hts _ k_X1_layAt_34
  have k37 := hts _ k_X1_layAt_37
  have hl : lv_has ls 3 [(0, .ref q_t), (1, .int a1)] := hl
  have L12 : ∀ (v1 : Int32) (t_token : Int32) (t_made : Int32) (K0 : Int32 → (Nat → Int32) → Prop) (_ : ∀ (v2 : Int32) (t_heard : (Nat → Int32)) (H : Heap) (locs : List Loc) (ls : Array Slot), K0 v2 t_heard → va_P D vwCl (wd_X1_layAt cI cZ cB cG q_t q_t_calls q_t_heard q_t_from q_t_to t_places t_odd t_moves t_token t_made t_calls t_heard) H → va_D A (wd_X1_layAt cI cZ cB cG q_t q_t_calls q_t_heard q_t_from q_t_to t_places t_odd t_moves t_token t_made t_calls t_heard) → va_S A s.heap H locs → lv_has ls 3 [(0, .ref q_t), (1, .int v1)] → W p l e (rm_X1_layAt) s m args below meth c H locs 0 0 Q (F0 m 31 ls []))  (n : Nat) (v2 : Int32) (t_heard : (Nat → Int32)) (H : Heap) (locs : List Loc) (ls : Array Slot), fx2 (F_X1_layAt_12 K0) n v2 t_heard → va_P D vwCl (wd_X1_layAt cI cZ cB cG q_t q_t_calls q_t_heard q_t_from q_t_to t_places t_odd t_moves t_token t_made t_calls t_heard) H → va_D A (wd_X1_layAt cI cZ cB cG q_t q_t_calls q_t_heard q_t_from q_t_to t_places t_odd t_moves t_token t_made t_calls t_heard) → va_S A s.heap H locs → lv_has ls 3 [(0, .ref q_t), (1, .int v1), (2, .int v2)] → W p l e (rm_X1_layAt) s m args below meth c H locs 0 0 Q (F0 m 12 ls []) := by
    intro v1 t_token t_made K0 hK0 n
    induction n with
    | zero => intro v2 t_heard H locs ls hf; exact (hf : False).elim
    | succ n ih =>
      intro v2 t_heard H locs ls hf hP hD hS hl
      have hf : F_X1_layAt_12 K0 (fx2 (F_X1_layAt_12 K0) n) v2 t_heard := hf
      unfold F_X1_layAt_12 at hf
      refine lv_iload_n hx hb dX1_layAt_12 rfl (lv_at hl 2 rfl) ?_
      refine lv_bipush (v := (10 : Int32)) hx hb dX1_layAt_13 (by decide) ?_
      refine lv_icmp_ge (tgt := 31) hx hb dX1_layAt_15 (by decide) (fun hc => ?_) (fun hc => ?_)
      · have hf := hf.1 hc
        exact hK0 _ _ _ _ _ hf hP hD hS (lv_sub hl [0, 1] rfl)
      · have hf := hf.2 hc
        refine lv_aload_n hx hb dX1_layAt_18 rfl (lv_at hl 0 rfl) ?_
        refine va_get (D := D) (ci := 1) (v := .ref q_t_heard) (C := RX1) (T := TX1) (N := 9) hx hb hts hinX1 hown hK hP 0 rfl rfl 8 (by decide) k21 (fun _ h9 => h9) rfl dX1_layAt_19 ?_
        refine lv_iload_n hx hb dX1_layAt_22 rfl (lv_at hl 2 rfl) ?_
        refine lv_iconst (v := (0 : Int32)) hx hb dX1_layAt_23 (by decide) ?_
        refine va_iast hx hb hK hP hD hS 2 0 rfl rfl (n := 10) hf.1 dX1_layAt_24 (fun H locs hP hD hS => ?_)
        have hf := hf.2
        have hP : va_P D vwCl (wd_X1_layAt cI cZ cB cG q_t q_t_calls q_t_heard q_t_from q_t_to t_places t_odd t_moves t_token t_made t_calls ((upd t_heard v2.toNatClampNeg (0 : Int32)))) H := hP
        have hD : va_D A (wd_X1_layAt cI cZ cB cG q_t q_t_calls q_t_heard q_t_from q_t_to t_places t_odd t_moves t_token t_made t_calls ((upd t_heard v2.toNatClampNeg (0 : Int32)))) := hD
        refine lv_iinc (v := (v2 + (1 : Int32))) (lv' := [(2, .int ((v2 + (1 : Int32)))), (0, .ref q_t), (1, .int v1)]) hx hb dX1_layAt_25 hl (k := 2) rfl rfl (by decide) rfl (fun ls hl => ?_)
        refine lv_goto (tgt := 12) hx hb dX1_layAt_28 (by decide) ?_
        exact ih _ _ _ _ _ hf hP hD hS (lv_sub hl [1, 2, 0] rfl)
  unfold wp_X1_layAt at hf
  refine lv_aload_n hx hb dX1_layAt_0 rfl (lv_at hl 0 rfl) ?_
  refine lv_iload_n hx hb dX1_layAt_1 rfl (lv_at hl 1 rfl) ?_
  refine va_put (D := D) (ci := 1) (v := .int a1) (ty := .int) (C := RX1) (T := TX1) (N := 9) hx hb hts hinX1 tyX1 tyX1_ok nmX1 hown hK hP hD hS 0 rfl rfl 6 (by decide) k34 (fun _ h9 => h9) rfl (by decide +kernel) rfl rfl (Nat.le_of_ble_eq_true rfl) dX1_layAt_2 (fun H locs hP hD hS => ?_)
  have hP : va_P D vwCl (wd_X1_layAt cI cZ cB cG q_t q_t_calls q_t_heard q_t_from q_t_to t_places t_odd t_moves a1 t_made t_calls t_heard) H := hP
  have hD : va_D A (wd_X1_layAt cI cZ cB cG q_t q_t_calls q_t_heard q_t_from q_t_to t_places t_odd t_moves a1 t_made t_calls t_heard) := hD
  refine lv_aload_n hx hb dX1_layAt_5 rfl (lv_at hl 0 rfl) ?_
  refine lv_iconst (v := (0 : Int32)) hx hb dX1_layAt_6 (by decide) ?_
  refine va_put (D := D) (ci := 1) (v := .int (0 : Int32)) (ty := .int) (C := RX1) (T := TX1) (N := 9) hx hb hts hinX1 tyX1 tyX1_ok nmX1 hown hK hP hD hS 0 rfl rfl 7 (by decide) k37 (fun _ h9 => h9) rfl (by decide +kernel) rfl rfl (Nat.le_of_ble_eq_true rfl) dX1_layAt_7 (fun H locs hP hD hS => ?_)
  have hP : va_P D vwCl (wd_X1_layAt cI cZ cB cG q_t q_t_calls q_t_heard q_t_from q_t_to t_places t_odd t_moves a1 (0 : Int32) t_calls t_heard) H := hP
  have hD : va_D A (wd_X1_layAt cI cZ cB cG q_t q_t_calls q_t_heard q_t_from q_t_to t_places t_odd t_moves a1 (0 : Int32) t_calls t_heard) := hD
  refine lv_iconst (v := (0 : Int32)) hx hb dX1_layAt_10 (by decide) ?_
  refine lv_istore_n (lv' := [(2, .int (0 : Int32)), (0, .ref q_t), (1, .int a1)]) hx hb dX1_layAt_11 rfl hl (by decide) rfl (fun ls hl => ?_)
  obtain ⟨n, hf⟩ := hf
  refine L12 a1 a1 (0 : Int32) _ ?_  n _ _ _ _ _ hf hP hD hS (lv_sub hl [1, 2, 0] rfl)
  intro v2_1 t_heard_2 H locs ls hf hP hD hS hl
  refine lv_aload_n hx hb dX1_layAt_31 rfl (lv_at hl 0 rfl) ?_
  refine va_get (D := D) (ci := 1) (v := .ref q_t_heard) (C := RX1) (T := TX1) (N := 9) hx hb hts hinX1 hown hK hP 0 rfl rfl 8 (by decide) k21 (fun _ h9 => h9) rfl dX1_layAt_32 ?_
  refine lv_aload_n hx hb dX1_layAt_35 rfl (lv_at hl 0 rfl) ?_
  refine va_get (D := D) (ci := 1) (v := .ref q_t_calls) (C := RX1) (T := TX1) (N := 9) hx hb hts hinX1 hown hK hP 0 rfl rfl 2 (by decide) k9 (fun _ h9 => h9) rfl dX1_layAt_36 ?_
  refine lv_iload_n hx hb dX1_layAt_39 rfl (lv_at hl 1 rfl) ?_
  refine va_iald hx hb hK hP 1 0 rfl rfl (n := 20) hf.1 dX1_layAt_40 ?_
  have hf := hf.2
  refine lv_iconst (v := (1 : Int32)) hx hb dX1_layAt_41 (by decide) ?_
  refine va_iast hx hb hK hP hD hS 2 0 rfl rfl (n := 10) hf.1 dX1_layAt_42 (fun H locs hP hD hS => ?_)
  have hf := hf.2
  have hP : va_P D vwCl (wd_X1_layAt cI cZ cB cG q_t q_t_calls q_t_heard q_t_from q_t_to t_places t_odd t_moves a1 (0 : Int32) t_calls ((upd t_heard_2 (t_calls a1.toNatClampNeg).toNatClampNeg (1 : Int32)))) H := hP
  have hD : va_D A (wd_X1_layAt cI cZ cB cG q_t q_t_calls q_t_heard q_t_from q_t_to t_places t_odd t_moves a1 (0 : Int32) t_calls ((upd t_heard_2 (t_calls a1.toNatClampNeg).toNatClampNeg (1 : Int32)))) := hD
  exact hret ((a1, (0 : Int32), (upd t_heard_2 (t_calls a1.toNatClampNeg).toNatClampNeg (1 : Int32)))) hf hP hD hS dX1_layAt_43
abbrev wd_X1_step (cI cZ cB cG : ClassId) (q_t : Nat) (q_t_calls : Nat) (q_t_heard : Nat) (q_t_to : Nat) (q_t_from : Nat) (t_places : Int32) (t_odd : Int32) (t_moves : Int32) (t_token : Int32) (t_made : Int32) (t_calls : (Nat → Int32)) (t_heard : (Nat → Int32)) (t_to : (Nat → Int32)) : va_W := [(q_t, .inr (1, [.int t_places, .int t_odd, .ref q_t_calls, .int t_moves, .ref q_t_from, .ref q_t_to, .int t_token, .int t_made, .ref q_t_heard])), (q_t_calls, .inl (cI, 20, .inl t_calls)), (q_t_heard, .inl (cI, 10, .inl t_heard)), (q_t_to, .inl (cI, 60, .inl t_to))]
def wp_X1_step (a1 : Int32) (t_made : Int32) (t_calls : (Nat → Int32)) (t_heard : (Nat → Int32)) (t_to : (Nat → Int32)) (post : Int32 → Int32 → (Nat → Int32) → Prop) : Prop := (vp_in a1 60 ∧ (vp_in (t_to a1.toNatClampNeg) 20 ∧ (vp_in ((t_calls (t_to a1.toNatClampNeg).toNatClampNeg)) 10 ∧ (vp_in ((t_calls (t_to a1.toNatClampNeg).toNatClampNeg)) 10 ∧ (post (t_to a1.toNatClampNeg) ((t_made + (1 : Int32))) ((upd t_heard ((t_calls (t_to a1.toNatClampNeg).toNatClampNeg)).toNatClampNeg (((t_heard ((t_calls (t_to a1.toNatClampNeg).toNatClampNeg)).toNatClampNeg) + (1 : Int32))))))))))
abbrev rm_X1_step : Room := { frames := 1, cells := 0, slots := 0, locals := 80 }
theorem in_X1_step_X1 : ∀ w ∈ u_ws RX1 TX1 9, w ∈ wsX1_step := by decide +kernel
theorem k_X1_step_9 : Cond.fieldLink RX1 9 "ParityGame$Game" "calls" "[I" ∈ wsX1_step := by decide +kernel
theorem k_X1_step_18 : Cond.fieldLink RX1 18 "ParityGame$Game" "to" "[I" ∈ wsX1_step := by decide +kernel
theorem k_X1_step_21 : Cond.fieldLink RX1 21 "ParityGame$Game" "heard" "[I" ∈ wsX1_step := by decide +kernel
theorem k_X1_step_34 : Cond.fieldLink RX1 34 "ParityGame$Game" "token" "I" ∈ wsX1_step := by decide +kernel
theorem k_X1_step_37 : Cond.fieldLink RX1 37 "ParityGame$Game" "made" "I" ∈ wsX1_step := by decide +kernel
set_option maxHeartbeats 40000000 in
set_option maxRecDepth 100000 in
theorem c_X1_step (l : Launch) (D : va_G) (X : gX) (cI cZ cB cG : ClassId) (sz : Nat) (q_t : Nat) (q_t_calls : Nat) (q_t_heard : Nat) (q_t_to : Nat) (q_t_from : Nat) (a1 : Int32) (t_places : Int32) (t_odd : Int32) (t_moves : Int32) (t_token : Int32) (t_made : Int32) (t_calls : (Nat → Int32)) (t_heard : (Nat → Int32)) (t_to : (Nat → Int32)) (post : Int32 → Int32 → (Nat → Int32) → Prop) (hf : wp_X1_step a1 t_made t_calls t_heard t_to post) : Met l yX1_step wsX1_step rm_X1_step (gP D X (gT cI cZ cB cG) sz [.ref q_t, .int a1] (wd_X1_step cI cZ cB cG q_t q_t_calls q_t_heard q_t_to q_t_from t_places t_odd t_moves t_token t_made t_calls t_heard t_to)) (va_Qv (fun (u : Int32 × Int32 × (Nat → Int32)) => post u.1 u.2.1 u.2.2) (fun u t => gB D (gT cI cZ cB cG) (va_A (wd_X1_step cI cZ cB cG q_t q_t_calls q_t_heard q_t_to q_t_from t_places t_odd t_moves t_token t_made t_calls t_heard t_to) sz) (wd_X1_step cI cZ cB cG q_t q_t_calls q_t_heard q_t_to q_t_from t_places t_odd t_moves u.1 u.2.1 t_calls u.2.2 t_to) t) (va_A (wd_X1_step cI cZ cB cG q_t q_t_calls q_t_heard q_t_to q_t_from t_places t_odd t_moves t_token t_made t_calls t_heard t_to) sz)) 0 0 (va_A (wd_X1_step cI cZ cB cG q_t q_t_calls q_t_heard q_t_to q_t_from t_places t_odd t_moves t_token t_made t_calls t_heard t_to) sz) := by
  refine g_ofWv (cc := cX1_step) (maxL := 2) (by decide +kernel) (Nat.le_of_ble_eq_true rfl) rfl ?_
  intro p e s m args below meth c A Q hx hb hml hown hts hA hK hE H hP hD hS ls hl hret
  have hinX1 := in_X1_step_X1
  have k9 := hts _ k_X1_step_9
  have k18 := hts _ k_X1_step_18
  have k21 := hts _ k_X1_step_21
  have k34 := hts _ k_X1_step_34
  have k37 := hts _ k_X1_step_37
  have hl : lv_has ls 2 [(0, .ref q_t), (1, .int a1)] := hl
  unfold wp_X1_step at hf
  refine lv_aload_n hx hb dX1_step_0 rfl (lv_at hl 0 rfl) ?_
  refine lv_aload_n hx hb dX1_step_1 rfl (lv_at hl 0 rfl) ?_
  refine va_get (D := D) (ci := 1) (v := .ref q_t_to) (C := RX1) (T := TX1) (N := 9) hx hb hts hinX1 hown hK hP 0 rfl rfl 5 (by decide) k18 (fun _ h9 => h9) rfl dX1_step_2 ?_
  refine lv_iload_n hx hb dX1_step_5 rfl (lv_at hl 1 rfl) ?_
  refine va_iald hx hb hK hP 3 0 rfl rfl (n := 60) hf.1 dX1_step_6 ?_
  have hf := hf.2
  refine va_put (D := D) (ci := 1) (v := .int (t_to a1.toNatClampNeg)) (ty := .int) (C := RX1) (T := TX1) (N := 9) hx hb hts hinX1 tyX1 tyX1_ok nmX1 hown hK hP hD hS 0 rfl rfl 6 (by decide) k34 (fun _ h9 => h9) rfl (by decide +kernel) rfl rfl (Nat.le_of_ble_eq_true rfl) dX1_step_7 (fun H locs hP hD hS => ?_)
  have hP : va_P D vwCl (wd_X1_step cI cZ cB cG q_t q_t_calls q_t_heard q_t_to q_t_from t_places t_odd t_moves (t_to a1.toNatClampNeg) t_made t_calls t_heard t_to) H := hP
  have hD : va_D A (wd_X1_step cI cZ cB cG q_t q_t_calls q_t_heard q_t_to q_t_from t_places t_odd t_moves (t_to a1.toNatClampNeg) t_made t_calls t_heard t_to) := hD
  refine lv_aload_n hx hb dX1_step_10 rfl (lv_at hl 0 rfl) ?_
  refine lv_dup hx hb dX1_step_11 rfl ?_
  refine va_get (D := D) (ci := 1) (v := .int t_made) (C := RX1) (T := TX1) (N := 9) hx hb hts hinX1 hown hK hP 0 rfl rfl 7 (by decide) k37 (fun _ h9 => h9) rfl dX1_step_12 ?_
  refine lv_iconst (v := (1 : Int32)) hx hb dX1_step_15 (by decide) ?_
  refine lv_iadd hx hb dX1_step_16 ?_
  refine va_put (D := D) (ci := 1) (v := .int ((t_made + (1 : Int32)))) (ty := .int) (C := RX1) (T := TX1) (N := 9) hx hb hts hinX1 tyX1 tyX1_ok nmX1 hown hK hP hD hS 0 rfl rfl 7 (by decide) k37 (fun _ h9 => h9) rfl (by decide +kernel) rfl rfl (Nat.le_of_ble_eq_true rfl) dX1_step_17 (fun H locs hP hD hS => ?_)
  have hP : va_P D vwCl (wd_X1_step cI cZ cB cG q_t q_t_calls q_t_heard q_t_to q_t_from t_places t_odd t_moves (t_to a1.toNatClampNeg) ((t_made + (1 : Int32))) t_calls t_heard t_to) H := hP
  have hD : va_D A (wd_X1_step cI cZ cB cG q_t q_t_calls q_t_heard q_t_to q_t_from t_places t_odd t_moves (t_to a1.toNatClampNeg) ((t_made + (1 : Int32))) t_calls t_heard t_to) := hD
  refine lv_aload_n hx hb dX1_step_20 rfl (lv_at hl 0 rfl) ?_
  refine va_get (D := D) (ci := 1) (v := .ref q_t_heard) (C := RX1) (T := TX1) (N := 9) hx hb hts hinX1 hown hK hP 0 rfl rfl 8 (by decide) k21 (fun _ h9 => h9) rfl dX1_step_21 ?_
  refine lv_aload_n hx hb dX1_step_24 rfl (lv_at hl 0 rfl) ?_
  refine va_get (D := D) (ci := 1) (v := .ref q_t_calls) (C := RX1) (T := TX1) (N := 9) hx hb hts hinX1 hown hK hP 0 rfl rfl 2 (by decide) k9 (fun _ h9 => h9) rfl dX1_step_25 ?_
  refine lv_aload_n hx hb dX1_step_28 rfl (lv_at hl 0 rfl) ?_
  refine va_get (D := D) (ci := 1) (v := .int (t_to a1.toNatClampNeg)) (C := RX1) (T := TX1) (N := 9) hx hb hts hinX1 hown hK hP 0 rfl rfl 6 (by decide) k34 (fun _ h9 => h9) rfl dX1_step_29 ?_
  refine va_iald hx hb hK hP 1 0 rfl rfl (n := 20) hf.1 dX1_step_32 ?_
  have hf := hf.2
  refine lv_dup2_11 hx hb dX1_step_33 rfl rfl ?_
  refine va_iald hx hb hK hP 2 0 rfl rfl (n := 10) hf.1 dX1_step_34 ?_
  have hf := hf.2
  refine lv_iconst (v := (1 : Int32)) hx hb dX1_step_35 (by decide) ?_
  refine lv_iadd hx hb dX1_step_36 ?_
  refine va_iast hx hb hK hP hD hS 2 0 rfl rfl (n := 10) hf.1 dX1_step_37 (fun H locs hP hD hS => ?_)
  have hf := hf.2
  have hP : va_P D vwCl (wd_X1_step cI cZ cB cG q_t q_t_calls q_t_heard q_t_to q_t_from t_places t_odd t_moves (t_to a1.toNatClampNeg) ((t_made + (1 : Int32))) t_calls ((upd t_heard ((t_calls (t_to a1.toNatClampNeg).toNatClampNeg)).toNatClampNeg (((t_heard ((t_calls (t_to a1.toNatClampNeg).toNatClampNeg)).toNatClampNeg) + (1 : Int32))))) t_to) H := hP
  have hD : va_D A (wd_X1_step cI cZ cB cG q_t q_t_calls q_t_heard q_t_to q_t_from t_places t_odd t_moves (t_to a1.toNatClampNeg) ((t_made + (1 : Int32))) t_calls ((upd t_heard ((t_calls (t_to a1.toNatClampNeg).toNatClampNeg)).toNatClampNeg (((t_heard ((t_calls (t_to a1.toNatClampNeg).toNatClampNeg)).toNatClampNeg) + (1 : Int32))))) t_to) := hD
  exact hret (((t_to a1.toNatClampNeg), (t_made + (1 : Int32)), (upd t_heard ((t_calls (t_to a1.toNatClampNeg).toNatClampNeg)).toNatClampNeg (((t_heard ((t_calls (t_to a1.toNatClampNeg).toNatClampNeg)).toNatClampNeg) + (1 : Int32)))))) hf hP hD hS dX1_step_38
